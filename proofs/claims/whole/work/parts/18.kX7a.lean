abbrev rmX7_within : Room := { frames := 0, cells := 0, slots := 0, locals := 0 }
theorem cw_X7_within : CWs yX7_within cX7_within 3 (some .boolean) 3 := ⟨q4_78, q1_8, q4_79, ⟨by decide +kernel, by decide +kernel, by decide +kernel⟩⟩
set_option maxHeartbeats 4000000 in
set_option maxRecDepth 100000 in
theorem k_X7_within {τ : Type} {X : JX τ} (h : OK X RX7 cX7_within rmX7_within) (hnL : X.nL = 3) {res : Int32} {S : τ} {p1 : Int32} {p2 : Int32} {p3 : Int32} (hE : EXz X cX7_within res S) (hF : f_X7_within p1 p2 p3 = some res) : J X 0 [(0, .int p1), (1, .int p2), (2, .int p3)] [] S := by
  rw [f_X7_within] at hF
  refine j_iload_n h 0 rfl rfl dX7_within_0 ?_
  refine j_iload_n h 1 rfl rfl dX7_within_1 ?_
  refine j_icmp_lt h 14 (by decide) dX7_within_2 hF (fun hF => ?_) (fun hF => ?_)
  · refine j_iconst h (v := 0) (by decide) dX7_within_14 ?_
    cases hF
    exact hE _ _ dX7_within_15 (isB_v (y := (0 : Int32)) (by decide))
  · refine j_iload_n h 0 rfl rfl dX7_within_5 ?_
    refine j_iload_n h 2 rfl rfl dX7_within_6 ?_
    refine j_icmp_gt h 14 (by decide) dX7_within_7 hF (fun hF => ?_) (fun hF => ?_)
    · refine j_iconst h (v := 0) (by decide) dX7_within_14 ?_
      cases hF
      exact hE _ _ dX7_within_15 (isB_v (y := (0 : Int32)) (by decide))
    · refine j_iconst h (v := 1) (by decide) dX7_within_10 ?_
      refine j_goto h 15 (by decide) dX7_within_11 ?_
      cases hF
      exact hE _ _ dX7_within_15 (isB_v (y := (1 : Int32)) (by decide))
theorem c_X7_within (l : Launch) (D : va_G) (cI cZ cV : ClassId) {τ : Type} {B : τ → va_W} (S : τ) (p1 : Int32) (p2 : Int32) (p3 : Int32) {r : Int32} (hF : f_X7_within p1 p2 p3 = some r) : CTz l D (jtys cI cZ cV) yX7_within cX7_within 3 (some .boolean) rmX7_within B [.int p1, .int p2, .int p3] S r S := by
  refine CTz.of [(0, .int p1), (1, .int p2), (2, .int p3)] rfl (Nat.le_of_ble_eq_true rfl) (by decide) ⟨rfl, rfl⟩ (fun X e1 e2 e3 e4 e5 e6 e7 h hE => ?_)
  subst e1; subst e2; subst e3; subst e4; subst e5; subst e6
  exact k_X7_within h e7 hE hF
abbrev rmX7_of : Room := { frames := 0, cells := 0, slots := 0, locals := 0 }
theorem cw_X7_of : CWv RX7 yX7_of cX7_of 3 (some .int) 2 := ⟨q4_103, qs31, q1_8, q4_104, ⟨rfl, by decide +kernel, by decide +kernel, by decide +kernel⟩⟩
set_option maxHeartbeats 4000000 in
set_option maxRecDepth 100000 in
theorem k_X7_of {X : JX RS} {ad : Nat → Nat} (h : OK X RX7 cX7_of rmX7_of) (hM : IsRef X.cI X.B ad) (hnL : X.nL = 3) {res : Int32} {S : RS} {p1 : Int32} {p2 : Int32} (hE : EXi X cX7_of res S) (hF : f_X7_of S p1 p2 = some res) : J X 0 [(0, .ref (ad 7)), (1, .int p1), (2, .int p2)] [] S := by
  rw [f_X7_of] at hF
  refine j_aload_n h 0 rfl rfl dX7_of_0 ?_
  refine j_get h hM.2.1.o inX7 rfl 0 (by decide) rfl q4_24 rfl dX7_of_1 ?_
  refine j_bipush h (v := 8) (by decide) dX7_of_4 ?_
  refine j_iload_n h 1 rfl rfl dX7_of_6 ?_
  refine j_imul h dX7_of_7 ?_
  refine j_iload_n h 2 rfl rfl dX7_of_8 ?_
  refine j_iadd h dX7_of_9 ?_
  obtain ⟨hb_1, hF⟩ := bnd_row hF
  refine ja_iald h (get := fun S => S.1) (put := setR) (hM.1 0 (by decide)) hb_1 dX7_of_10 ?_
  cases hF
  exact hE _ _ dX7_of_11
theorem c_X7_of (l : Launch) (D : va_G) (cI cZ cV : ClassId) {B : RS → va_W} {ad : Nat → Nat} (hM : IsRef cI B ad) (S : RS) (p1 : Int32) (p2 : Int32) {r : Int32} (hF : f_X7_of S p1 p2 = some r) : CTi l D (jtys cI cZ cV) yX7_of cX7_of 3 (some .int) rmX7_of B [.ref (ad 7), .int p1, .int p2] S r S := by
  refine CTi.of [(0, .ref (ad 7)), (1, .int p1), (2, .int p2)] rfl (Nat.le_of_ble_eq_true rfl) (by decide) ⟨rfl, rfl⟩ (fun X e1 e2 e3 e4 e5 e6 e7 h hE => ?_)
  subst e1; subst e2; subst e3; subst e4; subst e5; subst e6
  exact k_X7_of h hM e7 hE hF
abbrev rmX7_add : Room := { frames := 0, cells := 0, slots := 0, locals := 0 }
theorem cw_X7_add : CWv RX7 yX7_add cX7_add 4 none 3 := ⟨q4_132, qs36, q1_8, q4_133, ⟨rfl, by decide +kernel, by decide +kernel, by decide +kernel⟩⟩
set_option maxHeartbeats 4000000 in
set_option maxRecDepth 100000 in
theorem k_X7_add {X : JX RS} {ad : Nat → Nat} (h : OK X RX7 cX7_add rmX7_add) (hM : IsRef X.cI X.B ad) (hnL : X.nL = 4) {res : RS} {S : RS} {p1 : Int32} {p2 : Int32} {p3 : Int32} (hE : EXv X cX7_add res) (hF : f_X7_add S p1 p2 p3 = some res) : J X 0 [(0, .ref (ad 7)), (1, .int p1), (2, .int p2), (3, .int p3)] [] S := by
  rw [f_X7_add] at hF
  refine j_aload_n h 0 rfl rfl dX7_add_0 ?_
  refine j_get h hM.2.1.o inX7 rfl 0 (by decide) rfl q4_24 rfl dX7_add_1 ?_
  refine j_bipush h (v := 8) (by decide) dX7_add_4 ?_
  refine j_iload_n h 1 rfl rfl dX7_add_6 ?_
  refine j_imul h dX7_add_7 ?_
  refine j_iload_n h 2 rfl rfl dX7_add_8 ?_
  refine j_iadd h dX7_add_9 ?_
  refine j_dup2 h rfl rfl dX7_add_10 ?_
  obtain ⟨hb_1, hF⟩ := bnd_row hF
  refine ja_iald h (get := fun S => S.1) (put := setR) (hM.1 0 (by decide)) hb_1 dX7_add_11 ?_
  refine j_iload_n h 3 rfl rfl dX7_add_12 ?_
  refine j_iadd h dX7_add_13 ?_
  obtain ⟨hb_2, hF⟩ := bnd_row hF
  refine ja_iast h (get := fun S => S.1) (put := setR) (hM.1 0 (by decide)) hb_2 dX7_add_14 ?_
  refine j_letS hF (fun S_3 hF => ?_)
  cases hF
  exact hE _ _ dX7_add_15
theorem c_X7_add (l : Launch) (D : va_G) (cI cZ cV : ClassId) {B : RS → va_W} {ad : Nat → Nat} (hM : IsRef cI B ad) (S : RS) (p1 : Int32) (p2 : Int32) (p3 : Int32) {r : RS} (hF : f_X7_add S p1 p2 p3 = some r) : CTv l D (jtys cI cZ cV) yX7_add cX7_add 4 none rmX7_add B [.ref (ad 7), .int p1, .int p2, .int p3] S r := by
  refine CTv.of [(0, .ref (ad 7)), (1, .int p1), (2, .int p2), (3, .int p3)] rfl (Nat.le_of_ble_eq_true rfl) (by decide) ⟨rfl, rfl⟩ (fun X e1 e2 e3 e4 e5 e6 e7 h hE => ?_)
  subst e1; subst e2; subst e3; subst e4; subst e5; subst e6
  exact k_X7_add h hM e7 hE hF
abbrev rmX7_loanOf : Room := { frames := 0, cells := 0, slots := 0, locals := 0 }
theorem cw_X7_loanOf : CWv RX7 yX7_loanOf cX7_loanOf 3 (some .int) 2 := ⟨q4_115, qs33, q1_8, q4_116, ⟨rfl, by decide +kernel, by decide +kernel, by decide +kernel⟩⟩
set_option maxHeartbeats 4000000 in
set_option maxRecDepth 100000 in
theorem k_X7_loanOf {X : JX RS} {ad : Nat → Nat} (h : OK X RX7 cX7_loanOf rmX7_loanOf) (hM : IsRef X.cI X.B ad) (hnL : X.nL = 3) {res : Int32} {S : RS} {p1 : Int32} {p2 : Int32} (hE : EXi X cX7_loanOf res S) (hF : f_X7_loanOf S p1 p2 = some res) : J X 0 [(0, .ref (ad 7)), (1, .int p1), (2, .int p2)] [] S := by
  rw [f_X7_loanOf] at hF
  refine j_aload_n h 0 rfl rfl dX7_loanOf_0 ?_
  refine j_get h hM.2.1.o inX7 rfl 0 (by decide) rfl q4_24 rfl dX7_loanOf_1 ?_
  refine j_bipush h (v := 80) (by decide) dX7_loanOf_4 ?_
  refine j_iconst h (v := 3) (by decide) dX7_loanOf_6 ?_
  refine j_iload_n h 1 rfl rfl dX7_loanOf_7 ?_
  refine j_imul h dX7_loanOf_8 ?_
  refine j_iadd h dX7_loanOf_9 ?_
  refine j_iload_n h 2 rfl rfl dX7_loanOf_10 ?_
  refine j_iadd h dX7_loanOf_11 ?_
  obtain ⟨hb_1, hF⟩ := bnd_row hF
  refine ja_iald h (get := fun S => S.1) (put := setR) (hM.1 0 (by decide)) hb_1 dX7_loanOf_12 ?_
  cases hF
  exact hE _ _ dX7_loanOf_13
theorem c_X7_loanOf (l : Launch) (D : va_G) (cI cZ cV : ClassId) {B : RS → va_W} {ad : Nat → Nat} (hM : IsRef cI B ad) (S : RS) (p1 : Int32) (p2 : Int32) {r : Int32} (hF : f_X7_loanOf S p1 p2 = some r) : CTi l D (jtys cI cZ cV) yX7_loanOf cX7_loanOf 3 (some .int) rmX7_loanOf B [.ref (ad 7), .int p1, .int p2] S r S := by
  refine CTi.of [(0, .ref (ad 7)), (1, .int p1), (2, .int p2)] rfl (Nat.le_of_ble_eq_true rfl) (by decide) ⟨rfl, rfl⟩ (fun X e1 e2 e3 e4 e5 e6 e7 h hE => ?_)
  subst e1; subst e2; subst e3; subst e4; subst e5; subst e6
  exact k_X7_loanOf h hM e7 hE hF
abbrev rmX7_cell : Room := { frames := 0, cells := 0, slots := 0, locals := 0 }
theorem cw_X7_cell : CWv RX7 yX7_cell cX7_cell 3 (some .int) 2 := ⟨q4_195, qs44, q1_8, q4_196, ⟨rfl, by decide +kernel, by decide +kernel, by decide +kernel⟩⟩
set_option maxHeartbeats 4000000 in
set_option maxRecDepth 100000 in
theorem k_X7_cell {X : JX RS} {ad : Nat → Nat} (h : OK X RX7 cX7_cell rmX7_cell) (hM : IsRef X.cI X.B ad) (hnL : X.nL = 3) {res : Int32} {S : RS} {p1 : Int32} {p2 : Int32} (hE : EXi X cX7_cell res S) (hF : f_X7_cell S p1 p2 = some res) : J X 0 [(0, .ref (ad 7)), (1, .int p1), (2, .int p2)] [] S := by
  rw [f_X7_cell] at hF
  refine j_aload_n h 0 rfl rfl dX7_cell_0 ?_
  refine j_get h hM.2.1.o inX7 rfl 0 (by decide) rfl q4_24 rfl dX7_cell_1 ?_
  refine j_bipush h (v := 116) (by decide) dX7_cell_4 ?_
  refine j_iconst h (v := 4) (by decide) dX7_cell_6 ?_
  refine j_iload_n h 1 rfl rfl dX7_cell_7 ?_
  refine j_imul h dX7_cell_8 ?_
  refine j_iadd h dX7_cell_9 ?_
  refine j_iload_n h 2 rfl rfl dX7_cell_10 ?_
  refine j_iadd h dX7_cell_11 ?_
  obtain ⟨hb_1, hF⟩ := bnd_row hF
  refine ja_iald h (get := fun S => S.1) (put := setR) (hM.1 0 (by decide)) hb_1 dX7_cell_12 ?_
  cases hF
  exact hE _ _ dX7_cell_13
theorem c_X7_cell (l : Launch) (D : va_G) (cI cZ cV : ClassId) {B : RS → va_W} {ad : Nat → Nat} (hM : IsRef cI B ad) (S : RS) (p1 : Int32) (p2 : Int32) {r : Int32} (hF : f_X7_cell S p1 p2 = some r) : CTi l D (jtys cI cZ cV) yX7_cell cX7_cell 3 (some .int) rmX7_cell B [.ref (ad 7), .int p1, .int p2] S r S := by
  refine CTi.of [(0, .ref (ad 7)), (1, .int p1), (2, .int p2)] rfl (Nat.le_of_ble_eq_true rfl) (by decide) ⟨rfl, rfl⟩ (fun X e1 e2 e3 e4 e5 e6 e7 h hE => ?_)
  subst e1; subst e2; subst e3; subst e4; subst e5; subst e6
  exact k_X7_cell h hM e7 hE hF
abbrev rmX7_setting1 : Room := { frames := 0, cells := 0, slots := 0, locals := 0 }
theorem cw_X7_setting1 : CWv RX7 yX7_setting1 cX7_setting1 2 (some .int) 1 := ⟨q4_128, qs35, q1_8, q4_129, ⟨rfl, by decide +kernel, by decide +kernel, by decide +kernel⟩⟩
set_option maxHeartbeats 4000000 in
set_option maxRecDepth 100000 in
theorem k_X7_setting1 {X : JX RS} {ad : Nat → Nat} (h : OK X RX7 cX7_setting1 rmX7_setting1) (hM : IsRef X.cI X.B ad) (hnL : X.nL = 2) {res : Int32} {S : RS} {p1 : Int32} (hE : EXi X cX7_setting1 res S) (hF : f_X7_setting1 S p1 = some res) : J X 0 [(0, .ref (ad 7)), (1, .int p1)] [] S := by
  rw [f_X7_setting1] at hF
  refine j_aload_n h 0 rfl rfl dX7_setting1_0 ?_
  refine j_get h hM.2.1.o inX7 rfl 0 (by decide) rfl q4_24 rfl dX7_setting1_1 ?_
  refine j_sipush h (v := 177) (by decide) dX7_setting1_4 ?_
  refine j_iload_n h 1 rfl rfl dX7_setting1_7 ?_
  refine j_iadd h dX7_setting1_8 ?_
  obtain ⟨hb_1, hF⟩ := bnd_row hF
  refine ja_iald h (get := fun S => S.1) (put := setR) (hM.1 0 (by decide)) hb_1 dX7_setting1_9 ?_
  cases hF
  exact hE _ _ dX7_setting1_10
theorem c_X7_setting1 (l : Launch) (D : va_G) (cI cZ cV : ClassId) {B : RS → va_W} {ad : Nat → Nat} (hM : IsRef cI B ad) (S : RS) (p1 : Int32) {r : Int32} (hF : f_X7_setting1 S p1 = some r) : CTi l D (jtys cI cZ cV) yX7_setting1 cX7_setting1 2 (some .int) rmX7_setting1 B [.ref (ad 7), .int p1] S r S := by
  refine CTi.of [(0, .ref (ad 7)), (1, .int p1)] rfl (Nat.le_of_ble_eq_true rfl) (by decide) ⟨rfl, rfl⟩ (fun X e1 e2 e3 e4 e5 e6 e7 h hE => ?_)
  subst e1; subst e2; subst e3; subst e4; subst e5; subst e6
  exact k_X7_setting1 h hM e7 hE hF
abbrev rmX7_isHouse : Room := { frames := 1, cells := 0, slots := 0, locals := 22 }
theorem cw_X7_isHouse : CWv RX7 yX7_isHouse cX7_isHouse 2 (some .boolean) 1 := ⟨q4_96, qs30, q1_8, q4_97, ⟨rfl, by decide +kernel, by decide +kernel, by decide +kernel⟩⟩
set_option maxHeartbeats 4000000 in
set_option maxRecDepth 100000 in
theorem k_X7_isHouse {X : JX RS} {ad : Nat → Nat} (h : OK X RX7 cX7_isHouse rmX7_isHouse) (hM : IsRef X.cI X.B ad) (hnL : X.nL = 2) {res : Int32} {S : RS} {p1 : Int32} (hE : EXz X cX7_isHouse res S) (hF : f_X7_isHouse S p1 = some res) : J X 0 [(0, .ref (ad 7)), (1, .int p1)] [] S := by
  rw [f_X7_isHouse] at hF
  refine j_iload_n h 1 rfl rfl dX7_isHouse_0 ?_
  refine j_iconst h (v := 0) (by decide) dX7_isHouse_1 ?_
  refine j_aload_n h 0 rfl rfl dX7_isHouse_2 ?_
  refine j_get h hM.2.1.o inX7 rfl 0 (by decide) rfl q4_24 rfl dX7_isHouse_3 ?_
  refine j_sipush h (v := 172) (by decide) dX7_isHouse_6 ?_
  obtain ⟨hb_1, hF⟩ := bnd_row hF
  refine ja_iald h (get := fun S => S.1) (put := setR) (hM.1 0 (by decide)) hb_1 dX7_isHouse_9 ?_
  refine j_iconst h (v := 1) (by decide) dX7_isHouse_10 ?_
  refine j_isub h dX7_isHouse_11 ?_
  obtain ⟨r_2, hr_2, hF⟩ := bind_row hF
  refine j_callSz h (st := []) (S' := S) (c_X7_within X.l X.D X.cI X.cZ X.cV (B := X.B) S p1 (0 : Int32) ((rd S.1 0 (172 : Int32)) - (1 : Int32)) hr_2) rfl rfl q4_77 cw_X7_within rfl ⟨rfl, rfl, Nat.le_of_ble_eq_true rfl, Nat.le_of_ble_eq_true rfl⟩ _ rfl (Nat.le_of_ble_eq_true rfl) dX7_isHouse_12 (fun hz_r_2 => ?_)
  cases hF
  exact hE _ _ dX7_isHouse_15 (by assumption)
theorem c_X7_isHouse (l : Launch) (D : va_G) (cI cZ cV : ClassId) {B : RS → va_W} {ad : Nat → Nat} (hM : IsRef cI B ad) (S : RS) (p1 : Int32) {r : Int32} (hF : f_X7_isHouse S p1 = some r) : CTz l D (jtys cI cZ cV) yX7_isHouse cX7_isHouse 2 (some .boolean) rmX7_isHouse B [.ref (ad 7), .int p1] S r S := by
  refine CTz.of [(0, .ref (ad 7)), (1, .int p1)] rfl (Nat.le_of_ble_eq_true rfl) (by decide) ⟨rfl, rfl⟩ (fun X e1 e2 e3 e4 e5 e6 e7 h hE => ?_)
  subst e1; subst e2; subst e3; subst e4; subst e5; subst e6
  exact k_X7_isHouse h hM e7 hE hF
abbrev rmX7_copy : Room := { frames := 0, cells := 0, slots := 0, locals := 0 }
theorem cw_X7_copy : CWv RX7 yX7_copy cX7_copy 6 none 4 := ⟨q4_88, qs29, q1_8, q4_89, ⟨rfl, by decide +kernel, by decide +kernel, by decide +kernel⟩⟩
set_option maxHeartbeats 4000000 in
set_option maxRecDepth 100000 in
theorem k_X7_copy_3 {X : JX RS} {ad : Nat → Nat} {k1 : Nat} {k3 : Nat} (h : OK X RX7 cX7_copy rmX7_copy) (hM : IsRef X.cI X.B ad) (h_k1 : k1 < 7) (h_k3 : k3 < 7) (hnL : X.nL = 6) {res : RS} {x2 : Int32} {x4 : Int32} (hE : EXv X cX7_copy res) : ∀ (n : Nat) (x5 : Int32) (S : RS), f_X7_copy_3 k1 k3 x2 x4 n x5 S = some res → J X 3 [(1, .ref (ad k1)), (2, .int x2), (3, .ref (ad k3)), (4, .int x4), (5, .int x5)] [] S := by
  intro n
  induction n with
  | zero =>
    intro x5 S hF
    rw [f_X7_copy_3] at hF
    cases hF
  | succ n ih =>
    intro x5 S hF
    rw [f_X7_copy_3] at hF
    refine j_iload h 4 rfl dX7_copy_3 ?_
    refine j_sipush h (v := 198) (by decide) dX7_copy_5 ?_
    refine j_icmp_ge h 30 (by decide) dX7_copy_8 hF (fun hF => ?_) (fun hF => ?_)
    · cases hF
      exact hE _ _ dX7_copy_30
    · refine j_aload_n h 2 rfl rfl dX7_copy_11 ?_
      refine j_iload h 3 rfl dX7_copy_12 ?_
      refine j_iload h 4 rfl dX7_copy_14 ?_
      refine j_iadd h dX7_copy_16 ?_
      refine j_aload_n h 0 rfl rfl dX7_copy_17 ?_
      refine j_iload_n h 1 rfl rfl dX7_copy_18 ?_
      refine j_iload h 4 rfl dX7_copy_19 ?_
      refine j_iadd h dX7_copy_21 ?_
      obtain ⟨hb_1, hF⟩ := bnd_row hF
      refine ja_iald h (get := fun S => S.1) (put := setR) (hM.1 k1 h_k1) hb_1 dX7_copy_22 ?_
      obtain ⟨hb_2, hF⟩ := bnd_row hF
      refine ja_iast h (get := fun S => S.1) (put := setR) (hM.1 k3 h_k3) hb_2 dX7_copy_23 ?_
      refine j_letS hF (fun S_3 hF => ?_)
      refine j_iincL hF (fun x_4 ex_4 hF => ?_)
      refine j_iinc h hnL 4 [(5, .int x_4), (1, .ref (ad k1)), (2, .int x2), (3, .ref (ad k3)), (4, .int x4)] rfl ex_4 (by decide) (by decide) rfl dX7_copy_24 ?_
      refine j_goto h 3 (by decide) dX7_copy_27 ?_
      exact j_sub [1, 2, 3, 4, 0] rfl (ih _ _ hF)
set_option maxHeartbeats 4000000 in
set_option maxRecDepth 100000 in
theorem k_X7_copy {X : JX RS} {ad : Nat → Nat} {k1 : Nat} {k3 : Nat} (h : OK X RX7 cX7_copy rmX7_copy) (hM : IsRef X.cI X.B ad) (h_k1 : k1 < 7) (h_k3 : k3 < 7) (hnL : X.nL = 6) {res : RS} {S : RS} {p2 : Int32} {p4 : Int32} (hE : EXv X cX7_copy res) (hF : f_X7_copy k1 k3 S p2 p4 = some res) : J X 0 [(0, .ref (ad 7)), (1, .ref (ad k1)), (2, .int p2), (3, .ref (ad k3)), (4, .int p4)] [] S := by
  rw [f_X7_copy] at hF
  refine j_iconst h (v := 0) (by decide) dX7_copy_0 ?_
  refine j_istore h hnL [(5, .int (0 : Int32)), (0, .ref (ad 7)), (1, .ref (ad k1)), (2, .int p2), (3, .ref (ad k3)), (4, .int p4)] (by decide) rfl dX7_copy_1 ?_
  exact j_sub [2, 3, 4, 5, 0] rfl (k_X7_copy_3 h hM h_k1 h_k3 hnL hE fuel _ _ hF)
theorem c_X7_copy (l : Launch) (D : va_G) (cI cZ cV : ClassId) {B : RS → va_W} {ad : Nat → Nat} (hM : IsRef cI B ad) {k1 : Nat} {k3 : Nat} (h_k1 : k1 < 7) (h_k3 : k3 < 7) (S : RS) (p2 : Int32) (p4 : Int32) {r : RS} (hF : f_X7_copy k1 k3 S p2 p4 = some r) : CTv l D (jtys cI cZ cV) yX7_copy cX7_copy 6 none rmX7_copy B [.ref (ad 7), .ref (ad k1), .int p2, .ref (ad k3), .int p4] S r := by
  refine CTv.of [(0, .ref (ad 7)), (1, .ref (ad k1)), (2, .int p2), (3, .ref (ad k3)), (4, .int p4)] rfl (Nat.le_of_ble_eq_true rfl) (by decide) ⟨rfl, rfl⟩ (fun X e1 e2 e3 e4 e5 e6 e7 h hE => ?_)
  subst e1; subst e2; subst e3; subst e4; subst e5; subst e6
  exact k_X7_copy h hM h_k1 h_k3 e7 hE hF
abbrev rmX7_record : Room := { frames := 1, cells := 0, slots := 0, locals := 25 }
theorem cw_X7_record : CWv RX7 yX7_record cX7_record 2 none 0 := ⟨q4_84, qs28, q1_8, q4_85, ⟨rfl, by decide +kernel, by decide +kernel, by decide +kernel⟩⟩
set_option maxHeartbeats 4000000 in
set_option maxRecDepth 100000 in
theorem k_X7_record_52 {X : JX RS} {ad : Nat → Nat} (h : OK X RX7 cX7_record rmX7_record) (hM : IsRef X.cI X.B ad) (hnL : X.nL = 2) {res : RS} {S : RS} (hE : EXv X cX7_record res) (hF : f_X7_record_52 S = some res) : J X 52 [(0, .ref (ad 7))] [] S := by
  rw [f_X7_record_52] at hF
  refine j_aload_n h 0 rfl rfl dX7_record_52 ?_
  refine j_aload_n h 0 rfl rfl dX7_record_53 ?_
  refine j_get h hM.2.1.o inX7 rfl 0 (by decide) rfl q4_24 rfl dX7_record_54 ?_
  refine j_iconst h (v := 0) (by decide) dX7_record_57 ?_
  refine j_aload_n h 0 rfl rfl dX7_record_58 ?_
  refine j_get h hM.2.1.o inX7 rfl 3 (by decide) rfl q4_27 rfl dX7_record_59 ?_
  refine j_sipush h (v := 198) (by decide) dX7_record_62 ?_
  refine j_aload_n h 0 rfl rfl dX7_record_65 ?_
  refine j_get h hM.2.1.o inX7 rfl 2 (by decide) rfl q4_26 rfl dX7_record_66 ?_
  refine j_imul h dX7_record_69 ?_
  obtain ⟨r_2, hr_2, hF⟩ := bind_row hF
  refine j_callVv h (st := []) (S' := r_2) (c_X7_copy X.l X.D X.cI X.cZ X.cV hM (by decide) (by decide) S (0 : Int32) ((198 : Int32) * (S.1 7 0)) hr_2) rfl rfl q4_86 cw_X7_copy hM.2.1.o rfl rfl rfl ⟨rfl, rfl, Nat.le_of_ble_eq_true rfl, Nat.le_of_ble_eq_true rfl⟩ _ rfl (Nat.le_of_ble_eq_true rfl) dX7_record_70 ?_
  refine j_aload_n h 0 rfl rfl dX7_record_73 ?_
  refine j_dup h rfl dX7_record_74 ?_
  refine j_get h hM.2.1.o inX7 rfl 2 (by decide) rfl q4_26 rfl dX7_record_75 ?_
  refine j_iconst h (v := 1) (by decide) dX7_record_78 ?_
  refine j_iadd h dX7_record_79 ?_
  refine j_put h (hM.2.1) inX7 tyX7_ok nmX7 rfl (by decide) rfl q4_26 (Nat.le_of_ble_eq_true rfl) dX7_record_80 ?_
  refine j_letS hF (fun S_3 hF => ?_)
  cases hF
  exact hE _ _ dX7_record_83
set_option maxHeartbeats 4000000 in
set_option maxRecDepth 100000 in
theorem k_X7_record_13 {X : JX RS} {ad : Nat → Nat} (h : OK X RX7 cX7_record rmX7_record) (hM : IsRef X.cI X.B ad) (hnL : X.nL = 2) {res : RS} (hE : EXv X cX7_record res) : ∀ (n : Nat) (x1 : Int32) (S : RS), f_X7_record_13 n x1 S = some res → J X 13 [(0, .ref (ad 7)), (1, .int x1)] [] S := by
  intro n
  induction n with
  | zero =>
    intro x1 S hF
    rw [f_X7_record_13] at hF
    cases hF
  | succ n ih =>
    intro x1 S hF
    rw [f_X7_record_13] at hF
    refine j_iload_n h 1 rfl rfl dX7_record_13 ?_
    refine j_sipush h (v := 1584) (by decide) dX7_record_14 ?_
    refine j_icmp_ge h 42 (by decide) dX7_record_17 hF (fun hF => ?_) (fun hF => ?_)
    · refine j_aload_n h 0 rfl rfl dX7_record_42 ?_
      refine j_dup h rfl dX7_record_43 ?_
      refine j_get h hM.2.1.o inX7 rfl 2 (by decide) rfl q4_26 rfl dX7_record_44 ?_
      refine j_iconst h (v := 1) (by decide) dX7_record_47 ?_
      refine j_isub h dX7_record_48 ?_
      refine j_put h (hM.2.1) inX7 tyX7_ok nmX7 rfl (by decide) rfl q4_26 (Nat.le_of_ble_eq_true rfl) dX7_record_49 ?_
      refine j_letS hF (fun S_1 hF => ?_)
      exact j_sub [0] rfl (k_X7_record_52 h hM hnL hE hF)
    · refine j_aload_n h 0 rfl rfl dX7_record_20 ?_
      refine j_get h hM.2.1.o inX7 rfl 3 (by decide) rfl q4_27 rfl dX7_record_21 ?_
      refine j_iload_n h 1 rfl rfl dX7_record_24 ?_
      refine j_sipush h (v := 198) (by decide) dX7_record_25 ?_
      refine j_isub h dX7_record_28 ?_
      refine j_aload_n h 0 rfl rfl dX7_record_29 ?_
      refine j_get h hM.2.1.o inX7 rfl 3 (by decide) rfl q4_27 rfl dX7_record_30 ?_
      refine j_iload_n h 1 rfl rfl dX7_record_33 ?_
      obtain ⟨hb_4, hF⟩ := bnd_row hF
      refine ja_iald h (get := fun S => S.1) (put := setR) (hM.1 2 (by decide)) hb_4 dX7_record_34 ?_
      obtain ⟨hb_5, hF⟩ := bnd_row hF
      refine ja_iast h (get := fun S => S.1) (put := setR) (hM.1 2 (by decide)) hb_5 dX7_record_35 ?_
      refine j_letS hF (fun S_6 hF => ?_)
      refine j_iincL hF (fun x_7 ex_7 hF => ?_)
      refine j_iinc h hnL 1 [(1, .int x_7), (0, .ref (ad 7))] rfl ex_7 (by decide) (by decide) rfl dX7_record_36 ?_
      refine j_goto h 13 (by decide) dX7_record_39 ?_
      exact j_sub [1, 0] rfl (ih _ _ hF)
set_option maxHeartbeats 4000000 in
set_option maxRecDepth 100000 in
theorem k_X7_record {X : JX RS} {ad : Nat → Nat} (h : OK X RX7 cX7_record rmX7_record) (hM : IsRef X.cI X.B ad) (hnL : X.nL = 2) {res : RS} {S : RS} (hE : EXv X cX7_record res) (hF : f_X7_record S = some res) : J X 0 [(0, .ref (ad 7))] [] S := by
  rw [f_X7_record] at hF
  refine j_aload_n h 0 rfl rfl dX7_record_0 ?_
  refine j_get h hM.2.1.o inX7 rfl 2 (by decide) rfl q4_26 rfl dX7_record_1 ?_
  refine j_bipush h (v := 8) (by decide) dX7_record_4 ?_
  refine j_icmp_ne h 52 (by decide) dX7_record_6 hF (fun hF => ?_) (fun hF => ?_)
  · refine j_sipush h (v := 198) (by decide) dX7_record_9 ?_
    refine j_istore_n h hnL [(1, .int (198 : Int32)), (0, .ref (ad 7))] rfl (by decide) rfl dX7_record_12 ?_
    exact j_sub [1, 0] rfl (k_X7_record_13 h hM hnL hE fuel _ _ hF)
  · exact j_sub [0] rfl (k_X7_record_52 h hM hnL hE hF)
theorem c_X7_record (l : Launch) (D : va_G) (cI cZ cV : ClassId) {B : RS → va_W} {ad : Nat → Nat} (hM : IsRef cI B ad) (S : RS) {r : RS} (hF : f_X7_record S = some r) : CTv l D (jtys cI cZ cV) yX7_record cX7_record 2 none rmX7_record B [.ref (ad 7)] S r := by
  refine CTv.of [(0, .ref (ad 7))] rfl (Nat.le_of_ble_eq_true rfl) (by decide) ⟨rfl, rfl⟩ (fun X e1 e2 e3 e4 e5 e6 e7 h hE => ?_)
  subst e1; subst e2; subst e3; subst e4; subst e5; subst e6
  exact k_X7_record h hM e7 hE hF
abbrev rmX7_addHouse : Room := { frames := 2, cells := 0, slots := 0, locals := 46 }
theorem cw_X7_addHouse : CWv RX7 yX7_addHouse cX7_addHouse 5 (some .int) 2 := ⟨q4_74, q4_75, q1_8, q4_76, ⟨rfl, by decide +kernel, by decide +kernel, by decide +kernel⟩⟩
set_option maxHeartbeats 4000000 in
set_option maxRecDepth 100000 in
theorem k_X7_addHouse_54 {X : JX RS} {ad : Nat → Nat} (h : OK X RX7 cX7_addHouse rmX7_addHouse) (hM : IsRef X.cI X.B ad) (hnL : X.nL = 5) {res : Int32 × RS} {x1 : Int32} {x2 : Int32} {x3 : Int32} (hE : EXi X cX7_addHouse res.1 res.2) : ∀ (n : Nat) (x4 : Int32) (S : RS), f_X7_addHouse_54 x1 x2 x3 n x4 S = some res → J X 54 [(0, .ref (ad 7)), (1, .int x1), (2, .int x2), (3, .int x3), (4, .int x4)] [] S := by
  intro n
  induction n with
  | zero =>
    intro x4 S hF
    rw [f_X7_addHouse_54] at hF
    cases hF
  | succ n ih =>
    intro x4 S hF
    rw [f_X7_addHouse_54] at hF
    refine j_iload h 4 rfl dX7_addHouse_54 ?_
    refine j_bipush h (v := 8) (by decide) dX7_addHouse_56 ?_
    refine j_icmp_ge h 80 (by decide) dX7_addHouse_58 hF (fun hF => ?_) (fun hF => ?_)
    · refine j_aload_n h 0 rfl rfl dX7_addHouse_80 ?_
      refine j_get h hM.2.1.o inX7 rfl 0 (by decide) rfl q4_24 rfl dX7_addHouse_81 ?_
      refine j_bipush h (v := 8) (by decide) dX7_addHouse_84 ?_
      refine j_iload_n h 3 rfl rfl dX7_addHouse_86 ?_
      refine j_imul h dX7_addHouse_87 ?_
      refine j_iconst h (v := 0) (by decide) dX7_addHouse_88 ?_
      refine j_iadd h dX7_addHouse_89 ?_
      refine j_iload_n h 1 rfl rfl dX7_addHouse_90 ?_
      obtain ⟨hb_7, hF⟩ := bnd_row hF
      refine ja_iast h (get := fun S => S.1) (put := setR) (hM.1 0 (by decide)) hb_7 dX7_addHouse_91 ?_
      refine j_letS hF (fun S_8 hF => ?_)
      refine j_aload_n h 0 rfl rfl dX7_addHouse_92 ?_
      refine j_get h hM.2.1.o inX7 rfl 0 (by decide) rfl q4_24 rfl dX7_addHouse_93 ?_
      refine j_bipush h (v := 8) (by decide) dX7_addHouse_96 ?_
      refine j_iload_n h 3 rfl rfl dX7_addHouse_98 ?_
      refine j_imul h dX7_addHouse_99 ?_
      refine j_iconst h (v := 1) (by decide) dX7_addHouse_100 ?_
      refine j_iadd h dX7_addHouse_101 ?_
      refine j_iload_n h 2 rfl rfl dX7_addHouse_102 ?_
      obtain ⟨hb_9, hF⟩ := bnd_row hF
      refine ja_iast h (get := fun S => S.1) (put := setR) (hM.1 0 (by decide)) hb_9 dX7_addHouse_103 ?_
      refine j_letS hF (fun S_10 hF => ?_)
      refine j_aload_n h 0 rfl rfl dX7_addHouse_104 ?_
      refine j_get h hM.2.1.o inX7 rfl 0 (by decide) rfl q4_24 rfl dX7_addHouse_105 ?_
      refine j_bipush h (v := 8) (by decide) dX7_addHouse_108 ?_
      refine j_iload_n h 3 rfl rfl dX7_addHouse_110 ?_
      refine j_imul h dX7_addHouse_111 ?_
      refine j_iconst h (v := 3) (by decide) dX7_addHouse_112 ?_
      refine j_iadd h dX7_addHouse_113 ?_
      refine j_iconst h (v := 1) (by decide) dX7_addHouse_114 ?_
      obtain ⟨hb_11, hF⟩ := bnd_row hF
      refine ja_iast h (get := fun S => S.1) (put := setR) (hM.1 0 (by decide)) hb_11 dX7_addHouse_115 ?_
      refine j_letS hF (fun S_12 hF => ?_)
      refine j_aload_n h 0 rfl rfl dX7_addHouse_116 ?_
      refine j_get h hM.2.1.o inX7 rfl 0 (by decide) rfl q4_24 rfl dX7_addHouse_117 ?_
      refine j_sipush h (v := 172) (by decide) dX7_addHouse_120 ?_
      refine j_dup2 h rfl rfl dX7_addHouse_123 ?_
      obtain ⟨hb_13, hF⟩ := bnd_row hF
      refine ja_iald h (get := fun S => S.1) (put := setR) (hM.1 0 (by decide)) hb_13 dX7_addHouse_124 ?_
      refine j_iconst h (v := 1) (by decide) dX7_addHouse_125 ?_
      refine j_iadd h dX7_addHouse_126 ?_
      obtain ⟨hb_14, hF⟩ := bnd_row hF
      refine ja_iast h (get := fun S => S.1) (put := setR) (hM.1 0 (by decide)) hb_14 dX7_addHouse_127 ?_
      refine j_letS hF (fun S_15 hF => ?_)
      refine j_iload_n h 3 rfl rfl dX7_addHouse_128 ?_
      cases hF
      exact hE _ _ dX7_addHouse_129
    · refine j_aload_n h 0 rfl rfl dX7_addHouse_61 ?_
      refine j_get h hM.2.1.o inX7 rfl 0 (by decide) rfl q4_24 rfl dX7_addHouse_62 ?_
      refine j_bipush h (v := 8) (by decide) dX7_addHouse_65 ?_
      refine j_iload_n h 3 rfl rfl dX7_addHouse_67 ?_
      refine j_imul h dX7_addHouse_68 ?_
      refine j_iload h 4 rfl dX7_addHouse_69 ?_
      refine j_iadd h dX7_addHouse_71 ?_
      refine j_iconst h (v := 0) (by decide) dX7_addHouse_72 ?_
      obtain ⟨hb_16, hF⟩ := bnd_row hF
      refine ja_iast h (get := fun S => S.1) (put := setR) (hM.1 0 (by decide)) hb_16 dX7_addHouse_73 ?_
      refine j_letS hF (fun S_17 hF => ?_)
      refine j_iincL hF (fun x_18 ex_18 hF => ?_)
      refine j_iinc h hnL 4 [(4, .int x_18), (0, .ref (ad 7)), (1, .int x1), (2, .int x2), (3, .int x3)] rfl ex_18 (by decide) (by decide) rfl dX7_addHouse_74 ?_
      refine j_goto h 54 (by decide) dX7_addHouse_77 ?_
      exact j_sub [1, 2, 3, 4, 0] rfl (ih _ _ hF)
set_option maxHeartbeats 4000000 in
set_option maxRecDepth 100000 in
theorem k_X7_addHouse {X : JX RS} {ad : Nat → Nat} (h : OK X RX7 cX7_addHouse rmX7_addHouse) (hM : IsRef X.cI X.B ad) (hnL : X.nL = 5) {res : Int32 × RS} {S : RS} {p1 : Int32} {p2 : Int32} (hE : EXi X cX7_addHouse res.1 res.2) (hF : f_X7_addHouse S p1 p2 = some res) : J X 0 [(0, .ref (ad 7)), (1, .int p1), (2, .int p2)] [] S := by
  rw [f_X7_addHouse] at hF
  refine j_iload_n h 1 rfl rfl dX7_addHouse_0 ?_
  refine j_iconst h (v := 0) (by decide) dX7_addHouse_1 ?_
  refine j_iconst h (v := 2) (by decide) dX7_addHouse_2 ?_
  obtain ⟨r_1, hr_1, hF⟩ := bind_row hF
  refine j_callSz h (st := []) (S' := S) (c_X7_within X.l X.D X.cI X.cZ X.cV (B := X.B) S p1 (0 : Int32) (2 : Int32) hr_1) rfl rfl q4_77 cw_X7_within rfl ⟨rfl, rfl, Nat.le_of_ble_eq_true rfl, Nat.le_of_ble_eq_true rfl⟩ _ rfl (Nat.le_of_ble_eq_true rfl) dX7_addHouse_3 (fun hz_r_1 => ?_)
  refine j_if_eq h 19 (by decide) dX7_addHouse_6 hF (fun hF => ?_) (fun hF => ?_)
  · refine j_ldc h (v := -1000002) q4_80 dX7_addHouse_19 ?_
    cases hF
    exact hE _ _ dX7_addHouse_21
  · refine j_iload_n h 2 rfl rfl dX7_addHouse_9 ?_
    refine j_iconst h (v := 0) (by decide) dX7_addHouse_10 ?_
    refine j_bipush h (v := 50) (by decide) dX7_addHouse_11 ?_
    obtain ⟨r_2, hr_2, hF⟩ := bind_row hF
    refine j_callSz h (st := []) (S' := S) (c_X7_within X.l X.D X.cI X.cZ X.cV (B := X.B) S p2 (0 : Int32) (50 : Int32) hr_2) rfl rfl q4_77 cw_X7_within rfl ⟨rfl, rfl, Nat.le_of_ble_eq_true rfl, Nat.le_of_ble_eq_true rfl⟩ _ rfl (Nat.le_of_ble_eq_true rfl) dX7_addHouse_13 (fun hz_r_2 => ?_)
    refine j_if_ne h 22 (by decide) dX7_addHouse_16 hF (fun hF => ?_) (fun hF => ?_)
    · refine j_ldc h (v := -1000002) q4_80 dX7_addHouse_19 ?_
      cases hF
      exact hE _ _ dX7_addHouse_21
    · refine j_aload_n h 0 rfl rfl dX7_addHouse_22 ?_
      refine j_get h hM.2.1.o inX7 rfl 0 (by decide) rfl q4_24 rfl dX7_addHouse_23 ?_
      refine j_sipush h (v := 172) (by decide) dX7_addHouse_26 ?_
      obtain ⟨hb_3, hF⟩ := bnd_row hF
      refine ja_iald h (get := fun S => S.1) (put := setR) (hM.1 0 (by decide)) hb_3 dX7_addHouse_29 ?_
      refine j_bipush h (v := 10) (by decide) dX7_addHouse_30 ?_
      refine j_icmp_ne h 38 (by decide) dX7_addHouse_32 hF (fun hF => ?_) (fun hF => ?_)
      · refine j_ldc h (v := -1000004) q4_81 dX7_addHouse_35 ?_
        cases hF
        exact hE _ _ dX7_addHouse_37
      · refine j_aload_n h 0 rfl rfl dX7_addHouse_38 ?_
        obtain ⟨r_4, hr_4, hF⟩ := bind_row hF
        refine j_callVv h (st := []) (S' := r_4) (c_X7_record X.l X.D X.cI X.cZ X.cV hM S hr_4) rfl rfl q4_82 cw_X7_record hM.2.1.o rfl rfl rfl ⟨rfl, rfl, Nat.le_of_ble_eq_true rfl, Nat.le_of_ble_eq_true rfl⟩ _ rfl (Nat.le_of_ble_eq_true rfl) dX7_addHouse_39 ?_
        refine j_aload_n h 0 rfl rfl dX7_addHouse_42 ?_
        refine j_get h hM.2.1.o inX7 rfl 0 (by decide) rfl q4_24 rfl dX7_addHouse_43 ?_
        refine j_sipush h (v := 172) (by decide) dX7_addHouse_46 ?_
        obtain ⟨hb_5, hF⟩ := bnd_row hF
        refine ja_iald h (get := fun S => S.1) (put := setR) (hM.1 0 (by decide)) hb_5 dX7_addHouse_49 ?_
        refine j_let hF (fun x_6 hF => ?_)
        refine j_istore_n h hnL [(3, .int x_6), (0, .ref (ad 7)), (1, .int p1), (2, .int p2)] rfl (by decide) rfl dX7_addHouse_50 ?_
        refine j_iconst h (v := 0) (by decide) dX7_addHouse_51 ?_
        refine j_istore h hnL [(4, .int (0 : Int32)), (3, .int x_6), (0, .ref (ad 7)), (1, .int p1), (2, .int p2)] (by decide) rfl dX7_addHouse_52 ?_
        exact j_sub [2, 3, 4, 1, 0] rfl (k_X7_addHouse_54 h hM hnL hE fuel _ _ hF)
theorem c_X7_addHouse (l : Launch) (D : va_G) (cI cZ cV : ClassId) {B : RS → va_W} {ad : Nat → Nat} (hM : IsRef cI B ad) (S : RS) (p1 : Int32) (p2 : Int32) {r : Int32 × RS} (hF : f_X7_addHouse S p1 p2 = some r) : CTi l D (jtys cI cZ cV) yX7_addHouse cX7_addHouse 5 (some .int) rmX7_addHouse B [.ref (ad 7), .int p1, .int p2] S r.1 r.2 := by
  refine CTi.of [(0, .ref (ad 7)), (1, .int p1), (2, .int p2)] rfl (Nat.le_of_ble_eq_true rfl) (by decide) ⟨rfl, rfl⟩ (fun X e1 e2 e3 e4 e5 e6 e7 h hE => ?_)
  subst e1; subst e2; subst e3; subst e4; subst e5; subst e6
  exact k_X7_addHouse h hM e7 hE hF
abbrev rmX7_isProperty : Room := { frames := 1, cells := 0, slots := 0, locals := 22 }
theorem cw_X7_isProperty : CWs yX7_isProperty cX7_isProperty 2 (some .boolean) 2 := ⟨q4_99, q1_8, q4_100, ⟨by decide +kernel, by decide +kernel, by decide +kernel⟩⟩
set_option maxHeartbeats 4000000 in
set_option maxRecDepth 100000 in
theorem k_X7_isProperty {τ : Type} {X : JX τ} (h : OK X RX7 cX7_isProperty rmX7_isProperty) (hnL : X.nL = 2) {res : Int32} {S : τ} {p1 : Int32} {p2 : Int32} (hE : EXz X cX7_isProperty res S) (hF : f_X7_isProperty p1 p2 = some res) : J X 0 [(0, .int p1), (1, .int p2)] [] S := by
  rw [f_X7_isProperty] at hF
  refine j_iload_n h 0 rfl rfl dX7_isProperty_0 ?_
  refine j_case hF (fun g_1 hF => ?_) (fun g_1 hF => ?_)
  · refine j_tableIn h (31) 32 0 g_1 (by decide) (by decide) (by decide) (by decide) dX7_isProperty_1 ?_
    refine j_iload_n h 1 rfl rfl dX7_isProperty_32 ?_
    refine j_iconst h (v := 0) (by decide) dX7_isProperty_33 ?_
    refine j_iconst h (v := 2) (by decide) dX7_isProperty_34 ?_
    obtain ⟨r_2, hr_2, hF⟩ := bind_row hF
    refine j_callSz h (st := []) (S' := S) (c_X7_within X.l X.D X.cI X.cZ X.cV (B := X.B) S p2 (0 : Int32) (2 : Int32) hr_2) rfl rfl q4_77 cw_X7_within rfl ⟨rfl, rfl, Nat.le_of_ble_eq_true rfl, Nat.le_of_ble_eq_true rfl⟩ _ rfl (Nat.le_of_ble_eq_true rfl) dX7_isProperty_35 (fun hz_r_2 => ?_)
    cases hF
    exact hE _ _ dX7_isProperty_38 (by assumption)
  · have g_1 := sw_ne g_1 (n := 0) (by decide)
    refine j_case hF (fun g_3 hF => ?_) (fun g_3 hF => ?_)
    · refine j_tableIn h (38) 39 1 g_3 (by decide) (by decide) (by decide) (by decide) dX7_isProperty_1 ?_
      refine j_iload_n h 1 rfl rfl dX7_isProperty_39 ?_
      refine j_iconst h (v := 0) (by decide) dX7_isProperty_40 ?_
      refine j_bipush h (v := 50) (by decide) dX7_isProperty_41 ?_
      obtain ⟨r_4, hr_4, hF⟩ := bind_row hF
      refine j_callSz h (st := []) (S' := S) (c_X7_within X.l X.D X.cI X.cZ X.cV (B := X.B) S p2 (0 : Int32) (50 : Int32) hr_4) rfl rfl q4_77 cw_X7_within rfl ⟨rfl, rfl, Nat.le_of_ble_eq_true rfl, Nat.le_of_ble_eq_true rfl⟩ _ rfl (Nat.le_of_ble_eq_true rfl) dX7_isProperty_43 (fun hz_r_4 => ?_)
      cases hF
      exact hE _ _ dX7_isProperty_46 (by assumption)
    · have g_3 := sw_ne g_3 (n := 1) (by decide)
      refine j_case hF (fun g_5 hF => ?_) (fun g_5 hF => ?_)
      · refine j_tableIn h (46) 47 2 g_5 (by decide) (by decide) (by decide) (by decide) dX7_isProperty_1 ?_
        refine j_iload_n h 1 rfl rfl dX7_isProperty_47 ?_
        refine j_iconst h (v := 0) (by decide) dX7_isProperty_48 ?_
        refine j_sipush h (v := 1000) (by decide) dX7_isProperty_49 ?_
        obtain ⟨r_6, hr_6, hF⟩ := bind_row hF
        refine j_callSz h (st := []) (S' := S) (c_X7_within X.l X.D X.cI X.cZ X.cV (B := X.B) S p2 (0 : Int32) (1000 : Int32) hr_6) rfl rfl q4_77 cw_X7_within rfl ⟨rfl, rfl, Nat.le_of_ble_eq_true rfl, Nat.le_of_ble_eq_true rfl⟩ _ rfl (Nat.le_of_ble_eq_true rfl) dX7_isProperty_52 (fun hz_r_6 => ?_)
        cases hF
        exact hE _ _ dX7_isProperty_55 (by assumption)
      · have g_5 := sw_ne g_5 (n := 2) (by decide)
        refine j_case hF (fun g_7 hF => ?_) (fun g_7 hF => ?_)
        · refine j_tableIn h (55) 56 3 g_7 (by decide) (by decide) (by decide) (by decide) dX7_isProperty_1 ?_
          refine j_iload_n h 1 rfl rfl dX7_isProperty_56 ?_
          refine j_iconst h (v := 0) (by decide) dX7_isProperty_57 ?_
          refine j_iconst h (v := 1) (by decide) dX7_isProperty_58 ?_
          obtain ⟨r_8, hr_8, hF⟩ := bind_row hF
          refine j_callSz h (st := []) (S' := S) (c_X7_within X.l X.D X.cI X.cZ X.cV (B := X.B) S p2 (0 : Int32) (1 : Int32) hr_8) rfl rfl q4_77 cw_X7_within rfl ⟨rfl, rfl, Nat.le_of_ble_eq_true rfl, Nat.le_of_ble_eq_true rfl⟩ _ rfl (Nat.le_of_ble_eq_true rfl) dX7_isProperty_59 (fun hz_r_8 => ?_)
          cases hF
          exact hE _ _ dX7_isProperty_62 (by assumption)
        · have g_7 := sw_ne g_7 (n := 3) (by decide)
          refine j_tableOut h 63 (by omega) (by decide) dX7_isProperty_1 ?_
          refine j_iconst h (v := 0) (by decide) dX7_isProperty_63 ?_
          cases hF
          exact hE _ _ dX7_isProperty_64 (isB_v (y := (0 : Int32)) (by decide))
theorem c_X7_isProperty (l : Launch) (D : va_G) (cI cZ cV : ClassId) {τ : Type} {B : τ → va_W} (S : τ) (p1 : Int32) (p2 : Int32) {r : Int32} (hF : f_X7_isProperty p1 p2 = some r) : CTz l D (jtys cI cZ cV) yX7_isProperty cX7_isProperty 2 (some .boolean) rmX7_isProperty B [.int p1, .int p2] S r S := by
  refine CTz.of [(0, .int p1), (1, .int p2)] rfl (Nat.le_of_ble_eq_true rfl) (by decide) ⟨rfl, rfl⟩ (fun X e1 e2 e3 e4 e5 e6 e7 h hE => ?_)
  subst e1; subst e2; subst e3; subst e4; subst e5; subst e6
  exact k_X7_isProperty h e7 hE hF
abbrev rmX7_setHouse : Room := { frames := 2, cells := 0, slots := 0, locals := 46 }
theorem cw_X7_setHouse : CWv RX7 yX7_setHouse cX7_setHouse 5 (some .int) 3 := ⟨q4_91, q4_92, q1_8, q4_93, ⟨rfl, by decide +kernel, by decide +kernel, by decide +kernel⟩⟩
set_option maxHeartbeats 4000000 in
set_option maxRecDepth 100000 in
theorem k_X7_setHouse {X : JX RS} {ad : Nat → Nat} (h : OK X RX7 cX7_setHouse rmX7_setHouse) (hM : IsRef X.cI X.B ad) (hnL : X.nL = 5) {res : Int32 × RS} {S : RS} {p1 : Int32} {p2 : Int32} {p3 : Int32} (hE : EXi X cX7_setHouse res.1 res.2) (hF : f_X7_setHouse S p1 p2 p3 = some res) : J X 0 [(0, .ref (ad 7)), (1, .int p1), (2, .int p2), (3, .int p3)] [] S := by
  rw [f_X7_setHouse] at hF
  refine j_aload_n h 0 rfl rfl dX7_setHouse_0 ?_
  refine j_iload_n h 1 rfl rfl dX7_setHouse_1 ?_
  obtain ⟨r_1, hr_1, hF⟩ := bind_row hF
  refine j_callVz h (st := []) (S' := S) (c_X7_isHouse X.l X.D X.cI X.cZ X.cV hM S p1 hr_1) rfl rfl q4_94 cw_X7_isHouse hM.2.1.o rfl rfl rfl ⟨rfl, rfl, Nat.le_of_ble_eq_true rfl, Nat.le_of_ble_eq_true rfl⟩ _ rfl (Nat.le_of_ble_eq_true rfl) dX7_setHouse_2 (fun hz_r_1 => ?_)
  refine j_if_eq h 16 (by decide) dX7_setHouse_5 hF (fun hF => ?_) (fun hF => ?_)
  · refine j_ldc h (v := -1000002) q4_80 dX7_setHouse_16 ?_
    cases hF
    exact hE _ _ dX7_setHouse_18
  · refine j_iload_n h 2 rfl rfl dX7_setHouse_8 ?_
    refine j_iload_n h 3 rfl rfl dX7_setHouse_9 ?_
    obtain ⟨r_2, hr_2, hF⟩ := bind_row hF
    refine j_callSz h (st := []) (S' := S) (c_X7_isProperty X.l X.D X.cI X.cZ X.cV (B := X.B) S p2 p3 hr_2) rfl rfl q4_98 cw_X7_isProperty rfl ⟨rfl, rfl, Nat.le_of_ble_eq_true rfl, Nat.le_of_ble_eq_true rfl⟩ _ rfl (Nat.le_of_ble_eq_true rfl) dX7_setHouse_10 (fun hz_r_2 => ?_)
    refine j_if_ne h 19 (by decide) dX7_setHouse_13 hF (fun hF => ?_) (fun hF => ?_)
    · refine j_ldc h (v := -1000002) q4_80 dX7_setHouse_16 ?_
      cases hF
      exact hE _ _ dX7_setHouse_18
    · refine j_aload_n h 0 rfl rfl dX7_setHouse_19 ?_
      obtain ⟨r_3, hr_3, hF⟩ := bind_row hF
      refine j_callVv h (st := []) (S' := r_3) (c_X7_record X.l X.D X.cI X.cZ X.cV hM S hr_3) rfl rfl q4_82 cw_X7_record hM.2.1.o rfl rfl rfl ⟨rfl, rfl, Nat.le_of_ble_eq_true rfl, Nat.le_of_ble_eq_true rfl⟩ _ rfl (Nat.le_of_ble_eq_true rfl) dX7_setHouse_20 ?_
      refine j_aload_n h 0 rfl rfl dX7_setHouse_23 ?_
      refine j_iload_n h 1 rfl rfl dX7_setHouse_24 ?_
      refine j_iload_n h 2 rfl rfl dX7_setHouse_25 ?_
      obtain ⟨r_4, hr_4, hF⟩ := bind_row hF
      refine j_callVi h (st := []) (S' := r_3) (c_X7_of X.l X.D X.cI X.cZ X.cV hM r_3 p1 p2 hr_4) rfl rfl q4_101 cw_X7_of hM.2.1.o rfl rfl rfl ⟨rfl, rfl, Nat.le_of_ble_eq_true rfl, Nat.le_of_ble_eq_true rfl⟩ _ rfl (Nat.le_of_ble_eq_true rfl) dX7_setHouse_26 ?_
      refine j_istore h hnL [(4, .int r_4), (0, .ref (ad 7)), (1, .int p1), (2, .int p2), (3, .int p3)] (by decide) rfl dX7_setHouse_29 ?_
      refine j_aload_n h 1 rfl rfl dX7_setHouse_31 ?_
      refine j_get h hM.2.1.o inX7 rfl 0 (by decide) rfl q4_24 rfl dX7_setHouse_32 ?_
      refine j_bipush h (v := 8) (by decide) dX7_setHouse_35 ?_
      refine j_iload_n h 2 rfl rfl dX7_setHouse_37 ?_
      refine j_imul h dX7_setHouse_38 ?_
      refine j_iload_n h 3 rfl rfl dX7_setHouse_39 ?_
      refine j_iadd h dX7_setHouse_40 ?_
      refine j_iload_n h 4 rfl rfl dX7_setHouse_41 ?_
      obtain ⟨hb_5, hF⟩ := bnd_row hF
      refine ja_iast h (get := fun S => S.1) (put := setR) (hM.1 0 (by decide)) hb_5 dX7_setHouse_42 ?_
      refine j_letS hF (fun S_6 hF => ?_)
      refine j_iload h 0 rfl dX7_setHouse_43 ?_
      cases hF
      exact hE _ _ dX7_setHouse_45
theorem c_X7_setHouse (l : Launch) (D : va_G) (cI cZ cV : ClassId) {B : RS → va_W} {ad : Nat → Nat} (hM : IsRef cI B ad) (S : RS) (p1 : Int32) (p2 : Int32) (p3 : Int32) {r : Int32 × RS} (hF : f_X7_setHouse S p1 p2 p3 = some r) : CTi l D (jtys cI cZ cV) yX7_setHouse cX7_setHouse 5 (some .int) rmX7_setHouse B [.ref (ad 7), .int p1, .int p2, .int p3] S r.1 r.2 := by
  refine CTi.of [(0, .ref (ad 7)), (1, .int p1), (2, .int p2), (3, .int p3)] rfl (Nat.le_of_ble_eq_true rfl) (by decide) ⟨rfl, rfl⟩ (fun X e1 e2 e3 e4 e5 e6 e7 h hE => ?_)
  subst e1; subst e2; subst e3; subst e4; subst e5; subst e6
  exact k_X7_setHouse h hM e7 hE hF
abbrev rmX7_owed : Room := { frames := 1, cells := 0, slots := 0, locals := 22 }
theorem cw_X7_owed : CWv RX7 yX7_owed cX7_owed 5 (some .int) 2 := ⟨q4_111, qs32, q1_8, q4_112, ⟨rfl, by decide +kernel, by decide +kernel, by decide +kernel⟩⟩
set_option maxHeartbeats 4000000 in
set_option maxRecDepth 100000 in
theorem k_X7_owed_41 {X : JX RS} {ad : Nat → Nat} (h : OK X RX7 cX7_owed rmX7_owed) (hM : IsRef X.cI X.B ad) (hnL : X.nL = 5) {res : Int32} {S : RS} {x1 : Int32} {x2 : Int32} {x4 : Int32} {s0 : Int32} {s1 : Int32} {K5 : Int32 → Int32 → Option (Int32)} (hK5 : ∀ (x3 : Int32) (x4 : Int32), K5 x3 x4 = some res → J X 5 [(0, .ref (ad 7)), (1, .int x1), (2, .int x2), (3, .int x3), (4, .int x4)] [] S) (hE : EXi X cX7_owed res S) (hF : f_X7_owed_41 K5 S x1 x2 x4 s0 s1 = some res) : J X 41 [(0, .ref (ad 7)), (1, .int x1), (2, .int x2), (4, .int x4)] [.int s0, .int s1] S := by
  rw [f_X7_owed_41] at hF
  refine j_iadd h dX7_owed_41 ?_
  refine j_let hF (fun x_4 hF => ?_)
  refine j_istore_n h hnL [(3, .int x_4), (0, .ref (ad 7)), (1, .int x1), (2, .int x2), (4, .int x4)] rfl (by decide) rfl dX7_owed_42 ?_
  refine j_iincL hF (fun x_5 ex_5 hF => ?_)
  refine j_iinc h hnL 4 [(4, .int x_5), (3, .int x_4), (0, .ref (ad 7)), (1, .int x1), (2, .int x2)] rfl ex_5 (by decide) (by decide) rfl dX7_owed_43 ?_
  refine j_goto h 5 (by decide) dX7_owed_46 ?_
  exact j_sub [2, 3, 4, 1, 0] rfl (hK5 _ _ hF)
set_option maxHeartbeats 4000000 in
set_option maxRecDepth 100000 in
theorem k_X7_owed_5 {X : JX RS} {ad : Nat → Nat} (h : OK X RX7 cX7_owed rmX7_owed) (hM : IsRef X.cI X.B ad) (hnL : X.nL = 5) {res : Int32} {S : RS} {x1 : Int32} {x2 : Int32} (hE : EXi X cX7_owed res S) : ∀ (n : Nat) (x3 : Int32) (x4 : Int32), f_X7_owed_5 S x1 x2 n x3 x4 = some res → J X 5 [(0, .ref (ad 7)), (1, .int x1), (2, .int x2), (3, .int x3), (4, .int x4)] [] S := by
  intro n
  induction n with
  | zero =>
    intro x3 x4 hF
    rw [f_X7_owed_5] at hF
    cases hF
  | succ n ih =>
    intro x3 x4 hF
    rw [f_X7_owed_5] at hF
    refine j_iload h 4 rfl dX7_owed_5 ?_
    refine j_aload_n h 0 rfl rfl dX7_owed_7 ?_
    refine j_get h hM.2.1.o inX7 rfl 0 (by decide) rfl q4_24 rfl dX7_owed_8 ?_
    refine j_sipush h (v := 173) (by decide) dX7_owed_11 ?_
    obtain ⟨hb_1, hF⟩ := bnd_row hF
    refine ja_iald h (get := fun S => S.1) (put := setR) (hM.1 0 (by decide)) hb_1 dX7_owed_14 ?_
    refine j_icmp_ge h 49 (by decide) dX7_owed_15 hF (fun hF => ?_) (fun hF => ?_)
    · refine j_iload_n h 3 rfl rfl dX7_owed_49 ?_
      cases hF
      exact hE _ _ dX7_owed_50
    · refine j_iload_n h 3 rfl rfl dX7_owed_18 ?_
      refine j_aload_n h 0 rfl rfl dX7_owed_19 ?_
      refine j_iload h 4 rfl dX7_owed_20 ?_
      refine j_iload_n h 2 rfl rfl dX7_owed_22 ?_
      obtain ⟨r_2, hr_2, hF⟩ := bind_row hF
      refine j_callVi h (st := [.int x3]) (S' := S) (c_X7_loanOf X.l X.D X.cI X.cZ X.cV hM S x4 x2 hr_2) rfl rfl q4_113 cw_X7_loanOf hM.2.1.o rfl rfl rfl ⟨rfl, rfl, Nat.le_of_ble_eq_true rfl, Nat.le_of_ble_eq_true rfl⟩ _ rfl (Nat.le_of_ble_eq_true rfl) dX7_owed_23 ?_
      refine j_iload_n h 1 rfl rfl dX7_owed_26 ?_
      refine j_icmp_ne h 40 (by decide) dX7_owed_27 hF (fun hF => ?_) (fun hF => ?_)
      · refine j_aload_n h 0 rfl rfl dX7_owed_30 ?_
        refine j_iload h 4 rfl dX7_owed_31 ?_
        refine j_iconst h (v := 2) (by decide) dX7_owed_33 ?_
        obtain ⟨r_3, hr_3, hF⟩ := bind_row hF
        refine j_callVi h (st := [.int x3]) (S' := S) (c_X7_loanOf X.l X.D X.cI X.cZ X.cV hM S x4 (2 : Int32) hr_3) rfl rfl q4_113 cw_X7_loanOf hM.2.1.o rfl rfl rfl ⟨rfl, rfl, Nat.le_of_ble_eq_true rfl, Nat.le_of_ble_eq_true rfl⟩ _ rfl (Nat.le_of_ble_eq_true rfl) dX7_owed_34 ?_
        refine j_goto h 41 (by decide) dX7_owed_37 ?_
        exact j_sub [0, 1, 2, 4] rfl (k_X7_owed_41 h hM hnL ih hE hF)
      · refine j_iconst h (v := 0) (by decide) dX7_owed_40 ?_
        exact j_sub [0, 1, 2, 4] rfl (k_X7_owed_41 h hM hnL ih hE hF)
set_option maxHeartbeats 4000000 in
set_option maxRecDepth 100000 in
theorem k_X7_owed {X : JX RS} {ad : Nat → Nat} (h : OK X RX7 cX7_owed rmX7_owed) (hM : IsRef X.cI X.B ad) (hnL : X.nL = 5) {res : Int32} {S : RS} {p1 : Int32} {p2 : Int32} (hE : EXi X cX7_owed res S) (hF : f_X7_owed S p1 p2 = some res) : J X 0 [(0, .ref (ad 7)), (1, .int p1), (2, .int p2)] [] S := by
  rw [f_X7_owed] at hF
  refine j_iconst h (v := 0) (by decide) dX7_owed_0 ?_
  refine j_istore_n h hnL [(3, .int (0 : Int32)), (0, .ref (ad 7)), (1, .int p1), (2, .int p2)] rfl (by decide) rfl dX7_owed_1 ?_
  refine j_iconst h (v := 0) (by decide) dX7_owed_2 ?_
  refine j_istore h hnL [(4, .int (0 : Int32)), (3, .int (0 : Int32)), (0, .ref (ad 7)), (1, .int p1), (2, .int p2)] (by decide) rfl dX7_owed_3 ?_
  exact j_sub [2, 3, 4, 1, 0] rfl (k_X7_owed_5 h hM hnL hE fuel _ _ hF)
theorem c_X7_owed (l : Launch) (D : va_G) (cI cZ cV : ClassId) {B : RS → va_W} {ad : Nat → Nat} (hM : IsRef cI B ad) (S : RS) (p1 : Int32) (p2 : Int32) {r : Int32} (hF : f_X7_owed S p1 p2 = some r) : CTi l D (jtys cI cZ cV) yX7_owed cX7_owed 5 (some .int) rmX7_owed B [.ref (ad 7), .int p1, .int p2] S r S := by
  refine CTi.of [(0, .ref (ad 7)), (1, .int p1), (2, .int p2)] rfl (Nat.le_of_ble_eq_true rfl) (by decide) ⟨rfl, rfl⟩ (fun X e1 e2 e3 e4 e5 e6 e7 h hE => ?_)
  subst e1; subst e2; subst e3; subst e4; subst e5; subst e6
  exact k_X7_owed h hM e7 hE hF
abbrev rmX7_removeHouse : Room := { frames := 2, cells := 0, slots := 0, locals := 46 }
theorem cw_X7_removeHouse : CWv RX7 yX7_removeHouse cX7_removeHouse 4 (some .int) 1 := ⟨q4_106, q4_107, q1_8, q4_108, ⟨rfl, by decide +kernel, by decide +kernel, by decide +kernel⟩⟩
set_option maxHeartbeats 4000000 in
set_option maxRecDepth 100000 in
theorem k_X7_removeHouse_137 {X : JX RS} {ad : Nat → Nat} (h : OK X RX7 cX7_removeHouse rmX7_removeHouse) (hM : IsRef X.cI X.B ad) (hnL : X.nL = 4) {res : Int32 × RS} {S : RS} {x1 : Int32} {x2 : Int32} {x3 : Int32} {s0 : Int32} {s1 : Int32} {s2 : Int32} {K103 : Int32 → RS → Option (Int32 × RS)} (hK103 : ∀ (x3 : Int32) (S : RS), K103 x3 S = some res → J X 103 [(0, .ref (ad 7)), (1, .int x1), (2, .int x2), (3, .int x3)] [] S) (hE : EXi X cX7_removeHouse res.1 res.2) (hF : f_X7_removeHouse_137 K103 S x1 x2 x3 s0 s1 s2 = some res) : J X 137 [(0, .ref (ad 7)), (1, .int x1), (2, .int x2), (3, .int x3)] [.int s0, .int s1, .int s2, .ref (ad 0)] S := by
  rw [f_X7_removeHouse_137] at hF
  refine j_isub h dX7_removeHouse_137 ?_
  obtain ⟨hb_15, hF⟩ := bnd_row hF
  refine ja_iast h (get := fun S => S.1) (put := setR) (hM.1 0 (by decide)) hb_15 dX7_removeHouse_138 ?_
  refine j_letS hF (fun S_16 hF => ?_)
  refine j_iincL hF (fun x_17 ex_17 hF => ?_)
  refine j_iinc h hnL 3 [(3, .int x_17), (0, .ref (ad 7)), (1, .int x1), (2, .int x2)] rfl ex_17 (by decide) (by decide) rfl dX7_removeHouse_139 ?_
  refine j_goto h 103 (by decide) dX7_removeHouse_142 ?_
  exact j_sub [1, 2, 3, 0] rfl (hK103 _ _ hF)
set_option maxHeartbeats 4000000 in
set_option maxRecDepth 100000 in
theorem k_X7_removeHouse_103 {X : JX RS} {ad : Nat → Nat} (h : OK X RX7 cX7_removeHouse rmX7_removeHouse) (hM : IsRef X.cI X.B ad) (hnL : X.nL = 4) {res : Int32 × RS} {x1 : Int32} {x2 : Int32} {K89 : Int32 → RS → Option (Int32 × RS)} (hK89 : ∀ (x2 : Int32) (S : RS), K89 x2 S = some res → J X 89 [(0, .ref (ad 7)), (1, .int x1), (2, .int x2)] [] S) (hE : EXi X cX7_removeHouse res.1 res.2) : ∀ (n : Nat) (x3 : Int32) (S : RS), f_X7_removeHouse_103 K89 x1 x2 n x3 S = some res → J X 103 [(0, .ref (ad 7)), (1, .int x1), (2, .int x2), (3, .int x3)] [] S := by
  intro n
  induction n with
  | zero =>
    intro x3 S hF
    rw [f_X7_removeHouse_103] at hF
    cases hF
  | succ n ih =>
    intro x3 S hF
    rw [f_X7_removeHouse_103] at hF
    refine j_iload_n h 3 rfl rfl dX7_removeHouse_103 ?_
    refine j_iconst h (v := 2) (by decide) dX7_removeHouse_104 ?_
    refine j_icmp_ge h 145 (by decide) dX7_removeHouse_105 hF (fun hF => ?_) (fun hF => ?_)
    · refine j_iincL hF (fun x_12 ex_12 hF => ?_)
      refine j_iinc h hnL 2 [(2, .int x_12), (0, .ref (ad 7)), (1, .int x1), (3, .int x3)] rfl ex_12 (by decide) (by decide) rfl dX7_removeHouse_145 ?_
      refine j_goto h 89 (by decide) dX7_removeHouse_148 ?_
      exact j_sub [1, 2, 0] rfl (hK89 _ _ hF)
    · refine j_aload_n h 0 rfl rfl dX7_removeHouse_108 ?_
      refine j_get h hM.2.1.o inX7 rfl 0 (by decide) rfl q4_24 rfl dX7_removeHouse_109 ?_
      refine j_bipush h (v := 80) (by decide) dX7_removeHouse_112 ?_
      refine j_iconst h (v := 3) (by decide) dX7_removeHouse_114 ?_
      refine j_iload_n h 2 rfl rfl dX7_removeHouse_115 ?_
      refine j_imul h dX7_removeHouse_116 ?_
      refine j_iadd h dX7_removeHouse_117 ?_
      refine j_iload_n h 3 rfl rfl dX7_removeHouse_118 ?_
      refine j_iadd h dX7_removeHouse_119 ?_
      refine j_dup2 h rfl rfl dX7_removeHouse_120 ?_
      obtain ⟨hb_13, hF⟩ := bnd_row hF
      refine ja_iald h (get := fun S => S.1) (put := setR) (hM.1 0 (by decide)) hb_13 dX7_removeHouse_121 ?_
      refine j_aload_n h 0 rfl rfl dX7_removeHouse_122 ?_
      refine j_iload_n h 2 rfl rfl dX7_removeHouse_123 ?_
      refine j_iload_n h 3 rfl rfl dX7_removeHouse_124 ?_
      obtain ⟨r_14, hr_14, hF⟩ := bind_row hF
      refine j_callVi h (st := [.int (rd S.1 0 (((80 : Int32) + ((3 : Int32) * x2)) + x3)), .int (((80 : Int32) + ((3 : Int32) * x2)) + x3), .ref (ad 0)]) (S' := S) (c_X7_loanOf X.l X.D X.cI X.cZ X.cV hM S x2 x3 hr_14) rfl rfl q4_113 cw_X7_loanOf hM.2.1.o rfl rfl rfl ⟨rfl, rfl, Nat.le_of_ble_eq_true rfl, Nat.le_of_ble_eq_true rfl⟩ _ rfl (Nat.le_of_ble_eq_true rfl) dX7_removeHouse_125 ?_
      refine j_iload_n h 1 rfl rfl dX7_removeHouse_128 ?_
      refine j_icmp_le h 136 (by decide) dX7_removeHouse_129 hF (fun hF => ?_) (fun hF => ?_)
      · refine j_iconst h (v := 0) (by decide) dX7_removeHouse_136 ?_
        exact j_sub [0, 1, 2, 3] rfl (k_X7_removeHouse_137 h hM hnL ih hE hF)
      · refine j_iconst h (v := 1) (by decide) dX7_removeHouse_132 ?_
        refine j_goto h 137 (by decide) dX7_removeHouse_133 ?_
        exact j_sub [0, 1, 2, 3] rfl (k_X7_removeHouse_137 h hM hnL ih hE hF)
set_option maxHeartbeats 4000000 in
set_option maxRecDepth 100000 in
theorem k_X7_removeHouse_89 {X : JX RS} {ad : Nat → Nat} (h : OK X RX7 cX7_removeHouse rmX7_removeHouse) (hM : IsRef X.cI X.B ad) (hnL : X.nL = 4) {res : Int32 × RS} {x1 : Int32} (hE : EXi X cX7_removeHouse res.1 res.2) : ∀ (n : Nat) (x2 : Int32) (S : RS), f_X7_removeHouse_89 x1 n x2 S = some res → J X 89 [(0, .ref (ad 7)), (1, .int x1), (2, .int x2)] [] S := by
  intro n
  induction n with
  | zero =>
    intro x2 S hF
    rw [f_X7_removeHouse_89] at hF
    cases hF
  | succ n ih =>
    intro x2 S hF
    rw [f_X7_removeHouse_89] at hF
    refine j_iload_n h 2 rfl rfl dX7_removeHouse_89 ?_
    refine j_aload_n h 0 rfl rfl dX7_removeHouse_90 ?_
    refine j_get h hM.2.1.o inX7 rfl 0 (by decide) rfl q4_24 rfl dX7_removeHouse_91 ?_
    refine j_sipush h (v := 173) (by decide) dX7_removeHouse_94 ?_
    obtain ⟨hb_10, hF⟩ := bnd_row hF
    refine ja_iald h (get := fun S => S.1) (put := setR) (hM.1 0 (by decide)) hb_10 dX7_removeHouse_97 ?_
    refine j_icmp_ge h 151 (by decide) dX7_removeHouse_98 hF (fun hF => ?_) (fun hF => ?_)
    · refine j_aload_n h 0 rfl rfl dX7_removeHouse_151 ?_
      refine j_get h hM.2.1.o inX7 rfl 0 (by decide) rfl q4_24 rfl dX7_removeHouse_152 ?_
      refine j_sipush h (v := 172) (by decide) dX7_removeHouse_155 ?_
      obtain ⟨hb_11, hF⟩ := bnd_row hF
      refine ja_iald h (get := fun S => S.1) (put := setR) (hM.1 0 (by decide)) hb_11 dX7_removeHouse_158 ?_
      cases hF
      exact hE _ _ dX7_removeHouse_159
    · refine j_iconst h (v := 0) (by decide) dX7_removeHouse_101 ?_
      refine j_istore_n h hnL [(3, .int (0 : Int32)), (0, .ref (ad 7)), (1, .int x1), (2, .int x2)] rfl (by decide) rfl dX7_removeHouse_102 ?_
      exact j_sub [1, 2, 3, 0] rfl (k_X7_removeHouse_103 h hM hnL ih hE fuel _ _ hF)
set_option maxHeartbeats 4000000 in
set_option maxRecDepth 100000 in
theorem k_X7_removeHouse_51 {X : JX RS} {ad : Nat → Nat} (h : OK X RX7 cX7_removeHouse rmX7_removeHouse) (hM : IsRef X.cI X.B ad) (hnL : X.nL = 4) {res : Int32 × RS} {x1 : Int32} (hE : EXi X cX7_removeHouse res.1 res.2) : ∀ (n : Nat) (x2 : Int32) (S : RS), f_X7_removeHouse_51 x1 n x2 S = some res → J X 51 [(0, .ref (ad 7)), (1, .int x1), (2, .int x2)] [] S := by
  intro n
  induction n with
  | zero =>
    intro x2 S hF
    rw [f_X7_removeHouse_51] at hF
    cases hF
  | succ n ih =>
    intro x2 S hF
    rw [f_X7_removeHouse_51] at hF
    refine j_iload_n h 2 rfl rfl dX7_removeHouse_51 ?_
    refine j_bipush h (v := 8) (by decide) dX7_removeHouse_52 ?_
    refine j_aload_n h 0 rfl rfl dX7_removeHouse_54 ?_
    refine j_get h hM.2.1.o inX7 rfl 0 (by decide) rfl q4_24 rfl dX7_removeHouse_55 ?_
    refine j_sipush h (v := 172) (by decide) dX7_removeHouse_58 ?_
    obtain ⟨hb_9, hF⟩ := bnd_row hF
    refine ja_iald h (get := fun S => S.1) (put := setR) (hM.1 0 (by decide)) hb_9 dX7_removeHouse_61 ?_
    refine j_imul h dX7_removeHouse_62 ?_
    refine j_icmp_ge h 87 (by decide) dX7_removeHouse_63 hF (fun hF => ?_) (fun hF => ?_)
    · refine j_iconst h (v := 0) (by decide) dX7_removeHouse_87 ?_
      refine j_istore_n h hnL [(2, .int (0 : Int32)), (0, .ref (ad 7)), (1, .int x1)] rfl (by decide) rfl dX7_removeHouse_88 ?_
      exact j_sub [1, 2, 0] rfl (k_X7_removeHouse_89 h hM hnL hE fuel _ _ hF)
    · refine j_aload_n h 0 rfl rfl dX7_removeHouse_66 ?_
      refine j_get h hM.2.1.o inX7 rfl 0 (by decide) rfl q4_24 rfl dX7_removeHouse_67 ?_
      refine j_iload_n h 2 rfl rfl dX7_removeHouse_70 ?_
      refine j_aload_n h 0 rfl rfl dX7_removeHouse_71 ?_
      refine j_get h hM.2.1.o inX7 rfl 0 (by decide) rfl q4_24 rfl dX7_removeHouse_72 ?_
      refine j_iload_n h 2 rfl rfl dX7_removeHouse_75 ?_
      refine j_bipush h (v := 8) (by decide) dX7_removeHouse_76 ?_
      refine j_iadd h dX7_removeHouse_78 ?_
      obtain ⟨hb_18, hF⟩ := bnd_row hF
      refine ja_iald h (get := fun S => S.1) (put := setR) (hM.1 0 (by decide)) hb_18 dX7_removeHouse_79 ?_
      obtain ⟨hb_19, hF⟩ := bnd_row hF
      refine ja_iast h (get := fun S => S.1) (put := setR) (hM.1 0 (by decide)) hb_19 dX7_removeHouse_80 ?_
      refine j_letS hF (fun S_20 hF => ?_)
      refine j_iincL hF (fun x_21 ex_21 hF => ?_)
      refine j_iinc h hnL 2 [(2, .int x_21), (0, .ref (ad 7)), (1, .int x1)] rfl ex_21 (by decide) (by decide) rfl dX7_removeHouse_81 ?_
      refine j_goto h 51 (by decide) dX7_removeHouse_84 ?_
      exact j_sub [1, 2, 0] rfl (ih _ _ hF)
set_option maxHeartbeats 4000000 in
set_option maxRecDepth 100000 in
theorem k_X7_removeHouse {X : JX RS} {ad : Nat → Nat} (h : OK X RX7 cX7_removeHouse rmX7_removeHouse) (hM : IsRef X.cI X.B ad) (hnL : X.nL = 4) {res : Int32 × RS} {S : RS} {p1 : Int32} (hE : EXi X cX7_removeHouse res.1 res.2) (hF : f_X7_removeHouse S p1 = some res) : J X 0 [(0, .ref (ad 7)), (1, .int p1)] [] S := by
  rw [f_X7_removeHouse] at hF
  refine j_aload_n h 0 rfl rfl dX7_removeHouse_0 ?_
  refine j_iload_n h 1 rfl rfl dX7_removeHouse_1 ?_
  obtain ⟨r_1, hr_1, hF⟩ := bind_row hF
  refine j_callVz h (st := []) (S' := S) (c_X7_isHouse X.l X.D X.cI X.cZ X.cV hM S p1 hr_1) rfl rfl q4_94 cw_X7_isHouse hM.2.1.o rfl rfl rfl ⟨rfl, rfl, Nat.le_of_ble_eq_true rfl, Nat.le_of_ble_eq_true rfl⟩ _ rfl (Nat.le_of_ble_eq_true rfl) dX7_removeHouse_2 (fun hz_r_1 => ?_)
  refine j_if_ne h 11 (by decide) dX7_removeHouse_5 hF (fun hF => ?_) (fun hF => ?_)
  · refine j_ldc h (v := -1000002) q4_80 dX7_removeHouse_8 ?_
    cases hF
    exact hE _ _ dX7_removeHouse_10
  · refine j_aload_n h 0 rfl rfl dX7_removeHouse_11 ?_
    refine j_iload_n h 1 rfl rfl dX7_removeHouse_12 ?_
    refine j_iconst h (v := 0) (by decide) dX7_removeHouse_13 ?_
    obtain ⟨r_2, hr_2, hF⟩ := bind_row hF
    refine j_callVi h (st := []) (S' := S) (c_X7_owed X.l X.D X.cI X.cZ X.cV hM S p1 (0 : Int32) hr_2) rfl rfl q4_109 cw_X7_owed hM.2.1.o rfl rfl rfl ⟨rfl, rfl, Nat.le_of_ble_eq_true rfl, Nat.le_of_ble_eq_true rfl⟩ _ rfl (Nat.le_of_ble_eq_true rfl) dX7_removeHouse_14 ?_
    refine j_aload_n h 0 rfl rfl dX7_removeHouse_17 ?_
    refine j_iload_n h 1 rfl rfl dX7_removeHouse_18 ?_
    refine j_iconst h (v := 1) (by decide) dX7_removeHouse_19 ?_
    obtain ⟨r_3, hr_3, hF⟩ := bind_row hF
    refine j_callVi h (st := [.int r_2]) (S' := S) (c_X7_owed X.l X.D X.cI X.cZ X.cV hM S p1 (1 : Int32) hr_3) rfl rfl q4_109 cw_X7_owed hM.2.1.o rfl rfl rfl ⟨rfl, rfl, Nat.le_of_ble_eq_true rfl, Nat.le_of_ble_eq_true rfl⟩ _ rfl (Nat.le_of_ble_eq_true rfl) dX7_removeHouse_20 ?_
    refine j_iadd h dX7_removeHouse_23 ?_
    refine j_if_le h 30 (by decide) dX7_removeHouse_24 hF (fun hF => ?_) (fun hF => ?_)
    · refine j_aload_n h 0 rfl rfl dX7_removeHouse_30 ?_
      obtain ⟨r_4, hr_4, hF⟩ := bind_row hF
      refine j_callVv h (st := []) (S' := r_4) (c_X7_record X.l X.D X.cI X.cZ X.cV hM S hr_4) rfl rfl q4_82 cw_X7_record hM.2.1.o rfl rfl rfl ⟨rfl, rfl, Nat.le_of_ble_eq_true rfl, Nat.le_of_ble_eq_true rfl⟩ _ rfl (Nat.le_of_ble_eq_true rfl) dX7_removeHouse_31 ?_
      refine j_aload_n h 0 rfl rfl dX7_removeHouse_34 ?_
      refine j_get h hM.2.1.o inX7 rfl 0 (by decide) rfl q4_24 rfl dX7_removeHouse_35 ?_
      refine j_sipush h (v := 172) (by decide) dX7_removeHouse_38 ?_
      refine j_dup2 h rfl rfl dX7_removeHouse_41 ?_
      obtain ⟨hb_5, hF⟩ := bnd_row hF
      refine ja_iald h (get := fun S => S.1) (put := setR) (hM.1 0 (by decide)) hb_5 dX7_removeHouse_42 ?_
      refine j_iconst h (v := 1) (by decide) dX7_removeHouse_43 ?_
      refine j_isub h dX7_removeHouse_44 ?_
      obtain ⟨hb_6, hF⟩ := bnd_row hF
      refine ja_iast h (get := fun S => S.1) (put := setR) (hM.1 0 (by decide)) hb_6 dX7_removeHouse_45 ?_
      refine j_letS hF (fun S_7 hF => ?_)
      refine j_bipush h (v := 8) (by decide) dX7_removeHouse_46 ?_
      refine j_iload_n h 1 rfl rfl dX7_removeHouse_48 ?_
      refine j_imul h dX7_removeHouse_49 ?_
      refine j_let hF (fun x_8 hF => ?_)
      refine j_istore_n h hnL [(2, .int x_8), (0, .ref (ad 7)), (1, .int p1)] rfl (by decide) rfl dX7_removeHouse_50 ?_
      exact j_sub [1, 2, 0] rfl (k_X7_removeHouse_51 h hM hnL hE fuel _ _ hF)
    · refine j_ldc h (v := -1000003) q4_117 dX7_removeHouse_27 ?_
      cases hF
      exact hE _ _ dX7_removeHouse_29
theorem c_X7_removeHouse (l : Launch) (D : va_G) (cI cZ cV : ClassId) {B : RS → va_W} {ad : Nat → Nat} (hM : IsRef cI B ad) (S : RS) (p1 : Int32) {r : Int32 × RS} (hF : f_X7_removeHouse S p1 = some r) : CTi l D (jtys cI cZ cV) yX7_removeHouse cX7_removeHouse 4 (some .int) rmX7_removeHouse B [.ref (ad 7), .int p1] S r.1 r.2 := by
  refine CTi.of [(0, .ref (ad 7)), (1, .int p1)] rfl (Nat.le_of_ble_eq_true rfl) (by decide) ⟨rfl, rfl⟩ (fun X e1 e2 e3 e4 e5 e6 e7 h hE => ?_)
  subst e1; subst e2; subst e3; subst e4; subst e5; subst e6
  exact k_X7_removeHouse h hM e7 hE hF
abbrev rmX7_dropPaid : Room := { frames := 1, cells := 0, slots := 0, locals := 22 }
theorem cw_X7_dropPaid : CWv RX7 yX7_dropPaid cX7_dropPaid 4 none 0 := ⟨q4_136, qs37, q1_8, q4_137, ⟨rfl, by decide +kernel, by decide +kernel, by decide +kernel⟩⟩
set_option maxHeartbeats 4000000 in
set_option maxRecDepth 100000 in
theorem k_X7_dropPaid_60 {X : JX RS} {ad : Nat → Nat} (h : OK X RX7 cX7_dropPaid rmX7_dropPaid) (hM : IsRef X.cI X.B ad) (hnL : X.nL = 4) {res : RS} {S : RS} {x1 : Int32} {x2 : Int32} {K4 : Int32 → Int32 → RS → Option (RS)} (hK4 : ∀ (x1 : Int32) (x2 : Int32) (S : RS), K4 x1 x2 S = some res → J X 4 [(0, .ref (ad 7)), (1, .int x1), (2, .int x2)] [] S) (hE : EXv X cX7_dropPaid res) (hF : f_X7_dropPaid_60 K4 S x1 x2 = some res) : J X 60 [(0, .ref (ad 7)), (1, .int x1), (2, .int x2)] [] S := by
  rw [f_X7_dropPaid_60] at hF
  refine j_iincL hF (fun x_5 ex_5 hF => ?_)
  refine j_iinc h hnL 2 [(2, .int x_5), (0, .ref (ad 7)), (1, .int x1)] rfl ex_5 (by decide) (by decide) rfl dX7_dropPaid_60 ?_
  refine j_goto h 4 (by decide) dX7_dropPaid_63 ?_
  exact j_sub [1, 2, 0] rfl (hK4 _ _ _ hF)
set_option maxHeartbeats 4000000 in
set_option maxRecDepth 100000 in
theorem k_X7_dropPaid_27 {X : JX RS} {ad : Nat → Nat} (h : OK X RX7 cX7_dropPaid rmX7_dropPaid) (hM : IsRef X.cI X.B ad) (hnL : X.nL = 4) {res : RS} {x1 : Int32} {x2 : Int32} {K4 : Int32 → Int32 → RS → Option (RS)} (hK4 : ∀ (x1 : Int32) (x2 : Int32) (S : RS), K4 x1 x2 S = some res → J X 4 [(0, .ref (ad 7)), (1, .int x1), (2, .int x2)] [] S) (hE : EXv X cX7_dropPaid res) : ∀ (n : Nat) (x3 : Int32) (S : RS), f_X7_dropPaid_27 K4 x1 x2 n x3 S = some res → J X 27 [(0, .ref (ad 7)), (1, .int x1), (2, .int x2), (3, .int x3)] [] S := by
  intro n
  induction n with
  | zero =>
    intro x3 S hF
    rw [f_X7_dropPaid_27] at hF
    cases hF
  | succ n ih =>
    intro x3 S hF
    rw [f_X7_dropPaid_27] at hF
    refine j_iload_n h 3 rfl rfl dX7_dropPaid_27 ?_
    refine j_iconst h (v := 3) (by decide) dX7_dropPaid_28 ?_
    refine j_icmp_ge h 57 (by decide) dX7_dropPaid_29 hF (fun hF => ?_) (fun hF => ?_)
    · refine j_iincL hF (fun x_6 ex_6 hF => ?_)
      refine j_iinc h hnL 1 [(1, .int x_6), (0, .ref (ad 7)), (2, .int x2), (3, .int x3)] rfl ex_6 (by decide) (by decide) rfl dX7_dropPaid_57 ?_
      exact j_sub [1, 0, 2] rfl (k_X7_dropPaid_60 h hM hnL hK4 hE hF)
    · refine j_aload_n h 0 rfl rfl dX7_dropPaid_32 ?_
      refine j_get h hM.2.1.o inX7 rfl 0 (by decide) rfl q4_24 rfl dX7_dropPaid_33 ?_
      refine j_bipush h (v := 80) (by decide) dX7_dropPaid_36 ?_
      refine j_iconst h (v := 3) (by decide) dX7_dropPaid_38 ?_
      refine j_iload_n h 1 rfl rfl dX7_dropPaid_39 ?_
      refine j_imul h dX7_dropPaid_40 ?_
      refine j_iadd h dX7_dropPaid_41 ?_
      refine j_iload_n h 3 rfl rfl dX7_dropPaid_42 ?_
      refine j_iadd h dX7_dropPaid_43 ?_
      refine j_aload_n h 0 rfl rfl dX7_dropPaid_44 ?_
      refine j_iload_n h 2 rfl rfl dX7_dropPaid_45 ?_
      refine j_iload_n h 3 rfl rfl dX7_dropPaid_46 ?_
      obtain ⟨r_7, hr_7, hF⟩ := bind_row hF
      refine j_callVi h (st := [.int (((80 : Int32) + ((3 : Int32) * x1)) + x3), .ref (ad 0)]) (S' := S) (c_X7_loanOf X.l X.D X.cI X.cZ X.cV hM S x2 x3 hr_7) rfl rfl q4_113 cw_X7_loanOf hM.2.1.o rfl rfl rfl ⟨rfl, rfl, Nat.le_of_ble_eq_true rfl, Nat.le_of_ble_eq_true rfl⟩ _ rfl (Nat.le_of_ble_eq_true rfl) dX7_dropPaid_47 ?_
      obtain ⟨hb_8, hF⟩ := bnd_row hF
      refine ja_iast h (get := fun S => S.1) (put := setR) (hM.1 0 (by decide)) hb_8 dX7_dropPaid_50 ?_
      refine j_letS hF (fun S_9 hF => ?_)
      refine j_iincL hF (fun x_10 ex_10 hF => ?_)
      refine j_iinc h hnL 3 [(3, .int x_10), (0, .ref (ad 7)), (1, .int x1), (2, .int x2)] rfl ex_10 (by decide) (by decide) rfl dX7_dropPaid_51 ?_
      refine j_goto h 27 (by decide) dX7_dropPaid_54 ?_
      exact j_sub [1, 2, 3, 0] rfl (ih _ _ hF)
set_option maxHeartbeats 4000000 in
set_option maxRecDepth 100000 in
theorem k_X7_dropPaid_4 {X : JX RS} {ad : Nat → Nat} (h : OK X RX7 cX7_dropPaid rmX7_dropPaid) (hM : IsRef X.cI X.B ad) (hnL : X.nL = 4) {res : RS} (hE : EXv X cX7_dropPaid res) : ∀ (n : Nat) (x1 : Int32) (x2 : Int32) (S : RS), f_X7_dropPaid_4 n x1 x2 S = some res → J X 4 [(0, .ref (ad 7)), (1, .int x1), (2, .int x2)] [] S := by
  intro n
  induction n with
  | zero =>
    intro x1 x2 S hF
    rw [f_X7_dropPaid_4] at hF
    cases hF
  | succ n ih =>
    intro x1 x2 S hF
    rw [f_X7_dropPaid_4] at hF
    refine j_iload_n h 2 rfl rfl dX7_dropPaid_4 ?_
    refine j_aload_n h 0 rfl rfl dX7_dropPaid_5 ?_
    refine j_get h hM.2.1.o inX7 rfl 0 (by decide) rfl q4_24 rfl dX7_dropPaid_6 ?_
    refine j_sipush h (v := 173) (by decide) dX7_dropPaid_9 ?_
    obtain ⟨hb_1, hF⟩ := bnd_row hF
    refine ja_iald h (get := fun S => S.1) (put := setR) (hM.1 0 (by decide)) hb_1 dX7_dropPaid_12 ?_
    refine j_icmp_ge h 66 (by decide) dX7_dropPaid_13 hF (fun hF => ?_) (fun hF => ?_)
    · refine j_aload_n h 0 rfl rfl dX7_dropPaid_66 ?_
      refine j_get h hM.2.1.o inX7 rfl 0 (by decide) rfl q4_24 rfl dX7_dropPaid_67 ?_
      refine j_sipush h (v := 173) (by decide) dX7_dropPaid_70 ?_
      refine j_iload_n h 1 rfl rfl dX7_dropPaid_73 ?_
      obtain ⟨hb_2, hF⟩ := bnd_row hF
      refine ja_iast h (get := fun S => S.1) (put := setR) (hM.1 0 (by decide)) hb_2 dX7_dropPaid_74 ?_
      refine j_letS hF (fun S_3 hF => ?_)
      cases hF
      exact hE _ _ dX7_dropPaid_75
    · refine j_aload_n h 0 rfl rfl dX7_dropPaid_16 ?_
      refine j_iload_n h 2 rfl rfl dX7_dropPaid_17 ?_
      refine j_iconst h (v := 2) (by decide) dX7_dropPaid_18 ?_
      obtain ⟨r_4, hr_4, hF⟩ := bind_row hF
      refine j_callVi h (st := []) (S' := S) (c_X7_loanOf X.l X.D X.cI X.cZ X.cV hM S x2 (2 : Int32) hr_4) rfl rfl q4_113 cw_X7_loanOf hM.2.1.o rfl rfl rfl ⟨rfl, rfl, Nat.le_of_ble_eq_true rfl, Nat.le_of_ble_eq_true rfl⟩ _ rfl (Nat.le_of_ble_eq_true rfl) dX7_dropPaid_19 ?_
      refine j_if_le h 60 (by decide) dX7_dropPaid_22 hF (fun hF => ?_) (fun hF => ?_)
      · exact j_sub [0, 1, 2] rfl (k_X7_dropPaid_60 h hM hnL ih hE hF)
      · refine j_iconst h (v := 0) (by decide) dX7_dropPaid_25 ?_
        refine j_istore_n h hnL [(3, .int (0 : Int32)), (0, .ref (ad 7)), (1, .int x1), (2, .int x2)] rfl (by decide) rfl dX7_dropPaid_26 ?_
        exact j_sub [1, 2, 3, 0] rfl (k_X7_dropPaid_27 h hM hnL ih hE fuel _ _ hF)
set_option maxHeartbeats 4000000 in
set_option maxRecDepth 100000 in
theorem k_X7_dropPaid {X : JX RS} {ad : Nat → Nat} (h : OK X RX7 cX7_dropPaid rmX7_dropPaid) (hM : IsRef X.cI X.B ad) (hnL : X.nL = 4) {res : RS} {S : RS} (hE : EXv X cX7_dropPaid res) (hF : f_X7_dropPaid S = some res) : J X 0 [(0, .ref (ad 7))] [] S := by
  rw [f_X7_dropPaid] at hF
  refine j_iconst h (v := 0) (by decide) dX7_dropPaid_0 ?_
  refine j_istore_n h hnL [(1, .int (0 : Int32)), (0, .ref (ad 7))] rfl (by decide) rfl dX7_dropPaid_1 ?_
  refine j_iconst h (v := 0) (by decide) dX7_dropPaid_2 ?_
  refine j_istore_n h hnL [(2, .int (0 : Int32)), (1, .int (0 : Int32)), (0, .ref (ad 7))] rfl (by decide) rfl dX7_dropPaid_3 ?_
  exact j_sub [2, 1, 0] rfl (k_X7_dropPaid_4 h hM hnL hE fuel _ _ _ hF)
theorem c_X7_dropPaid (l : Launch) (D : va_G) (cI cZ cV : ClassId) {B : RS → va_W} {ad : Nat → Nat} (hM : IsRef cI B ad) (S : RS) {r : RS} (hF : f_X7_dropPaid S = some r) : CTv l D (jtys cI cZ cV) yX7_dropPaid cX7_dropPaid 4 none rmX7_dropPaid B [.ref (ad 7)] S r := by
  refine CTv.of [(0, .ref (ad 7))] rfl (Nat.le_of_ble_eq_true rfl) (by decide) ⟨rfl, rfl⟩ (fun X e1 e2 e3 e4 e5 e6 e7 h hE => ?_)
  subst e1; subst e2; subst e3; subst e4; subst e5; subst e6
  exact k_X7_dropPaid h hM e7 hE hF
abbrev rmX7_token : Room := { frames := 2, cells := 0, slots := 0, locals := 46 }
theorem cw_X7_token : CWv RX7 yX7_token cX7_token 11 none 2 := ⟨q4_124, qs34, q1_8, q4_125, ⟨rfl, by decide +kernel, by decide +kernel, by decide +kernel⟩⟩
set_option maxHeartbeats 4000000 in
set_option maxRecDepth 100000 in
theorem k_X7_token_182 {X : JX RS} {ad : Nat → Nat} (h : OK X RX7 cX7_token rmX7_token) (hM : IsRef X.cI X.B ad) (hnL : X.nL = 11) {res : RS} {S : RS} {x1 : Int32} {x2 : Int32} {x4 : Int32} {x5 : Int32} {x7 : Int32} {x8 : Int32} {x9 : Int32} {K92 : Int32 → Int32 → RS → Option (RS)} (hK92 : ∀ (x8 : Int32) (x9 : Int32) (S : RS), K92 x8 x9 S = some res → J X 92 [(0, .ref (ad 7)), (1, .int x1), (2, .int x2), (4, .int x4), (5, .int x5), (7, .int x7), (8, .int x8), (9, .int x9)] [] S) (hE : EXv X cX7_token res) (hF : f_X7_token_182 K92 S x1 x2 x4 x5 x7 x8 x9 = some res) : J X 182 [(0, .ref (ad 7)), (1, .int x1), (2, .int x2), (4, .int x4), (5, .int x5), (7, .int x7), (8, .int x8), (9, .int x9)] [] S := by
  rw [f_X7_token_182] at hF
  refine j_iincL hF (fun x_27 ex_27 hF => ?_)
  refine j_iinc h hnL 7 [(9, .int x_27), (0, .ref (ad 7)), (1, .int x1), (2, .int x2), (4, .int x4), (5, .int x5), (7, .int x7), (8, .int x8)] rfl ex_27 (by decide) (by decide) rfl dX7_token_182 ?_
  refine j_goto h 92 (by decide) dX7_token_185 ?_
  exact j_sub [1, 2, 3, 4, 5, 6, 7, 0] rfl (hK92 _ _ _ hF)
set_option maxHeartbeats 4000000 in
set_option maxRecDepth 100000 in
theorem k_X7_token_140 {X : JX RS} {ad : Nat → Nat} (h : OK X RX7 cX7_token rmX7_token) (hM : IsRef X.cI X.B ad) (hnL : X.nL = 11) {res : RS} {S : RS} {x1 : Int32} {x2 : Int32} {x4 : Int32} {x5 : Int32} {x7 : Int32} {x8 : Int32} {x9 : Int32} {s0 : Int32} {K92 : Int32 → Int32 → RS → Option (RS)} (hK92 : ∀ (x8 : Int32) (x9 : Int32) (S : RS), K92 x8 x9 S = some res → J X 92 [(0, .ref (ad 7)), (1, .int x1), (2, .int x2), (4, .int x4), (5, .int x5), (7, .int x7), (8, .int x8), (9, .int x9)] [] S) (hE : EXv X cX7_token res) (hF : f_X7_token_140 K92 S x1 x2 x4 x5 x7 x8 x9 s0 = some res) : J X 140 [(0, .ref (ad 7)), (1, .int x1), (2, .int x2), (4, .int x4), (5, .int x5), (7, .int x7), (8, .int x8), (9, .int x9)] [.int s0] S := by
  rw [f_X7_token_140] at hF
  refine j_istore h hnL [(10, .int s0), (0, .ref (ad 7)), (1, .int x1), (2, .int x2), (4, .int x4), (5, .int x5), (7, .int x7), (8, .int x8), (9, .int x9)] (by decide) rfl dX7_token_140 ?_
  refine j_aload_n h 1 rfl rfl dX7_token_142 ?_
  refine j_get h hM.2.1.o inX7 rfl 0 (by decide) rfl q4_24 rfl dX7_token_143 ?_
  refine j_bipush h (v := 80) (by decide) dX7_token_146 ?_
  refine j_iconst h (v := 3) (by decide) dX7_token_148 ?_
  refine j_iload h 8 rfl dX7_token_149 ?_
  refine j_imul h dX7_token_151 ?_
  refine j_iadd h dX7_token_152 ?_
  refine j_iconst h (v := 2) (by decide) dX7_token_153 ?_
  refine j_iadd h dX7_token_154 ?_
  refine j_dup2 h rfl rfl dX7_token_155 ?_
  obtain ⟨hb_21, hF⟩ := bnd_row hF
  refine ja_iald h (get := fun S => S.1) (put := setR) (hM.1 0 (by decide)) hb_21 dX7_token_156 ?_
  refine j_iload h 0 rfl dX7_token_157 ?_
  refine j_isub h dX7_token_159 ?_
  obtain ⟨hb_22, hF⟩ := bnd_row hF
  refine ja_iast h (get := fun S => S.1) (put := setR) (hM.1 0 (by decide)) hb_22 dX7_token_160 ?_
  refine j_letS hF (fun S_23 hF => ?_)
  refine j_aload_n h 1 rfl rfl dX7_token_161 ?_
  refine j_aload_n h 1 rfl rfl dX7_token_162 ?_
  refine j_iload h 8 rfl dX7_token_163 ?_
  refine j_iconst h (v := 0) (by decide) dX7_token_165 ?_
  obtain ⟨r_24, hr_24, hF⟩ := bind_row hF
  refine j_callVi h (st := [.ref (ad 7)]) (S' := S_23) (c_X7_loanOf X.l X.D X.cI X.cZ X.cV hM S_23 x9 (0 : Int32) hr_24) rfl rfl q4_113 cw_X7_loanOf hM.2.1.o rfl rfl rfl ⟨rfl, rfl, Nat.le_of_ble_eq_true rfl, Nat.le_of_ble_eq_true rfl⟩ _ rfl (Nat.le_of_ble_eq_true rfl) dX7_token_166 ?_
  refine j_iconst h (v := 4) (by decide) dX7_token_169 ?_
  refine j_iload h 0 rfl dX7_token_170 ?_
  obtain ⟨r_25, hr_25, hF⟩ := bind_row hF
  refine j_callVv h (st := []) (S' := r_25) (c_X7_add X.l X.D X.cI X.cZ X.cV hM S_23 r_24 (4 : Int32) s0 hr_25) rfl rfl q4_130 cw_X7_add hM.2.1.o rfl rfl rfl ⟨rfl, rfl, Nat.le_of_ble_eq_true rfl, Nat.le_of_ble_eq_true rfl⟩ _ rfl (Nat.le_of_ble_eq_true rfl) dX7_token_172 ?_
  refine j_iload h 7 rfl dX7_token_175 ?_
  refine j_iload h 0 rfl dX7_token_177 ?_
  refine j_isub h dX7_token_179 ?_
  refine j_let hF (fun x_26 hF => ?_)
  refine j_istore h hnL [(8, .int x_26), (10, .int s0), (0, .ref (ad 7)), (1, .int x1), (2, .int x2), (4, .int x4), (5, .int x5), (7, .int x7), (9, .int x9)] (by decide) rfl dX7_token_180 ?_
  exact j_sub [2, 3, 4, 5, 6, 7, 0, 8] rfl (k_X7_token_182 h hM hnL hK92 hE hF)
set_option maxHeartbeats 4000000 in
set_option maxRecDepth 100000 in
theorem k_X7_token_92 {X : JX RS} {ad : Nat → Nat} (h : OK X RX7 cX7_token rmX7_token) (hM : IsRef X.cI X.B ad) (hnL : X.nL = 11) {res : RS} {x1 : Int32} {x2 : Int32} {x4 : Int32} {x5 : Int32} {x7 : Int32} (hE : EXv X cX7_token res) : ∀ (n : Nat) (x8 : Int32) (x9 : Int32) (S : RS), f_X7_token_92 x1 x2 x4 x5 x7 n x8 x9 S = some res → J X 92 [(0, .ref (ad 7)), (1, .int x1), (2, .int x2), (4, .int x4), (5, .int x5), (7, .int x7), (8, .int x8), (9, .int x9)] [] S := by
  intro n
  induction n with
  | zero =>
    intro x8 x9 S hF
    rw [f_X7_token_92] at hF
    cases hF
  | succ n ih =>
    intro x8 x9 S hF
    rw [f_X7_token_92] at hF
    refine j_iload h 7 rfl dX7_token_92 ?_
    refine j_aload_n h 0 rfl rfl dX7_token_94 ?_
    refine j_get h hM.2.1.o inX7 rfl 0 (by decide) rfl q4_24 rfl dX7_token_95 ?_
    refine j_sipush h (v := 173) (by decide) dX7_token_98 ?_
    obtain ⟨hb_10, hF⟩ := bnd_row hF
    refine ja_iald h (get := fun S => S.1) (put := setR) (hM.1 0 (by decide)) hb_10 dX7_token_101 ?_
    refine j_icmp_ge h 188 (by decide) dX7_token_102 hF (fun hF => ?_) (fun hF => ?_)
    · refine j_aload_n h 0 rfl rfl dX7_token_188 ?_
      obtain ⟨r_11, hr_11, hF⟩ := bind_row hF
      refine j_callVv h (st := []) (S' := r_11) (c_X7_dropPaid X.l X.D X.cI X.cZ X.cV hM S hr_11) rfl rfl q4_134 cw_X7_dropPaid hM.2.1.o rfl rfl rfl ⟨rfl, rfl, Nat.le_of_ble_eq_true rfl, Nat.le_of_ble_eq_true rfl⟩ _ rfl (Nat.le_of_ble_eq_true rfl) dX7_token_189 ?_
      refine j_aload_n h 0 rfl rfl dX7_token_192 ?_
      refine j_iload_n h 1 rfl rfl dX7_token_193 ?_
      refine j_iconst h (v := 4) (by decide) dX7_token_194 ?_
      refine j_iload h 4 rfl dX7_token_195 ?_
      refine j_iload h 5 rfl dX7_token_197 ?_
      refine j_isub h dX7_token_199 ?_
      obtain ⟨r_12, hr_12, hF⟩ := bind_row hF
      refine j_callVv h (st := []) (S' := r_12) (c_X7_add X.l X.D X.cI X.cZ X.cV hM r_11 x1 (4 : Int32) (x5 - x7) hr_12) rfl rfl q4_130 cw_X7_add hM.2.1.o rfl rfl rfl ⟨rfl, rfl, Nat.le_of_ble_eq_true rfl, Nat.le_of_ble_eq_true rfl⟩ _ rfl (Nat.le_of_ble_eq_true rfl) dX7_token_200 ?_
      refine j_aload_n h 0 rfl rfl dX7_token_203 ?_
      refine j_get h hM.2.1.o inX7 rfl 0 (by decide) rfl q4_24 rfl dX7_token_204 ?_
      refine j_sipush h (v := 187) (by decide) dX7_token_207 ?_
      refine j_dup2 h rfl rfl dX7_token_210 ?_
      obtain ⟨hb_13, hF⟩ := bnd_row hF
      refine ja_iald h (get := fun S => S.1) (put := setR) (hM.1 0 (by decide)) hb_13 dX7_token_211 ?_
      refine j_iload_n h 2 rfl rfl dX7_token_212 ?_
      refine j_iadd h dX7_token_213 ?_
      obtain ⟨hb_14, hF⟩ := bnd_row hF
      refine ja_iast h (get := fun S => S.1) (put := setR) (hM.1 0 (by decide)) hb_14 dX7_token_214 ?_
      refine j_letS hF (fun S_15 hF => ?_)
      refine j_aload_n h 0 rfl rfl dX7_token_215 ?_
      refine j_get h hM.2.1.o inX7 rfl 0 (by decide) rfl q4_24 rfl dX7_token_216 ?_
      refine j_sipush h (v := 188) (by decide) dX7_token_219 ?_
      refine j_dup2 h rfl rfl dX7_token_222 ?_
      obtain ⟨hb_16, hF⟩ := bnd_row hF
      refine ja_iald h (get := fun S => S.1) (put := setR) (hM.1 0 (by decide)) hb_16 dX7_token_223 ?_
      refine j_iload h 3 rfl dX7_token_224 ?_
      refine j_iadd h dX7_token_226 ?_
      obtain ⟨hb_17, hF⟩ := bnd_row hF
      refine ja_iast h (get := fun S => S.1) (put := setR) (hM.1 0 (by decide)) hb_17 dX7_token_227 ?_
      refine j_letS hF (fun S_18 hF => ?_)
      cases hF
      exact hE _ _ dX7_token_228
    · refine j_aload_n h 0 rfl rfl dX7_token_105 ?_
      refine j_iload h 7 rfl dX7_token_106 ?_
      refine j_iconst h (v := 1) (by decide) dX7_token_108 ?_
      obtain ⟨r_19, hr_19, hF⟩ := bind_row hF
      refine j_callVi h (st := []) (S' := S) (c_X7_loanOf X.l X.D X.cI X.cZ X.cV hM S x9 (1 : Int32) hr_19) rfl rfl q4_113 cw_X7_loanOf hM.2.1.o rfl rfl rfl ⟨rfl, rfl, Nat.le_of_ble_eq_true rfl, Nat.le_of_ble_eq_true rfl⟩ _ rfl (Nat.le_of_ble_eq_true rfl) dX7_token_109 ?_
      refine j_iload_n h 1 rfl rfl dX7_token_112 ?_
      refine j_icmp_ne h 182 (by decide) dX7_token_113 hF (fun hF => ?_) (fun hF => ?_)
      · refine j_aload_n h 0 rfl rfl dX7_token_116 ?_
        refine j_iload h 7 rfl dX7_token_117 ?_
        refine j_iconst h (v := 2) (by decide) dX7_token_119 ?_
        obtain ⟨r_20, hr_20, hF⟩ := bind_row hF
        refine j_callVi h (st := []) (S' := S) (c_X7_loanOf X.l X.D X.cI X.cZ X.cV hM S x9 (2 : Int32) hr_20) rfl rfl q4_113 cw_X7_loanOf hM.2.1.o rfl rfl rfl ⟨rfl, rfl, Nat.le_of_ble_eq_true rfl, Nat.le_of_ble_eq_true rfl⟩ _ rfl (Nat.le_of_ble_eq_true rfl) dX7_token_120 ?_
        refine j_iload h 6 rfl dX7_token_123 ?_
        refine j_icmp_ge h 138 (by decide) dX7_token_125 hF (fun hF => ?_) (fun hF => ?_)
        · refine j_iload h 6 rfl dX7_token_138 ?_
          exact j_sub [0, 1, 2, 3, 4, 5, 6, 7] rfl (k_X7_token_140 h hM hnL ih hE hF)
        · refine j_aload_n h 0 rfl rfl dX7_token_128 ?_
          refine j_iload h 7 rfl dX7_token_129 ?_
          refine j_iconst h (v := 2) (by decide) dX7_token_131 ?_
          obtain ⟨r_28, hr_28, hF⟩ := bind_row hF
          refine j_callVi h (st := []) (S' := S) (c_X7_loanOf X.l X.D X.cI X.cZ X.cV hM S x9 (2 : Int32) hr_28) rfl rfl q4_113 cw_X7_loanOf hM.2.1.o rfl rfl rfl ⟨rfl, rfl, Nat.le_of_ble_eq_true rfl, Nat.le_of_ble_eq_true rfl⟩ _ rfl (Nat.le_of_ble_eq_true rfl) dX7_token_132 ?_
          refine j_goto h 140 (by decide) dX7_token_135 ?_
          exact j_sub [0, 1, 2, 3, 4, 5, 6, 7] rfl (k_X7_token_140 h hM hnL ih hE hF)
      · exact j_sub [0, 1, 2, 3, 4, 5, 6, 7] rfl (k_X7_token_182 h hM hnL ih hE hF)
set_option maxHeartbeats 4000000 in
set_option maxRecDepth 100000 in
theorem k_X7_token_83 {X : JX RS} {ad : Nat → Nat} (h : OK X RX7 cX7_token rmX7_token) (hM : IsRef X.cI X.B ad) (hnL : X.nL = 11) {res : RS} {S : RS} {x1 : Int32} {x2 : Int32} {x4 : Int32} {x5 : Int32} {s0 : Int32} (hE : EXv X cX7_token res) (hF : f_X7_token_83 S x1 x2 x4 x5 s0 = some res) : J X 83 [(0, .ref (ad 7)), (1, .int x1), (2, .int x2), (4, .int x4), (5, .int x5)] [.int s0] S := by
  rw [f_X7_token_83] at hF
  refine j_istore h hnL [(7, .int s0), (0, .ref (ad 7)), (1, .int x1), (2, .int x2), (4, .int x4), (5, .int x5)] (by decide) rfl dX7_token_83 ?_
  refine j_iload h 0 rfl dX7_token_85 ?_
  refine j_istore h hnL [(8, .int s0), (7, .int s0), (0, .ref (ad 7)), (1, .int x1), (2, .int x2), (4, .int x4), (5, .int x5)] (by decide) rfl dX7_token_87 ?_
  refine j_iconst h (v := 0) (by decide) dX7_token_89 ?_
  refine j_istore h hnL [(9, .int (0 : Int32)), (8, .int s0), (7, .int s0), (0, .ref (ad 7)), (1, .int x1), (2, .int x2), (4, .int x4), (5, .int x5)] (by decide) rfl dX7_token_90 ?_
  exact j_sub [3, 4, 5, 6, 7, 2, 1, 0] rfl (k_X7_token_92 h hM hnL hE fuel _ _ _ hF)
set_option maxHeartbeats 4000000 in
set_option maxRecDepth 100000 in
theorem k_X7_token_31 {X : JX RS} {ad : Nat → Nat} (h : OK X RX7 cX7_token rmX7_token) (hM : IsRef X.cI X.B ad) (hnL : X.nL = 11) {res : RS} {S : RS} {x1 : Int32} {x2 : Int32} {s0 : Int32} (hE : EXv X cX7_token res) (hF : f_X7_token_31 S x1 x2 s0 = some res) : J X 31 [(0, .ref (ad 7)), (1, .int x1), (2, .int x2)] [.int s0] S := by
  rw [f_X7_token_31] at hF
  refine j_istore h hnL [(4, .int s0), (0, .ref (ad 7)), (1, .int x1), (2, .int x2)] (by decide) rfl dX7_token_31 ?_
  refine j_aload_n h 1 rfl rfl dX7_token_33 ?_
  refine j_iload_n h 2 rfl rfl dX7_token_34 ?_
  refine j_iconst h (v := 2) (by decide) dX7_token_35 ?_
  refine j_iload h 0 rfl dX7_token_36 ?_
  refine j_ineg h dX7_token_38 ?_
  obtain ⟨r_5, hr_5, hF⟩ := bind_row hF
  refine j_callVv h (st := []) (S' := r_5) (c_X7_add X.l X.D X.cI X.cZ X.cV hM S x1 (2 : Int32) (-s0) hr_5) rfl rfl q4_130 cw_X7_add hM.2.1.o rfl rfl rfl ⟨rfl, rfl, Nat.le_of_ble_eq_true rfl, Nat.le_of_ble_eq_true rfl⟩ _ rfl (Nat.le_of_ble_eq_true rfl) dX7_token_39 ?_
  refine j_iload_n h 3 rfl rfl dX7_token_42 ?_
  refine j_iload h 0 rfl dX7_token_43 ?_
  refine j_isub h dX7_token_45 ?_
  refine j_let hF (fun x_6 hF => ?_)
  refine j_istore h hnL [(5, .int x_6), (4, .int s0), (0, .ref (ad 7)), (1, .int x1), (2, .int x2)] (by decide) rfl dX7_token_46 ?_
  refine j_aload_n h 2 rfl rfl dX7_token_48 ?_
  refine j_iload_n h 3 rfl rfl dX7_token_49 ?_
  refine j_iconst h (v := 1) (by decide) dX7_token_50 ?_
  obtain ⟨r_7, hr_7, hF⟩ := bind_row hF
  refine j_callVi h (st := []) (S' := r_5) (c_X7_owed X.l X.D X.cI X.cZ X.cV hM r_5 x1 (1 : Int32) hr_7) rfl rfl q4_109 cw_X7_owed hM.2.1.o rfl rfl rfl ⟨rfl, rfl, Nat.le_of_ble_eq_true rfl, Nat.le_of_ble_eq_true rfl⟩ _ rfl (Nat.le_of_ble_eq_true rfl) dX7_token_51 ?_
  refine j_istore h hnL [(6, .int r_7), (5, .int x_6), (4, .int s0), (0, .ref (ad 7)), (1, .int x1), (2, .int x2)] (by decide) rfl dX7_token_54 ?_
  refine j_iload h 1 rfl dX7_token_56 ?_
  refine j_aload_n h 3 rfl rfl dX7_token_58 ?_
  refine j_iconst h (v := 2) (by decide) dX7_token_59 ?_
  obtain ⟨r_8, hr_8, hF⟩ := bind_row hF
  refine j_callVi h (st := [.int x_6]) (S' := r_5) (c_X7_setting1 X.l X.D X.cI X.cZ X.cV hM r_5 (2 : Int32) hr_8) rfl rfl q4_126 cw_X7_setting1 hM.2.1.o rfl rfl rfl ⟨rfl, rfl, Nat.le_of_ble_eq_true rfl, Nat.le_of_ble_eq_true rfl⟩ _ rfl (Nat.le_of_ble_eq_true rfl) dX7_token_60 ?_
  refine j_imul h dX7_token_63 ?_
  refine j_bipush h (v := 100) (by decide) dX7_token_64 ?_
  refine j_idiv h (by decide) dX7_token_66 ?_
  refine j_let hF (fun x_9 hF => ?_)
  refine j_istore h hnL [(7, .int x_9), (6, .int r_7), (5, .int x_6), (4, .int s0), (0, .ref (ad 7)), (1, .int x1), (2, .int x2)] (by decide) rfl dX7_token_67 ?_
  refine j_iload h 0 rfl dX7_token_69 ?_
  refine j_iload h 1 rfl dX7_token_71 ?_
  refine j_icmp_ge h 81 (by decide) dX7_token_73 hF (fun hF => ?_) (fun hF => ?_)
  · refine j_iload h 1 rfl dX7_token_81 ?_
    exact j_sub [4, 5, 6, 3, 2] rfl (k_X7_token_83 h hM hnL hE hF)
  · refine j_iload h 0 rfl dX7_token_76 ?_
    refine j_goto h 83 (by decide) dX7_token_78 ?_
    exact j_sub [4, 5, 6, 3, 2] rfl (k_X7_token_83 h hM hnL hE hF)
set_option maxHeartbeats 4000000 in
set_option maxRecDepth 100000 in
theorem k_X7_token {X : JX RS} {ad : Nat → Nat} (h : OK X RX7 cX7_token rmX7_token) (hM : IsRef X.cI X.B ad) (hnL : X.nL = 11) {res : RS} {S : RS} {p1 : Int32} {p2 : Int32} (hE : EXv X cX7_token res) (hF : f_X7_token S p1 p2 = some res) : J X 0 [(0, .ref (ad 7)), (1, .int p1), (2, .int p2)] [] S := by
  rw [f_X7_token] at hF
  refine j_iload_n h 2 rfl rfl dX7_token_0 ?_
  refine j_aload_n h 0 rfl rfl dX7_token_1 ?_
  refine j_iconst h (v := 1) (by decide) dX7_token_2 ?_
  obtain ⟨r_1, hr_1, hF⟩ := bind_row hF
  refine j_callVi h (st := [.int p2]) (S' := S) (c_X7_setting1 X.l X.D X.cI X.cZ X.cV hM S (1 : Int32) hr_1) rfl rfl q4_126 cw_X7_setting1 hM.2.1.o rfl rfl rfl ⟨rfl, rfl, Nat.le_of_ble_eq_true rfl, Nat.le_of_ble_eq_true rfl⟩ _ rfl (Nat.le_of_ble_eq_true rfl) dX7_token_3 ?_
  refine j_imul h dX7_token_6 ?_
  refine j_bipush h (v := 100) (by decide) dX7_token_7 ?_
  refine j_idiv h (by decide) dX7_token_9 ?_
  refine j_let hF (fun x_2 hF => ?_)
  refine j_istore_n h hnL [(3, .int x_2), (0, .ref (ad 7)), (1, .int p1), (2, .int p2)] rfl (by decide) rfl dX7_token_10 ?_
  refine j_iload_n h 0 rfl rfl dX7_token_11 ?_
  refine j_aload_n h 1 rfl rfl dX7_token_12 ?_
  refine j_iload_n h 2 rfl rfl dX7_token_13 ?_
  refine j_iconst h (v := 2) (by decide) dX7_token_14 ?_
  obtain ⟨r_3, hr_3, hF⟩ := bind_row hF
  refine j_callVi h (st := [.int x_2]) (S' := S) (c_X7_of X.l X.D X.cI X.cZ X.cV hM S p1 (2 : Int32) hr_3) rfl rfl q4_101 cw_X7_of hM.2.1.o rfl rfl rfl ⟨rfl, rfl, Nat.le_of_ble_eq_true rfl, Nat.le_of_ble_eq_true rfl⟩ _ rfl (Nat.le_of_ble_eq_true rfl) dX7_token_15 ?_
  refine j_icmp_ge h 25 (by decide) dX7_token_18 hF (fun hF => ?_) (fun hF => ?_)
  · refine j_aload_n h 1 rfl rfl dX7_token_25 ?_
    refine j_iload_n h 2 rfl rfl dX7_token_26 ?_
    refine j_iconst h (v := 2) (by decide) dX7_token_27 ?_
    obtain ⟨r_4, hr_4, hF⟩ := bind_row hF
    refine j_callVi h (st := []) (S' := S) (c_X7_of X.l X.D X.cI X.cZ X.cV hM S p1 (2 : Int32) hr_4) rfl rfl q4_101 cw_X7_of hM.2.1.o rfl rfl rfl ⟨rfl, rfl, Nat.le_of_ble_eq_true rfl, Nat.le_of_ble_eq_true rfl⟩ _ rfl (Nat.le_of_ble_eq_true rfl) dX7_token_28 ?_
    exact j_sub [1, 2, 3] rfl (k_X7_token_31 h hM hnL hE hF)
  · refine j_iload_n h 0 rfl rfl dX7_token_21 ?_
    refine j_goto h 31 (by decide) dX7_token_22 ?_
    exact j_sub [1, 2, 3] rfl (k_X7_token_31 h hM hnL hE hF)
theorem c_X7_token (l : Launch) (D : va_G) (cI cZ cV : ClassId) {B : RS → va_W} {ad : Nat → Nat} (hM : IsRef cI B ad) (S : RS) (p1 : Int32) (p2 : Int32) {r : RS} (hF : f_X7_token S p1 p2 = some r) : CTv l D (jtys cI cZ cV) yX7_token cX7_token 11 none rmX7_token B [.ref (ad 7), .int p1, .int p2] S r := by
  refine CTv.of [(0, .ref (ad 7)), (1, .int p1), (2, .int p2)] rfl (Nat.le_of_ble_eq_true rfl) (by decide) ⟨rfl, rfl⟩ (fun X e1 e2 e3 e4 e5 e6 e7 h hE => ?_)
  subst e1; subst e2; subst e3; subst e4; subst e5; subst e6
  exact k_X7_token h hM e7 hE hF
abbrev rmX7_buy : Room := { frames := 3, cells := 0, slots := 0, locals := 76 }
theorem cw_X7_buy : CWv RX7 yX7_buy cX7_buy 3 (some .int) 2 := ⟨q4_119, q4_120, q1_8, q4_121, ⟨rfl, by decide +kernel, by decide +kernel, by decide +kernel⟩⟩
set_option maxHeartbeats 4000000 in
set_option maxRecDepth 100000 in
theorem k_X7_buy {X : JX RS} {ad : Nat → Nat} (h : OK X RX7 cX7_buy rmX7_buy) (hM : IsRef X.cI X.B ad) (hnL : X.nL = 3) {res : Int32 × RS} {S : RS} {p1 : Int32} {p2 : Int32} (hE : EXi X cX7_buy res.1 res.2) (hF : f_X7_buy S p1 p2 = some res) : J X 0 [(0, .ref (ad 7)), (1, .int p1), (2, .int p2)] [] S := by
  rw [f_X7_buy] at hF
  refine j_aload_n h 0 rfl rfl dX7_buy_0 ?_
  refine j_iload_n h 1 rfl rfl dX7_buy_1 ?_
  obtain ⟨r_1, hr_1, hF⟩ := bind_row hF
  refine j_callVz h (st := []) (S' := S) (c_X7_isHouse X.l X.D X.cI X.cZ X.cV hM S p1 hr_1) rfl rfl q4_94 cw_X7_isHouse hM.2.1.o rfl rfl rfl ⟨rfl, rfl, Nat.le_of_ble_eq_true rfl, Nat.le_of_ble_eq_true rfl⟩ _ rfl (Nat.le_of_ble_eq_true rfl) dX7_buy_2 (fun hz_r_1 => ?_)
  refine j_if_eq h 19 (by decide) dX7_buy_5 hF (fun hF => ?_) (fun hF => ?_)
  · refine j_ldc h (v := -1000002) q4_80 dX7_buy_19 ?_
    cases hF
    exact hE _ _ dX7_buy_21
  · refine j_iload_n h 2 rfl rfl dX7_buy_8 ?_
    refine j_iconst h (v := 1) (by decide) dX7_buy_9 ?_
    refine j_sipush h (v := 500) (by decide) dX7_buy_10 ?_
    obtain ⟨r_2, hr_2, hF⟩ := bind_row hF
    refine j_callSz h (st := []) (S' := S) (c_X7_within X.l X.D X.cI X.cZ X.cV (B := X.B) S p2 (1 : Int32) (500 : Int32) hr_2) rfl rfl q4_77 cw_X7_within rfl ⟨rfl, rfl, Nat.le_of_ble_eq_true rfl, Nat.le_of_ble_eq_true rfl⟩ _ rfl (Nat.le_of_ble_eq_true rfl) dX7_buy_13 (fun hz_r_2 => ?_)
    refine j_if_ne h 22 (by decide) dX7_buy_16 hF (fun hF => ?_) (fun hF => ?_)
    · refine j_ldc h (v := -1000002) q4_80 dX7_buy_19 ?_
      cases hF
      exact hE _ _ dX7_buy_21
    · refine j_aload_n h 0 rfl rfl dX7_buy_22 ?_
      obtain ⟨r_3, hr_3, hF⟩ := bind_row hF
      refine j_callVv h (st := []) (S' := r_3) (c_X7_record X.l X.D X.cI X.cZ X.cV hM S hr_3) rfl rfl q4_82 cw_X7_record hM.2.1.o rfl rfl rfl ⟨rfl, rfl, Nat.le_of_ble_eq_true rfl, Nat.le_of_ble_eq_true rfl⟩ _ rfl (Nat.le_of_ble_eq_true rfl) dX7_buy_23 ?_
      refine j_aload_n h 0 rfl rfl dX7_buy_26 ?_
      refine j_iload_n h 1 rfl rfl dX7_buy_27 ?_
      refine j_iload_n h 2 rfl rfl dX7_buy_28 ?_
      obtain ⟨r_4, hr_4, hF⟩ := bind_row hF
      refine j_callVv h (st := []) (S' := r_4) (c_X7_token X.l X.D X.cI X.cZ X.cV hM r_3 p1 p2 hr_4) rfl rfl q4_122 cw_X7_token hM.2.1.o rfl rfl rfl ⟨rfl, rfl, Nat.le_of_ble_eq_true rfl, Nat.le_of_ble_eq_true rfl⟩ _ rfl (Nat.le_of_ble_eq_true rfl) dX7_buy_29 ?_
      refine j_aload_n h 0 rfl rfl dX7_buy_32 ?_
      refine j_iload_n h 1 rfl rfl dX7_buy_33 ?_
      refine j_iconst h (v := 4) (by decide) dX7_buy_34 ?_
      obtain ⟨r_5, hr_5, hF⟩ := bind_row hF
      refine j_callVi h (st := []) (S' := r_4) (c_X7_of X.l X.D X.cI X.cZ X.cV hM r_4 p1 (4 : Int32) hr_5) rfl rfl q4_101 cw_X7_of hM.2.1.o rfl rfl rfl ⟨rfl, rfl, Nat.le_of_ble_eq_true rfl, Nat.le_of_ble_eq_true rfl⟩ _ rfl (Nat.le_of_ble_eq_true rfl) dX7_buy_35 ?_
      cases hF
      exact hE _ _ dX7_buy_38
theorem c_X7_buy (l : Launch) (D : va_G) (cI cZ cV : ClassId) {B : RS → va_W} {ad : Nat → Nat} (hM : IsRef cI B ad) (S : RS) (p1 : Int32) (p2 : Int32) {r : Int32 × RS} (hF : f_X7_buy S p1 p2 = some r) : CTi l D (jtys cI cZ cV) yX7_buy cX7_buy 3 (some .int) rmX7_buy B [.ref (ad 7), .int p1, .int p2] S r.1 r.2 := by
  refine CTi.of [(0, .ref (ad 7)), (1, .int p1), (2, .int p2)] rfl (Nat.le_of_ble_eq_true rfl) (by decide) ⟨rfl, rfl⟩ (fun X e1 e2 e3 e4 e5 e6 e7 h hE => ?_)
  subst e1; subst e2; subst e3; subst e4; subst e5; subst e6
  exact k_X7_buy h hM e7 hE hF
abbrev rmX7_lend : Room := { frames := 2, cells := 0, slots := 0, locals := 46 }
theorem cw_X7_lend : CWv RX7 yX7_lend cX7_lend 5 (some .int) 3 := ⟨q4_139, q4_140, q1_8, q4_141, ⟨rfl, by decide +kernel, by decide +kernel, by decide +kernel⟩⟩
set_option maxHeartbeats 4000000 in
set_option maxRecDepth 100000 in
theorem k_X7_lend {X : JX RS} {ad : Nat → Nat} (h : OK X RX7 cX7_lend rmX7_lend) (hM : IsRef X.cI X.B ad) (hnL : X.nL = 5) {res : Int32 × RS} {S : RS} {p1 : Int32} {p2 : Int32} {p3 : Int32} (hE : EXi X cX7_lend res.1 res.2) (hF : f_X7_lend S p1 p2 p3 = some res) : J X 0 [(0, .ref (ad 7)), (1, .int p1), (2, .int p2), (3, .int p3)] [] S := by
  rw [f_X7_lend] at hF
  refine j_aload_n h 0 rfl rfl dX7_lend_0 ?_
  refine j_iload_n h 1 rfl rfl dX7_lend_1 ?_
  obtain ⟨r_1, hr_1, hF⟩ := bind_row hF
  refine j_callVz h (st := []) (S' := S) (c_X7_isHouse X.l X.D X.cI X.cZ X.cV hM S p1 hr_1) rfl rfl q4_94 cw_X7_isHouse hM.2.1.o rfl rfl rfl ⟨rfl, rfl, Nat.le_of_ble_eq_true rfl, Nat.le_of_ble_eq_true rfl⟩ _ rfl (Nat.le_of_ble_eq_true rfl) dX7_lend_2 (fun hz_r_1 => ?_)
  refine j_if_eq h 32 (by decide) dX7_lend_5 hF (fun hF => ?_) (fun hF => ?_)
  · refine j_ldc h (v := -1000002) q4_80 dX7_lend_32 ?_
    cases hF
    exact hE _ _ dX7_lend_34
  · refine j_aload_n h 0 rfl rfl dX7_lend_8 ?_
    refine j_iload_n h 2 rfl rfl dX7_lend_9 ?_
    obtain ⟨r_2, hr_2, hF⟩ := bind_row hF
    refine j_callVz h (st := []) (S' := S) (c_X7_isHouse X.l X.D X.cI X.cZ X.cV hM S p2 hr_2) rfl rfl q4_94 cw_X7_isHouse hM.2.1.o rfl rfl rfl ⟨rfl, rfl, Nat.le_of_ble_eq_true rfl, Nat.le_of_ble_eq_true rfl⟩ _ rfl (Nat.le_of_ble_eq_true rfl) dX7_lend_10 (fun hz_r_2 => ?_)
    refine j_if_eq h 32 (by decide) dX7_lend_13 hF (fun hF => ?_) (fun hF => ?_)
    · refine j_ldc h (v := -1000002) q4_80 dX7_lend_32 ?_
      cases hF
      exact hE _ _ dX7_lend_34
    · refine j_iload_n h 1 rfl rfl dX7_lend_16 ?_
      refine j_iload_n h 2 rfl rfl dX7_lend_17 ?_
      refine j_icmp_eq h 32 (by decide) dX7_lend_18 hF (fun hF => ?_) (fun hF => ?_)
      · refine j_ldc h (v := -1000002) q4_80 dX7_lend_32 ?_
        cases hF
        exact hE _ _ dX7_lend_34
      · refine j_iload_n h 3 rfl rfl dX7_lend_21 ?_
        refine j_iconst h (v := 1) (by decide) dX7_lend_22 ?_
        refine j_sipush h (v := 200) (by decide) dX7_lend_23 ?_
        obtain ⟨r_3, hr_3, hF⟩ := bind_row hF
        refine j_callSz h (st := []) (S' := S) (c_X7_within X.l X.D X.cI X.cZ X.cV (B := X.B) S p3 (1 : Int32) (200 : Int32) hr_3) rfl rfl q4_77 cw_X7_within rfl ⟨rfl, rfl, Nat.le_of_ble_eq_true rfl, Nat.le_of_ble_eq_true rfl⟩ _ rfl (Nat.le_of_ble_eq_true rfl) dX7_lend_26 (fun hz_r_3 => ?_)
        refine j_if_ne h 35 (by decide) dX7_lend_29 hF (fun hF => ?_) (fun hF => ?_)
        · refine j_ldc h (v := -1000002) q4_80 dX7_lend_32 ?_
          cases hF
          exact hE _ _ dX7_lend_34
        · refine j_aload_n h 0 rfl rfl dX7_lend_35 ?_
          refine j_iload_n h 1 rfl rfl dX7_lend_36 ?_
          refine j_iconst h (v := 4) (by decide) dX7_lend_37 ?_
          obtain ⟨r_4, hr_4, hF⟩ := bind_row hF
          refine j_callVi h (st := []) (S' := S) (c_X7_of X.l X.D X.cI X.cZ X.cV hM S p1 (4 : Int32) hr_4) rfl rfl q4_101 cw_X7_of hM.2.1.o rfl rfl rfl ⟨rfl, rfl, Nat.le_of_ble_eq_true rfl, Nat.le_of_ble_eq_true rfl⟩ _ rfl (Nat.le_of_ble_eq_true rfl) dX7_lend_38 ?_
          refine j_iload_n h 3 rfl rfl dX7_lend_41 ?_
          refine j_icmp_ge h 48 (by decide) dX7_lend_42 hF (fun hF => ?_) (fun hF => ?_)
          · refine j_aload_n h 0 rfl rfl dX7_lend_48 ?_
            refine j_get h hM.2.1.o inX7 rfl 0 (by decide) rfl q4_24 rfl dX7_lend_49 ?_
            refine j_sipush h (v := 173) (by decide) dX7_lend_52 ?_
            obtain ⟨hb_5, hF⟩ := bnd_row hF
            refine ja_iald h (get := fun S => S.1) (put := setR) (hM.1 0 (by decide)) hb_5 dX7_lend_55 ?_
            refine j_bipush h (v := 12) (by decide) dX7_lend_56 ?_
            refine j_icmp_ne h 64 (by decide) dX7_lend_58 hF (fun hF => ?_) (fun hF => ?_)
            · refine j_ldc h (v := -1000004) q4_81 dX7_lend_61 ?_
              cases hF
              exact hE _ _ dX7_lend_63
            · refine j_aload_n h 0 rfl rfl dX7_lend_64 ?_
              obtain ⟨r_6, hr_6, hF⟩ := bind_row hF
              refine j_callVv h (st := []) (S' := r_6) (c_X7_record X.l X.D X.cI X.cZ X.cV hM S hr_6) rfl rfl q4_82 cw_X7_record hM.2.1.o rfl rfl rfl ⟨rfl, rfl, Nat.le_of_ble_eq_true rfl, Nat.le_of_ble_eq_true rfl⟩ _ rfl (Nat.le_of_ble_eq_true rfl) dX7_lend_65 ?_
              refine j_aload_n h 0 rfl rfl dX7_lend_68 ?_
              refine j_iload_n h 1 rfl rfl dX7_lend_69 ?_
              refine j_iconst h (v := 4) (by decide) dX7_lend_70 ?_
              refine j_iload_n h 3 rfl rfl dX7_lend_71 ?_
              refine j_ineg h dX7_lend_72 ?_
              obtain ⟨r_7, hr_7, hF⟩ := bind_row hF
              refine j_callVv h (st := []) (S' := r_7) (c_X7_add X.l X.D X.cI X.cZ X.cV hM r_6 p1 (4 : Int32) (-p3) hr_7) rfl rfl q4_130 cw_X7_add hM.2.1.o rfl rfl rfl ⟨rfl, rfl, Nat.le_of_ble_eq_true rfl, Nat.le_of_ble_eq_true rfl⟩ _ rfl (Nat.le_of_ble_eq_true rfl) dX7_lend_73 ?_
              refine j_aload_n h 0 rfl rfl dX7_lend_76 ?_
              refine j_iload_n h 2 rfl rfl dX7_lend_77 ?_
              refine j_iconst h (v := 4) (by decide) dX7_lend_78 ?_
              refine j_iload_n h 3 rfl rfl dX7_lend_79 ?_
              obtain ⟨r_8, hr_8, hF⟩ := bind_row hF
              refine j_callVv h (st := []) (S' := r_8) (c_X7_add X.l X.D X.cI X.cZ X.cV hM r_7 p2 (4 : Int32) p3 hr_8) rfl rfl q4_130 cw_X7_add hM.2.1.o rfl rfl rfl ⟨rfl, rfl, Nat.le_of_ble_eq_true rfl, Nat.le_of_ble_eq_true rfl⟩ _ rfl (Nat.le_of_ble_eq_true rfl) dX7_lend_80 ?_
              refine j_bipush h (v := 80) (by decide) dX7_lend_83 ?_
              refine j_iconst h (v := 3) (by decide) dX7_lend_85 ?_
              refine j_aload_n h 0 rfl rfl dX7_lend_86 ?_
              refine j_get h hM.2.1.o inX7 rfl 0 (by decide) rfl q4_24 rfl dX7_lend_87 ?_
              refine j_sipush h (v := 173) (by decide) dX7_lend_90 ?_
              obtain ⟨hb_9, hF⟩ := bnd_row hF
              refine ja_iald h (get := fun S => S.1) (put := setR) (hM.1 0 (by decide)) hb_9 dX7_lend_93 ?_
              refine j_imul h dX7_lend_94 ?_
              refine j_iadd h dX7_lend_95 ?_
              refine j_let hF (fun x_10 hF => ?_)
              refine j_istore h hnL [(4, .int x_10), (0, .ref (ad 7)), (1, .int p1), (2, .int p2), (3, .int p3)] (by decide) rfl dX7_lend_96 ?_
              refine j_aload_n h 1 rfl rfl dX7_lend_98 ?_
              refine j_get h hM.2.1.o inX7 rfl 0 (by decide) rfl q4_24 rfl dX7_lend_99 ?_
              refine j_iload h 0 rfl dX7_lend_102 ?_
              refine j_iload_n h 2 rfl rfl dX7_lend_104 ?_
              obtain ⟨hb_11, hF⟩ := bnd_row hF
              refine ja_iast h (get := fun S => S.1) (put := setR) (hM.1 0 (by decide)) hb_11 dX7_lend_105 ?_
              refine j_letS hF (fun S_12 hF => ?_)
              refine j_aload_n h 1 rfl rfl dX7_lend_106 ?_
              refine j_get h hM.2.1.o inX7 rfl 0 (by decide) rfl q4_24 rfl dX7_lend_107 ?_
              refine j_iload h 0 rfl dX7_lend_110 ?_
              refine j_iconst h (v := 1) (by decide) dX7_lend_112 ?_
              refine j_iadd h dX7_lend_113 ?_
              refine j_iload_n h 3 rfl rfl dX7_lend_114 ?_
              obtain ⟨hb_13, hF⟩ := bnd_row hF
              refine ja_iast h (get := fun S => S.1) (put := setR) (hM.1 0 (by decide)) hb_13 dX7_lend_115 ?_
              refine j_letS hF (fun S_14 hF => ?_)
              refine j_aload_n h 1 rfl rfl dX7_lend_116 ?_
              refine j_get h hM.2.1.o inX7 rfl 0 (by decide) rfl q4_24 rfl dX7_lend_117 ?_
              refine j_iload h 0 rfl dX7_lend_120 ?_
              refine j_iconst h (v := 2) (by decide) dX7_lend_122 ?_
              refine j_iadd h dX7_lend_123 ?_
              refine j_iload_n h 4 rfl rfl dX7_lend_124 ?_
              obtain ⟨hb_15, hF⟩ := bnd_row hF
              refine ja_iast h (get := fun S => S.1) (put := setR) (hM.1 0 (by decide)) hb_15 dX7_lend_125 ?_
              refine j_letS hF (fun S_16 hF => ?_)
              refine j_aload_n h 1 rfl rfl dX7_lend_126 ?_
              refine j_get h hM.2.1.o inX7 rfl 0 (by decide) rfl q4_24 rfl dX7_lend_127 ?_
              refine j_sipush h (v := 173) (by decide) dX7_lend_130 ?_
              refine j_dup2 h rfl rfl dX7_lend_133 ?_
              obtain ⟨hb_17, hF⟩ := bnd_row hF
              refine ja_iald h (get := fun S => S.1) (put := setR) (hM.1 0 (by decide)) hb_17 dX7_lend_134 ?_
              refine j_iconst h (v := 1) (by decide) dX7_lend_135 ?_
              refine j_iadd h dX7_lend_136 ?_
              obtain ⟨hb_18, hF⟩ := bnd_row hF
              refine ja_iast h (get := fun S => S.1) (put := setR) (hM.1 0 (by decide)) hb_18 dX7_lend_137 ?_
              refine j_letS hF (fun S_19 hF => ?_)
              refine j_aload_n h 1 rfl rfl dX7_lend_138 ?_
              refine j_get h hM.2.1.o inX7 rfl 0 (by decide) rfl q4_24 rfl dX7_lend_139 ?_
              refine j_sipush h (v := 173) (by decide) dX7_lend_142 ?_
              obtain ⟨hb_20, hF⟩ := bnd_row hF
              refine ja_iald h (get := fun S => S.1) (put := setR) (hM.1 0 (by decide)) hb_20 dX7_lend_145 ?_
              cases hF
              exact hE _ _ dX7_lend_146
          · refine j_ldc h (v := -1000003) q4_117 dX7_lend_45 ?_
            cases hF
            exact hE _ _ dX7_lend_47
theorem c_X7_lend (l : Launch) (D : va_G) (cI cZ cV : ClassId) {B : RS → va_W} {ad : Nat → Nat} (hM : IsRef cI B ad) (S : RS) (p1 : Int32) (p2 : Int32) (p3 : Int32) {r : Int32 × RS} (hF : f_X7_lend S p1 p2 p3 = some r) : CTi l D (jtys cI cZ cV) yX7_lend cX7_lend 5 (some .int) rmX7_lend B [.ref (ad 7), .int p1, .int p2, .int p3] S r.1 r.2 := by
  refine CTi.of [(0, .ref (ad 7)), (1, .int p1), (2, .int p2), (3, .int p3)] rfl (Nat.le_of_ble_eq_true rfl) (by decide) ⟨rfl, rfl⟩ (fun X e1 e2 e3 e4 e5 e6 e7 h hE => ?_)
  subst e1; subst e2; subst e3; subst e4; subst e5; subst e6
  exact k_X7_lend h hM e7 hE hF
abbrev rmX7_isLoan : Room := { frames := 1, cells := 0, slots := 0, locals := 22 }
theorem cw_X7_isLoan : CWv RX7 yX7_isLoan cX7_isLoan 2 (some .boolean) 1 := ⟨q4_148, qs38, q1_8, q4_149, ⟨rfl, by decide +kernel, by decide +kernel, by decide +kernel⟩⟩
set_option maxHeartbeats 4000000 in
set_option maxRecDepth 100000 in
theorem k_X7_isLoan {X : JX RS} {ad : Nat → Nat} (h : OK X RX7 cX7_isLoan rmX7_isLoan) (hM : IsRef X.cI X.B ad) (hnL : X.nL = 2) {res : Int32} {S : RS} {p1 : Int32} (hE : EXz X cX7_isLoan res S) (hF : f_X7_isLoan S p1 = some res) : J X 0 [(0, .ref (ad 7)), (1, .int p1)] [] S := by
  rw [f_X7_isLoan] at hF
  refine j_iload_n h 1 rfl rfl dX7_isLoan_0 ?_
  refine j_iconst h (v := 0) (by decide) dX7_isLoan_1 ?_
  refine j_aload_n h 0 rfl rfl dX7_isLoan_2 ?_
  refine j_get h hM.2.1.o inX7 rfl 0 (by decide) rfl q4_24 rfl dX7_isLoan_3 ?_
  refine j_sipush h (v := 173) (by decide) dX7_isLoan_6 ?_
  obtain ⟨hb_1, hF⟩ := bnd_row hF
  refine ja_iald h (get := fun S => S.1) (put := setR) (hM.1 0 (by decide)) hb_1 dX7_isLoan_9 ?_
  refine j_iconst h (v := 1) (by decide) dX7_isLoan_10 ?_
  refine j_isub h dX7_isLoan_11 ?_
  obtain ⟨r_2, hr_2, hF⟩ := bind_row hF
  refine j_callSz h (st := []) (S' := S) (c_X7_within X.l X.D X.cI X.cZ X.cV (B := X.B) S p1 (0 : Int32) ((rd S.1 0 (173 : Int32)) - (1 : Int32)) hr_2) rfl rfl q4_77 cw_X7_within rfl ⟨rfl, rfl, Nat.le_of_ble_eq_true rfl, Nat.le_of_ble_eq_true rfl⟩ _ rfl (Nat.le_of_ble_eq_true rfl) dX7_isLoan_12 (fun hz_r_2 => ?_)
  cases hF
  exact hE _ _ dX7_isLoan_15 (by assumption)
theorem c_X7_isLoan (l : Launch) (D : va_G) (cI cZ cV : ClassId) {B : RS → va_W} {ad : Nat → Nat} (hM : IsRef cI B ad) (S : RS) (p1 : Int32) {r : Int32} (hF : f_X7_isLoan S p1 = some r) : CTz l D (jtys cI cZ cV) yX7_isLoan cX7_isLoan 2 (some .boolean) rmX7_isLoan B [.ref (ad 7), .int p1] S r S := by
  refine CTz.of [(0, .ref (ad 7)), (1, .int p1)] rfl (Nat.le_of_ble_eq_true rfl) (by decide) ⟨rfl, rfl⟩ (fun X e1 e2 e3 e4 e5 e6 e7 h hE => ?_)
  subst e1; subst e2; subst e3; subst e4; subst e5; subst e6
  exact k_X7_isLoan h hM e7 hE hF
abbrev rmX7_remit : Room := { frames := 2, cells := 0, slots := 0, locals := 46 }
theorem cw_X7_remit : CWv RX7 yX7_remit cX7_remit 3 (some .int) 1 := ⟨q4_143, q4_144, q1_8, q4_145, ⟨rfl, by decide +kernel, by decide +kernel, by decide +kernel⟩⟩
set_option maxHeartbeats 4000000 in
set_option maxRecDepth 100000 in
theorem k_X7_remit {X : JX RS} {ad : Nat → Nat} (h : OK X RX7 cX7_remit rmX7_remit) (hM : IsRef X.cI X.B ad) (hnL : X.nL = 3) {res : Int32 × RS} {S : RS} {p1 : Int32} (hE : EXi X cX7_remit res.1 res.2) (hF : f_X7_remit S p1 = some res) : J X 0 [(0, .ref (ad 7)), (1, .int p1)] [] S := by
  rw [f_X7_remit] at hF
  refine j_aload_n h 0 rfl rfl dX7_remit_0 ?_
  refine j_iload_n h 1 rfl rfl dX7_remit_1 ?_
  obtain ⟨r_1, hr_1, hF⟩ := bind_row hF
  refine j_callVz h (st := []) (S' := S) (c_X7_isLoan X.l X.D X.cI X.cZ X.cV hM S p1 hr_1) rfl rfl q4_146 cw_X7_isLoan hM.2.1.o rfl rfl rfl ⟨rfl, rfl, Nat.le_of_ble_eq_true rfl, Nat.le_of_ble_eq_true rfl⟩ _ rfl (Nat.le_of_ble_eq_true rfl) dX7_remit_2 (fun hz_r_1 => ?_)
  refine j_if_ne h 11 (by decide) dX7_remit_5 hF (fun hF => ?_) (fun hF => ?_)
  · refine j_ldc h (v := -1000002) q4_80 dX7_remit_8 ?_
    cases hF
    exact hE _ _ dX7_remit_10
  · refine j_aload_n h 0 rfl rfl dX7_remit_11 ?_
    obtain ⟨r_2, hr_2, hF⟩ := bind_row hF
    refine j_callVv h (st := []) (S' := r_2) (c_X7_record X.l X.D X.cI X.cZ X.cV hM S hr_2) rfl rfl q4_82 cw_X7_record hM.2.1.o rfl rfl rfl ⟨rfl, rfl, Nat.le_of_ble_eq_true rfl, Nat.le_of_ble_eq_true rfl⟩ _ rfl (Nat.le_of_ble_eq_true rfl) dX7_remit_12 ?_
    refine j_aload_n h 0 rfl rfl dX7_remit_15 ?_
    refine j_iload_n h 1 rfl rfl dX7_remit_16 ?_
    refine j_iconst h (v := 2) (by decide) dX7_remit_17 ?_
    obtain ⟨r_3, hr_3, hF⟩ := bind_row hF
    refine j_callVi h (st := []) (S' := r_2) (c_X7_loanOf X.l X.D X.cI X.cZ X.cV hM r_2 p1 (2 : Int32) hr_3) rfl rfl q4_113 cw_X7_loanOf hM.2.1.o rfl rfl rfl ⟨rfl, rfl, Nat.le_of_ble_eq_true rfl, Nat.le_of_ble_eq_true rfl⟩ _ rfl (Nat.le_of_ble_eq_true rfl) dX7_remit_18 ?_
    refine j_istore_n h hnL [(2, .int r_3), (0, .ref (ad 7)), (1, .int p1)] rfl (by decide) rfl dX7_remit_21 ?_
    refine j_aload_n h 1 rfl rfl dX7_remit_22 ?_
    refine j_get h hM.2.1.o inX7 rfl 0 (by decide) rfl q4_24 rfl dX7_remit_23 ?_
    refine j_bipush h (v := 80) (by decide) dX7_remit_26 ?_
    refine j_iconst h (v := 3) (by decide) dX7_remit_28 ?_
    refine j_iload_n h 2 rfl rfl dX7_remit_29 ?_
    refine j_imul h dX7_remit_30 ?_
    refine j_iadd h dX7_remit_31 ?_
    refine j_iconst h (v := 2) (by decide) dX7_remit_32 ?_
    refine j_iadd h dX7_remit_33 ?_
    refine j_iconst h (v := 0) (by decide) dX7_remit_34 ?_
    obtain ⟨hb_4, hF⟩ := bnd_row hF
    refine ja_iast h (get := fun S => S.1) (put := setR) (hM.1 0 (by decide)) hb_4 dX7_remit_35 ?_
    refine j_letS hF (fun S_5 hF => ?_)
    refine j_aload_n h 1 rfl rfl dX7_remit_36 ?_
    obtain ⟨r_6, hr_6, hF⟩ := bind_row hF
    refine j_callVv h (st := []) (S' := r_6) (c_X7_dropPaid X.l X.D X.cI X.cZ X.cV hM S_5 hr_6) rfl rfl q4_134 cw_X7_dropPaid hM.2.1.o rfl rfl rfl ⟨rfl, rfl, Nat.le_of_ble_eq_true rfl, Nat.le_of_ble_eq_true rfl⟩ _ rfl (Nat.le_of_ble_eq_true rfl) dX7_remit_37 ?_
    refine j_iload_n h 0 rfl rfl dX7_remit_40 ?_
    cases hF
    exact hE _ _ dX7_remit_41
theorem c_X7_remit (l : Launch) (D : va_G) (cI cZ cV : ClassId) {B : RS → va_W} {ad : Nat → Nat} (hM : IsRef cI B ad) (S : RS) (p1 : Int32) {r : Int32 × RS} (hF : f_X7_remit S p1 = some r) : CTi l D (jtys cI cZ cV) yX7_remit cX7_remit 3 (some .int) rmX7_remit B [.ref (ad 7), .int p1] S r.1 r.2 := by
  refine CTi.of [(0, .ref (ad 7)), (1, .int p1)] rfl (Nat.le_of_ble_eq_true rfl) (by decide) ⟨rfl, rfl⟩ (fun X e1 e2 e3 e4 e5 e6 e7 h hE => ?_)
  subst e1; subst e2; subst e3; subst e4; subst e5; subst e6
  exact k_X7_remit h hM e7 hE hF
abbrev rmX7_against : Room := { frames := 1, cells := 0, slots := 0, locals := 22 }
theorem cw_X7_against : CWv RX7 yX7_against cX7_against 3 (some .int) 1 := ⟨q4_160, qs40, q1_8, q4_161, ⟨rfl, by decide +kernel, by decide +kernel, by decide +kernel⟩⟩
set_option maxHeartbeats 4000000 in
set_option maxRecDepth 100000 in
theorem k_X7_against_48 {X : JX RS} {ad : Nat → Nat} (h : OK X RX7 cX7_against rmX7_against) (hM : IsRef X.cI X.B ad) (hnL : X.nL = 3) {res : Int32} {S : RS} {x1 : Int32} {x2 : Int32} {K4 : Int32 → Option (Int32)} (hK4 : ∀ (x2 : Int32), K4 x2 = some res → J X 4 [(0, .ref (ad 7)), (1, .int x1), (2, .int x2)] [] S) (hE : EXi X cX7_against res S) (hF : f_X7_against_48 K4 S x1 x2 = some res) : J X 48 [(0, .ref (ad 7)), (1, .int x1), (2, .int x2)] [] S := by
  rw [f_X7_against_48] at hF
  refine j_iincL hF (fun x_7 ex_7 hF => ?_)
  refine j_iinc h hnL 2 [(2, .int x_7), (0, .ref (ad 7)), (1, .int x1)] rfl ex_7 (by decide) (by decide) rfl dX7_against_48 ?_
  refine j_goto h 4 (by decide) dX7_against_51 ?_
  exact j_sub [1, 2, 0] rfl (hK4 _ hF)
set_option maxHeartbeats 4000000 in
set_option maxRecDepth 100000 in
theorem k_X7_against_4 {X : JX RS} {ad : Nat → Nat} (h : OK X RX7 cX7_against rmX7_against) (hM : IsRef X.cI X.B ad) (hnL : X.nL = 3) {res : Int32} {S : RS} {x1 : Int32} (hE : EXi X cX7_against res S) : ∀ (n : Nat) (x2 : Int32), f_X7_against_4 S x1 n x2 = some res → J X 4 [(0, .ref (ad 7)), (1, .int x1), (2, .int x2)] [] S := by
  intro n
  induction n with
  | zero =>
    intro x2 hF
    rw [f_X7_against_4] at hF
    cases hF
  | succ n ih =>
    intro x2 hF
    rw [f_X7_against_4] at hF
    refine j_iload_n h 2 rfl rfl dX7_against_4 ?_
    refine j_aload_n h 0 rfl rfl dX7_against_5 ?_
    refine j_get h hM.2.1.o inX7 rfl 0 (by decide) rfl q4_24 rfl dX7_against_6 ?_
    refine j_sipush h (v := 173) (by decide) dX7_against_9 ?_
    obtain ⟨hb_2, hF⟩ := bnd_row hF
    refine ja_iald h (get := fun S => S.1) (put := setR) (hM.1 0 (by decide)) hb_2 dX7_against_12 ?_
    refine j_icmp_ge h 54 (by decide) dX7_against_13 hF (fun hF => ?_) (fun hF => ?_)
    · refine j_ldc h (v := -1000001) q4_162 dX7_against_54 ?_
      cases hF
      exact hE _ _ dX7_against_56
    · refine j_aload_n h 0 rfl rfl dX7_against_16 ?_
      refine j_iload_n h 2 rfl rfl dX7_against_17 ?_
      refine j_iconst h (v := 0) (by decide) dX7_against_18 ?_
      obtain ⟨r_3, hr_3, hF⟩ := bind_row hF
      refine j_callVi h (st := []) (S' := S) (c_X7_loanOf X.l X.D X.cI X.cZ X.cV hM S x2 (0 : Int32) hr_3) rfl rfl q4_113 cw_X7_loanOf hM.2.1.o rfl rfl rfl ⟨rfl, rfl, Nat.le_of_ble_eq_true rfl, Nat.le_of_ble_eq_true rfl⟩ _ rfl (Nat.le_of_ble_eq_true rfl) dX7_against_19 ?_
      refine j_aload_n h 0 rfl rfl dX7_against_22 ?_
      refine j_iload_n h 1 rfl rfl dX7_against_23 ?_
      refine j_iconst h (v := 1) (by decide) dX7_against_24 ?_
      obtain ⟨r_4, hr_4, hF⟩ := bind_row hF
      refine j_callVi h (st := [.int r_3]) (S' := S) (c_X7_loanOf X.l X.D X.cI X.cZ X.cV hM S x1 (1 : Int32) hr_4) rfl rfl q4_113 cw_X7_loanOf hM.2.1.o rfl rfl rfl ⟨rfl, rfl, Nat.le_of_ble_eq_true rfl, Nat.le_of_ble_eq_true rfl⟩ _ rfl (Nat.le_of_ble_eq_true rfl) dX7_against_25 ?_
      refine j_icmp_ne h 48 (by decide) dX7_against_28 hF (fun hF => ?_) (fun hF => ?_)
      · refine j_aload_n h 0 rfl rfl dX7_against_31 ?_
        refine j_iload_n h 2 rfl rfl dX7_against_32 ?_
        refine j_iconst h (v := 1) (by decide) dX7_against_33 ?_
        obtain ⟨r_5, hr_5, hF⟩ := bind_row hF
        refine j_callVi h (st := []) (S' := S) (c_X7_loanOf X.l X.D X.cI X.cZ X.cV hM S x2 (1 : Int32) hr_5) rfl rfl q4_113 cw_X7_loanOf hM.2.1.o rfl rfl rfl ⟨rfl, rfl, Nat.le_of_ble_eq_true rfl, Nat.le_of_ble_eq_true rfl⟩ _ rfl (Nat.le_of_ble_eq_true rfl) dX7_against_34 ?_
        refine j_aload_n h 0 rfl rfl dX7_against_37 ?_
        refine j_iload_n h 1 rfl rfl dX7_against_38 ?_
        refine j_iconst h (v := 0) (by decide) dX7_against_39 ?_
        obtain ⟨r_6, hr_6, hF⟩ := bind_row hF
        refine j_callVi h (st := [.int r_5]) (S' := S) (c_X7_loanOf X.l X.D X.cI X.cZ X.cV hM S x1 (0 : Int32) hr_6) rfl rfl q4_113 cw_X7_loanOf hM.2.1.o rfl rfl rfl ⟨rfl, rfl, Nat.le_of_ble_eq_true rfl, Nat.le_of_ble_eq_true rfl⟩ _ rfl (Nat.le_of_ble_eq_true rfl) dX7_against_40 ?_
        refine j_icmp_ne h 48 (by decide) dX7_against_43 hF (fun hF => ?_) (fun hF => ?_)
        · refine j_iload_n h 2 rfl rfl dX7_against_46 ?_
          cases hF
          exact hE _ _ dX7_against_47
        · exact j_sub [0, 1, 2] rfl (k_X7_against_48 h hM hnL ih hE hF)
      · exact j_sub [0, 1, 2] rfl (k_X7_against_48 h hM hnL ih hE hF)
set_option maxHeartbeats 4000000 in
set_option maxRecDepth 100000 in
theorem k_X7_against {X : JX RS} {ad : Nat → Nat} (h : OK X RX7 cX7_against rmX7_against) (hM : IsRef X.cI X.B ad) (hnL : X.nL = 3) {res : Int32} {S : RS} {p1 : Int32} (hE : EXi X cX7_against res S) (hF : f_X7_against S p1 = some res) : J X 0 [(0, .ref (ad 7)), (1, .int p1)] [] S := by
  rw [f_X7_against] at hF
  refine j_iload_n h 1 rfl rfl dX7_against_0 ?_
  refine j_iconst h (v := 1) (by decide) dX7_against_1 ?_
  refine j_iadd h dX7_against_2 ?_
  refine j_let hF (fun x_1 hF => ?_)
  refine j_istore_n h hnL [(2, .int x_1), (0, .ref (ad 7)), (1, .int p1)] rfl (by decide) rfl dX7_against_3 ?_
  exact j_sub [1, 2, 0] rfl (k_X7_against_4 h hM hnL hE fuel _ hF)
theorem c_X7_against (l : Launch) (D : va_G) (cI cZ cV : ClassId) {B : RS → va_W} {ad : Nat → Nat} (hM : IsRef cI B ad) (S : RS) (p1 : Int32) {r : Int32} (hF : f_X7_against S p1 = some r) : CTi l D (jtys cI cZ cV) yX7_against cX7_against 3 (some .int) rmX7_against B [.ref (ad 7), .int p1] S r S := by
  refine CTi.of [(0, .ref (ad 7)), (1, .int p1)] rfl (Nat.le_of_ble_eq_true rfl) (by decide) ⟨rfl, rfl⟩ (fun X e1 e2 e3 e4 e5 e6 e7 h hE => ?_)
  subst e1; subst e2; subst e3; subst e4; subst e5; subst e6
  exact k_X7_against h hM e7 hE hF
abbrev rmX7_netOnce : Room := { frames := 2, cells := 0, slots := 0, locals := 45 }
theorem cw_X7_netOnce : CWv RX7 yX7_netOnce cX7_netOnce 4 (some .int) 0 := ⟨q4_156, qs39, q1_8, q4_157, ⟨rfl, by decide +kernel, by decide +kernel, by decide +kernel⟩⟩
set_option maxHeartbeats 4000000 in
set_option maxRecDepth 100000 in
theorem k_X7_netOnce_56 {X : JX RS} {ad : Nat → Nat} (h : OK X RX7 cX7_netOnce rmX7_netOnce) (hM : IsRef X.cI X.B ad) (hnL : X.nL = 4) {res : Int32 × RS} {S : RS} {x1 : Int32} {x2 : Int32} {s0 : Int32} (hE : EXi X cX7_netOnce res.1 res.2) (hF : f_X7_netOnce_56 S x1 x2 s0 = some res) : J X 56 [(0, .ref (ad 7)), (1, .int x1), (2, .int x2)] [.int s0] S := by
  rw [f_X7_netOnce_56] at hF
  refine j_istore_n h hnL [(3, .int s0), (0, .ref (ad 7)), (1, .int x1), (2, .int x2)] rfl (by decide) rfl dX7_netOnce_56 ?_
  refine j_aload_n h 1 rfl rfl dX7_netOnce_57 ?_
  refine j_get h hM.2.1.o inX7 rfl 0 (by decide) rfl q4_24 rfl dX7_netOnce_58 ?_
  refine j_bipush h (v := 80) (by decide) dX7_netOnce_61 ?_
  refine j_iconst h (v := 3) (by decide) dX7_netOnce_63 ?_
  refine j_iload_n h 2 rfl rfl dX7_netOnce_64 ?_
  refine j_imul h dX7_netOnce_65 ?_
  refine j_iadd h dX7_netOnce_66 ?_
  refine j_iconst h (v := 2) (by decide) dX7_netOnce_67 ?_
  refine j_iadd h dX7_netOnce_68 ?_
  refine j_dup2 h rfl rfl dX7_netOnce_69 ?_
  obtain ⟨hb_7, hF⟩ := bnd_row hF
  refine ja_iald h (get := fun S => S.1) (put := setR) (hM.1 0 (by decide)) hb_7 dX7_netOnce_70 ?_
  refine j_iload_n h 0 rfl rfl dX7_netOnce_71 ?_
  refine j_isub h dX7_netOnce_72 ?_
  obtain ⟨hb_8, hF⟩ := bnd_row hF
  refine ja_iast h (get := fun S => S.1) (put := setR) (hM.1 0 (by decide)) hb_8 dX7_netOnce_73 ?_
  refine j_letS hF (fun S_9 hF => ?_)
  refine j_aload_n h 1 rfl rfl dX7_netOnce_74 ?_
  refine j_get h hM.2.1.o inX7 rfl 0 (by decide) rfl q4_24 rfl dX7_netOnce_75 ?_
  refine j_bipush h (v := 80) (by decide) dX7_netOnce_78 ?_
  refine j_iconst h (v := 3) (by decide) dX7_netOnce_80 ?_
  refine j_iload_n h 3 rfl rfl dX7_netOnce_81 ?_
  refine j_imul h dX7_netOnce_82 ?_
  refine j_iadd h dX7_netOnce_83 ?_
  refine j_iconst h (v := 2) (by decide) dX7_netOnce_84 ?_
  refine j_iadd h dX7_netOnce_85 ?_
  refine j_dup2 h rfl rfl dX7_netOnce_86 ?_
  obtain ⟨hb_10, hF⟩ := bnd_row hF
  refine ja_iald h (get := fun S => S.1) (put := setR) (hM.1 0 (by decide)) hb_10 dX7_netOnce_87 ?_
  refine j_iload_n h 0 rfl rfl dX7_netOnce_88 ?_
  refine j_isub h dX7_netOnce_89 ?_
  obtain ⟨hb_11, hF⟩ := bnd_row hF
  refine ja_iast h (get := fun S => S.1) (put := setR) (hM.1 0 (by decide)) hb_11 dX7_netOnce_90 ?_
  refine j_letS hF (fun S_12 hF => ?_)
  refine j_aload_n h 1 rfl rfl dX7_netOnce_91 ?_
  obtain ⟨r_13, hr_13, hF⟩ := bind_row hF
  refine j_callVv h (st := []) (S' := r_13) (c_X7_dropPaid X.l X.D X.cI X.cZ X.cV hM S_12 hr_13) rfl rfl q4_134 cw_X7_dropPaid hM.2.1.o rfl rfl rfl ⟨rfl, rfl, Nat.le_of_ble_eq_true rfl, Nat.le_of_ble_eq_true rfl⟩ _ rfl (Nat.le_of_ble_eq_true rfl) dX7_netOnce_92 ?_
  refine j_iload_n h 0 rfl rfl dX7_netOnce_95 ?_
  cases hF
  exact hE _ _ dX7_netOnce_96
set_option maxHeartbeats 4000000 in
set_option maxRecDepth 100000 in
theorem k_X7_netOnce_2 {X : JX RS} {ad : Nat → Nat} (h : OK X RX7 cX7_netOnce rmX7_netOnce) (hM : IsRef X.cI X.B ad) (hnL : X.nL = 4) {res : Int32 × RS} {S : RS} (hE : EXi X cX7_netOnce res.1 res.2) : ∀ (n : Nat) (x1 : Int32), f_X7_netOnce_2 S n x1 = some res → J X 2 [(0, .ref (ad 7)), (1, .int x1)] [] S := by
  intro n
  induction n with
  | zero =>
    intro x1 hF
    rw [f_X7_netOnce_2] at hF
    cases hF
  | succ n ih =>
    intro x1 hF
    rw [f_X7_netOnce_2] at hF
    refine j_iload_n h 1 rfl rfl dX7_netOnce_2 ?_
    refine j_aload_n h 0 rfl rfl dX7_netOnce_3 ?_
    refine j_get h hM.2.1.o inX7 rfl 0 (by decide) rfl q4_24 rfl dX7_netOnce_4 ?_
    refine j_sipush h (v := 173) (by decide) dX7_netOnce_7 ?_
    obtain ⟨hb_1, hF⟩ := bnd_row hF
    refine ja_iald h (get := fun S => S.1) (put := setR) (hM.1 0 (by decide)) hb_1 dX7_netOnce_10 ?_
    refine j_icmp_ge h 103 (by decide) dX7_netOnce_11 hF (fun hF => ?_) (fun hF => ?_)
    · refine j_iconst h (v := 0) (by decide) dX7_netOnce_103 ?_
      cases hF
      exact hE _ _ dX7_netOnce_104
    · refine j_aload_n h 0 rfl rfl dX7_netOnce_14 ?_
      refine j_iload_n h 1 rfl rfl dX7_netOnce_15 ?_
      obtain ⟨r_2, hr_2, hF⟩ := bind_row hF
      refine j_callVi h (st := []) (S' := S) (c_X7_against X.l X.D X.cI X.cZ X.cV hM S x1 hr_2) rfl rfl q4_158 cw_X7_against hM.2.1.o rfl rfl rfl ⟨rfl, rfl, Nat.le_of_ble_eq_true rfl, Nat.le_of_ble_eq_true rfl⟩ _ rfl (Nat.le_of_ble_eq_true rfl) dX7_netOnce_16 ?_
      refine j_istore_n h hnL [(2, .int r_2), (0, .ref (ad 7)), (1, .int x1)] rfl (by decide) rfl dX7_netOnce_19 ?_
      refine j_iload_n h 0 rfl rfl dX7_netOnce_20 ?_
      refine j_ldc h (v := -1000001) q4_162 dX7_netOnce_21 ?_
      refine j_icmp_eq h 97 (by decide) dX7_netOnce_23 hF (fun hF => ?_) (fun hF => ?_)
      · refine j_iincL hF (fun x_3 ex_3 hF => ?_)
        refine j_iinc h hnL 2 [(1, .int x_3), (2, .int r_2), (0, .ref (ad 7))] rfl ex_3 (by decide) (by decide) rfl dX7_netOnce_97 ?_
        refine j_goto h 2 (by decide) dX7_netOnce_100 ?_
        exact j_sub [2, 0] rfl (ih _ hF)
      · refine j_aload_n h 1 rfl rfl dX7_netOnce_26 ?_
        refine j_iload_n h 2 rfl rfl dX7_netOnce_27 ?_
        refine j_iconst h (v := 2) (by decide) dX7_netOnce_28 ?_
        obtain ⟨r_4, hr_4, hF⟩ := bind_row hF
        refine j_callVi h (st := []) (S' := S) (c_X7_loanOf X.l X.D X.cI X.cZ X.cV hM S x1 (2 : Int32) hr_4) rfl rfl q4_113 cw_X7_loanOf hM.2.1.o rfl rfl rfl ⟨rfl, rfl, Nat.le_of_ble_eq_true rfl, Nat.le_of_ble_eq_true rfl⟩ _ rfl (Nat.le_of_ble_eq_true rfl) dX7_netOnce_29 ?_
        refine j_aload_n h 1 rfl rfl dX7_netOnce_32 ?_
        refine j_iload_n h 0 rfl rfl dX7_netOnce_33 ?_
        refine j_iconst h (v := 2) (by decide) dX7_netOnce_34 ?_
        obtain ⟨r_5, hr_5, hF⟩ := bind_row hF
        refine j_callVi h (st := [.int r_4]) (S' := S) (c_X7_loanOf X.l X.D X.cI X.cZ X.cV hM S r_2 (2 : Int32) hr_5) rfl rfl q4_113 cw_X7_loanOf hM.2.1.o rfl rfl rfl ⟨rfl, rfl, Nat.le_of_ble_eq_true rfl, Nat.le_of_ble_eq_true rfl⟩ _ rfl (Nat.le_of_ble_eq_true rfl) dX7_netOnce_35 ?_
        refine j_icmp_ge h 50 (by decide) dX7_netOnce_38 hF (fun hF => ?_) (fun hF => ?_)
        · refine j_aload_n h 1 rfl rfl dX7_netOnce_50 ?_
          refine j_iload_n h 0 rfl rfl dX7_netOnce_51 ?_
          refine j_iconst h (v := 2) (by decide) dX7_netOnce_52 ?_
          obtain ⟨r_6, hr_6, hF⟩ := bind_row hF
          refine j_callVi h (st := []) (S' := S) (c_X7_loanOf X.l X.D X.cI X.cZ X.cV hM S r_2 (2 : Int32) hr_6) rfl rfl q4_113 cw_X7_loanOf hM.2.1.o rfl rfl rfl ⟨rfl, rfl, Nat.le_of_ble_eq_true rfl, Nat.le_of_ble_eq_true rfl⟩ _ rfl (Nat.le_of_ble_eq_true rfl) dX7_netOnce_53 ?_
          exact j_sub [1, 2, 0] rfl (k_X7_netOnce_56 h hM hnL hE hF)
        · refine j_aload_n h 1 rfl rfl dX7_netOnce_41 ?_
          refine j_iload_n h 2 rfl rfl dX7_netOnce_42 ?_
          refine j_iconst h (v := 2) (by decide) dX7_netOnce_43 ?_
          obtain ⟨r_14, hr_14, hF⟩ := bind_row hF
          refine j_callVi h (st := []) (S' := S) (c_X7_loanOf X.l X.D X.cI X.cZ X.cV hM S x1 (2 : Int32) hr_14) rfl rfl q4_113 cw_X7_loanOf hM.2.1.o rfl rfl rfl ⟨rfl, rfl, Nat.le_of_ble_eq_true rfl, Nat.le_of_ble_eq_true rfl⟩ _ rfl (Nat.le_of_ble_eq_true rfl) dX7_netOnce_44 ?_
          refine j_goto h 56 (by decide) dX7_netOnce_47 ?_
          exact j_sub [1, 2, 0] rfl (k_X7_netOnce_56 h hM hnL hE hF)
set_option maxHeartbeats 4000000 in
set_option maxRecDepth 100000 in
theorem k_X7_netOnce {X : JX RS} {ad : Nat → Nat} (h : OK X RX7 cX7_netOnce rmX7_netOnce) (hM : IsRef X.cI X.B ad) (hnL : X.nL = 4) {res : Int32 × RS} {S : RS} (hE : EXi X cX7_netOnce res.1 res.2) (hF : f_X7_netOnce S = some res) : J X 0 [(0, .ref (ad 7))] [] S := by
  rw [f_X7_netOnce] at hF
  refine j_iconst h (v := 0) (by decide) dX7_netOnce_0 ?_
  refine j_istore_n h hnL [(1, .int (0 : Int32)), (0, .ref (ad 7))] rfl (by decide) rfl dX7_netOnce_1 ?_
  exact j_sub [1, 0] rfl (k_X7_netOnce_2 h hM hnL hE fuel _ hF)
theorem c_X7_netOnce (l : Launch) (D : va_G) (cI cZ cV : ClassId) {B : RS → va_W} {ad : Nat → Nat} (hM : IsRef cI B ad) (S : RS) {r : Int32 × RS} (hF : f_X7_netOnce S = some r) : CTi l D (jtys cI cZ cV) yX7_netOnce cX7_netOnce 4 (some .int) rmX7_netOnce B [.ref (ad 7)] S r.1 r.2 := by
  refine CTi.of [(0, .ref (ad 7))] rfl (Nat.le_of_ble_eq_true rfl) (by decide) ⟨rfl, rfl⟩ (fun X e1 e2 e3 e4 e5 e6 e7 h hE => ?_)
  subst e1; subst e2; subst e3; subst e4; subst e5; subst e6
  exact k_X7_netOnce h hM e7 hE hF
abbrev rmX7_net : Room := { frames := 3, cells := 0, slots := 0, locals := 68 }
theorem cw_X7_net : CWv RX7 yX7_net cX7_net 3 (some .int) 0 := ⟨q4_151, q4_152, q1_8, q4_153, ⟨rfl, by decide +kernel, by decide +kernel, by decide +kernel⟩⟩
set_option maxHeartbeats 4000000 in
set_option maxRecDepth 100000 in
theorem k_X7_net_11 {X : JX RS} {ad : Nat → Nat} (h : OK X RX7 cX7_net rmX7_net) (hM : IsRef X.cI X.B ad) (hnL : X.nL = 3) {res : Int32 × RS} (hE : EXi X cX7_net res.1 res.2) : ∀ (n : Nat) (x1 : Int32) (x2 : Int32) (S : RS), f_X7_net_11 n x1 x2 S = some res → J X 11 [(0, .ref (ad 7)), (1, .int x1), (2, .int x2)] [] S := by
  intro n
  induction n with
  | zero =>
    intro x1 x2 S hF
    rw [f_X7_net_11] at hF
    cases hF
  | succ n ih =>
    intro x1 x2 S hF
    rw [f_X7_net_11] at hF
    refine j_iload_n h 2 rfl rfl dX7_net_11 ?_
    refine j_if_le h 27 (by decide) dX7_net_12 hF (fun hF => ?_) (fun hF => ?_)
    · refine j_iload_n h 1 rfl rfl dX7_net_27 ?_
      cases hF
      exact hE _ _ dX7_net_28
    · refine j_iload_n h 1 rfl rfl dX7_net_15 ?_
      refine j_iload_n h 2 rfl rfl dX7_net_16 ?_
      refine j_iadd h dX7_net_17 ?_
      refine j_let hF (fun x_3 hF => ?_)
      refine j_istore_n h hnL [(1, .int x_3), (0, .ref (ad 7)), (2, .int x2)] rfl (by decide) rfl dX7_net_18 ?_
      refine j_aload_n h 1 rfl rfl dX7_net_19 ?_
      obtain ⟨r_4, hr_4, hF⟩ := bind_row hF
      refine j_callVi h (st := []) (S' := r_4.2) (c_X7_netOnce X.l X.D X.cI X.cZ X.cV hM S hr_4) rfl rfl q4_154 cw_X7_netOnce hM.2.1.o rfl rfl rfl ⟨rfl, rfl, Nat.le_of_ble_eq_true rfl, Nat.le_of_ble_eq_true rfl⟩ _ rfl (Nat.le_of_ble_eq_true rfl) dX7_net_20 ?_
      refine j_istore_n h hnL [(2, .int r_4.1), (1, .int x_3), (0, .ref (ad 7))] rfl (by decide) rfl dX7_net_23 ?_
      refine j_goto h 11 (by decide) dX7_net_24 ?_
      exact j_sub [2, 1, 0] rfl (ih _ _ _ hF)
set_option maxHeartbeats 4000000 in
set_option maxRecDepth 100000 in
theorem k_X7_net {X : JX RS} {ad : Nat → Nat} (h : OK X RX7 cX7_net rmX7_net) (hM : IsRef X.cI X.B ad) (hnL : X.nL = 3) {res : Int32 × RS} {S : RS} (hE : EXi X cX7_net res.1 res.2) (hF : f_X7_net S = some res) : J X 0 [(0, .ref (ad 7))] [] S := by
  rw [f_X7_net] at hF
  refine j_aload_n h 0 rfl rfl dX7_net_0 ?_
  obtain ⟨r_1, hr_1, hF⟩ := bind_row hF
  refine j_callVv h (st := []) (S' := r_1) (c_X7_record X.l X.D X.cI X.cZ X.cV hM S hr_1) rfl rfl q4_82 cw_X7_record hM.2.1.o rfl rfl rfl ⟨rfl, rfl, Nat.le_of_ble_eq_true rfl, Nat.le_of_ble_eq_true rfl⟩ _ rfl (Nat.le_of_ble_eq_true rfl) dX7_net_1 ?_
  refine j_iconst h (v := 0) (by decide) dX7_net_4 ?_
  refine j_istore_n h hnL [(1, .int (0 : Int32)), (0, .ref (ad 7))] rfl (by decide) rfl dX7_net_5 ?_
  refine j_aload_n h 1 rfl rfl dX7_net_6 ?_
  obtain ⟨r_2, hr_2, hF⟩ := bind_row hF
  refine j_callVi h (st := []) (S' := r_2.2) (c_X7_netOnce X.l X.D X.cI X.cZ X.cV hM r_1 hr_2) rfl rfl q4_154 cw_X7_netOnce hM.2.1.o rfl rfl rfl ⟨rfl, rfl, Nat.le_of_ble_eq_true rfl, Nat.le_of_ble_eq_true rfl⟩ _ rfl (Nat.le_of_ble_eq_true rfl) dX7_net_7 ?_
  refine j_istore_n h hnL [(2, .int r_2.1), (1, .int (0 : Int32)), (0, .ref (ad 7))] rfl (by decide) rfl dX7_net_10 ?_
  exact j_sub [2, 1, 0] rfl (k_X7_net_11 h hM hnL hE fuel _ _ _ hF)
theorem c_X7_net (l : Launch) (D : va_G) (cI cZ cV : ClassId) {B : RS → va_W} {ad : Nat → Nat} (hM : IsRef cI B ad) (S : RS) {r : Int32 × RS} (hF : f_X7_net S = some r) : CTi l D (jtys cI cZ cV) yX7_net cX7_net 3 (some .int) rmX7_net B [.ref (ad 7)] S r.1 r.2 := by
  refine CTi.of [(0, .ref (ad 7))] rfl (Nat.le_of_ble_eq_true rfl) (by decide) ⟨rfl, rfl⟩ (fun X e1 e2 e3 e4 e5 e6 e7 h hE => ?_)
  subst e1; subst e2; subst e3; subst e4; subst e5; subst e6
  exact k_X7_net h hM e7 hE hF
abbrev rmX7_isSetting : Room := { frames := 1, cells := 0, slots := 0, locals := 22 }
theorem cw_X7_isSetting : CWs yX7_isSetting cX7_isSetting 2 (some .boolean) 2 := ⟨q4_168, q1_8, q4_169, ⟨by decide +kernel, by decide +kernel, by decide +kernel⟩⟩
set_option maxHeartbeats 4000000 in
set_option maxRecDepth 100000 in
theorem k_X7_isSetting {τ : Type} {X : JX τ} (h : OK X RX7 cX7_isSetting rmX7_isSetting) (hnL : X.nL = 2) {res : Int32} {S : τ} {p1 : Int32} {p2 : Int32} (hE : EXz X cX7_isSetting res S) (hF : f_X7_isSetting p1 p2 = some res) : J X 0 [(0, .int p1), (1, .int p2)] [] S := by
  rw [f_X7_isSetting] at hF
  refine j_iload_n h 0 rfl rfl dX7_isSetting_0 ?_
  refine j_if_ne h 14 (by decide) dX7_isSetting_1 hF (fun hF => ?_) (fun hF => ?_)
  · refine j_iload_n h 1 rfl rfl dX7_isSetting_4 ?_
    refine j_iconst h (v := 0) (by decide) dX7_isSetting_5 ?_
    refine j_bipush h (v := 50) (by decide) dX7_isSetting_6 ?_
    obtain ⟨r_1, hr_1, hF⟩ := bind_row hF
    refine j_callSz h (st := []) (S' := S) (c_X7_within X.l X.D X.cI X.cZ X.cV (B := X.B) S p2 (0 : Int32) (50 : Int32) hr_1) rfl rfl q4_77 cw_X7_within rfl ⟨rfl, rfl, Nat.le_of_ble_eq_true rfl, Nat.le_of_ble_eq_true rfl⟩ _ rfl (Nat.le_of_ble_eq_true rfl) dX7_isSetting_8 (fun hz_r_1 => ?_)
    refine j_goto h 38 (by decide) dX7_isSetting_11 ?_
    cases hF
    exact hE _ _ dX7_isSetting_38 (by assumption)
  · refine j_iload_n h 0 rfl rfl dX7_isSetting_14 ?_
    refine j_iconst h (v := 1) (by decide) dX7_isSetting_15 ?_
    refine j_iconst h (v := 3) (by decide) dX7_isSetting_16 ?_
    obtain ⟨r_2, hr_2, hF⟩ := bind_row hF
    refine j_callSz h (st := []) (S' := S) (c_X7_within X.l X.D X.cI X.cZ X.cV (B := X.B) S p1 (1 : Int32) (3 : Int32) hr_2) rfl rfl q4_77 cw_X7_within rfl ⟨rfl, rfl, Nat.le_of_ble_eq_true rfl, Nat.le_of_ble_eq_true rfl⟩ _ rfl (Nat.le_of_ble_eq_true rfl) dX7_isSetting_17 (fun hz_r_2 => ?_)
    refine j_if_eq h 37 (by decide) dX7_isSetting_20 hF (fun hF => ?_) (fun hF => ?_)
    · refine j_iconst h (v := 0) (by decide) dX7_isSetting_37 ?_
      cases hF
      exact hE _ _ dX7_isSetting_38 (isB_v (y := (0 : Int32)) (by decide))
    · refine j_iload_n h 1 rfl rfl dX7_isSetting_23 ?_
      refine j_iconst h (v := 0) (by decide) dX7_isSetting_24 ?_
      refine j_bipush h (v := 100) (by decide) dX7_isSetting_25 ?_
      obtain ⟨r_3, hr_3, hF⟩ := bind_row hF
      refine j_callSz h (st := []) (S' := S) (c_X7_within X.l X.D X.cI X.cZ X.cV (B := X.B) S p2 (0 : Int32) (100 : Int32) hr_3) rfl rfl q4_77 cw_X7_within rfl ⟨rfl, rfl, Nat.le_of_ble_eq_true rfl, Nat.le_of_ble_eq_true rfl⟩ _ rfl (Nat.le_of_ble_eq_true rfl) dX7_isSetting_27 (fun hz_r_3 => ?_)
      refine j_if_eq h 37 (by decide) dX7_isSetting_30 hF (fun hF => ?_) (fun hF => ?_)
      · refine j_iconst h (v := 0) (by decide) dX7_isSetting_37 ?_
        cases hF
        exact hE _ _ dX7_isSetting_38 (isB_v (y := (0 : Int32)) (by decide))
      · refine j_iconst h (v := 1) (by decide) dX7_isSetting_33 ?_
        refine j_goto h 38 (by decide) dX7_isSetting_34 ?_
        cases hF
        exact hE _ _ dX7_isSetting_38 (isB_v (y := (1 : Int32)) (by decide))
theorem c_X7_isSetting (l : Launch) (D : va_G) (cI cZ cV : ClassId) {τ : Type} {B : τ → va_W} (S : τ) (p1 : Int32) (p2 : Int32) {r : Int32} (hF : f_X7_isSetting p1 p2 = some r) : CTz l D (jtys cI cZ cV) yX7_isSetting cX7_isSetting 2 (some .boolean) rmX7_isSetting B [.int p1, .int p2] S r S := by
  refine CTz.of [(0, .int p1), (1, .int p2)] rfl (Nat.le_of_ble_eq_true rfl) (by decide) ⟨rfl, rfl⟩ (fun X e1 e2 e3 e4 e5 e6 e7 h hE => ?_)
  subst e1; subst e2; subst e3; subst e4; subst e5; subst e6
  exact k_X7_isSetting h e7 hE hF
abbrev rmX7_set : Room := { frames := 2, cells := 0, slots := 0, locals := 46 }
theorem cw_X7_set : CWv RX7 yX7_set cX7_set 4 (some .int) 2 := ⟨q4_164, q4_165, q1_8, q4_166, ⟨rfl, by decide +kernel, by decide +kernel, by decide +kernel⟩⟩
set_option maxHeartbeats 4000000 in
set_option maxRecDepth 100000 in
theorem k_X7_set {X : JX RS} {ad : Nat → Nat} (h : OK X RX7 cX7_set rmX7_set) (hM : IsRef X.cI X.B ad) (hnL : X.nL = 4) {res : Int32 × RS} {S : RS} {p1 : Int32} {p2 : Int32} (hE : EXi X cX7_set res.1 res.2) (hF : f_X7_set S p1 p2 = some res) : J X 0 [(0, .ref (ad 7)), (1, .int p1), (2, .int p2)] [] S := by
  rw [f_X7_set] at hF
  refine j_iload_n h 1 rfl rfl dX7_set_0 ?_
  refine j_iload_n h 2 rfl rfl dX7_set_1 ?_
  obtain ⟨r_1, hr_1, hF⟩ := bind_row hF
  refine j_callSz h (st := []) (S' := S) (c_X7_isSetting X.l X.D X.cI X.cZ X.cV (B := X.B) S p1 p2 hr_1) rfl rfl q4_167 cw_X7_isSetting rfl ⟨rfl, rfl, Nat.le_of_ble_eq_true rfl, Nat.le_of_ble_eq_true rfl⟩ _ rfl (Nat.le_of_ble_eq_true rfl) dX7_set_2 (fun hz_r_1 => ?_)
  refine j_if_ne h 11 (by decide) dX7_set_5 hF (fun hF => ?_) (fun hF => ?_)
  · refine j_ldc h (v := -1000002) q4_80 dX7_set_8 ?_
    cases hF
    exact hE _ _ dX7_set_10
  · refine j_aload_n h 0 rfl rfl dX7_set_11 ?_
    obtain ⟨r_2, hr_2, hF⟩ := bind_row hF
    refine j_callVv h (st := []) (S' := r_2) (c_X7_record X.l X.D X.cI X.cZ X.cV hM S hr_2) rfl rfl q4_82 cw_X7_record hM.2.1.o rfl rfl rfl ⟨rfl, rfl, Nat.le_of_ble_eq_true rfl, Nat.le_of_ble_eq_true rfl⟩ _ rfl (Nat.le_of_ble_eq_true rfl) dX7_set_12 ?_
    refine j_aload_n h 0 rfl rfl dX7_set_15 ?_
    refine j_iload_n h 1 rfl rfl dX7_set_16 ?_
    obtain ⟨r_3, hr_3, hF⟩ := bind_row hF
    refine j_callVi h (st := []) (S' := r_2) (c_X7_setting1 X.l X.D X.cI X.cZ X.cV hM r_2 p1 hr_3) rfl rfl q4_126 cw_X7_setting1 hM.2.1.o rfl rfl rfl ⟨rfl, rfl, Nat.le_of_ble_eq_true rfl, Nat.le_of_ble_eq_true rfl⟩ _ rfl (Nat.le_of_ble_eq_true rfl) dX7_set_17 ?_
    refine j_istore_n h hnL [(3, .int r_3), (0, .ref (ad 7)), (1, .int p1), (2, .int p2)] rfl (by decide) rfl dX7_set_20 ?_
    refine j_aload_n h 1 rfl rfl dX7_set_21 ?_
    refine j_get h hM.2.1.o inX7 rfl 0 (by decide) rfl q4_24 rfl dX7_set_22 ?_
    refine j_sipush h (v := 177) (by decide) dX7_set_25 ?_
    refine j_iload_n h 2 rfl rfl dX7_set_28 ?_
    refine j_iadd h dX7_set_29 ?_
    refine j_iload_n h 3 rfl rfl dX7_set_30 ?_
    obtain ⟨hb_4, hF⟩ := bnd_row hF
    refine ja_iast h (get := fun S => S.1) (put := setR) (hM.1 0 (by decide)) hb_4 dX7_set_31 ?_
    refine j_letS hF (fun S_5 hF => ?_)
    refine j_iload_n h 0 rfl rfl dX7_set_32 ?_
    cases hF
    exact hE _ _ dX7_set_33
theorem c_X7_set (l : Launch) (D : va_G) (cI cZ cV : ClassId) {B : RS → va_W} {ad : Nat → Nat} (hM : IsRef cI B ad) (S : RS) (p1 : Int32) (p2 : Int32) {r : Int32 × RS} (hF : f_X7_set S p1 p2 = some r) : CTi l D (jtys cI cZ cV) yX7_set cX7_set 4 (some .int) rmX7_set B [.ref (ad 7), .int p1, .int p2] S r.1 r.2 := by
  refine CTi.of [(0, .ref (ad 7)), (1, .int p1), (2, .int p2)] rfl (Nat.le_of_ble_eq_true rfl) (by decide) ⟨rfl, rfl⟩ (fun X e1 e2 e3 e4 e5 e6 e7 h hE => ?_)
  subst e1; subst e2; subst e3; subst e4; subst e5; subst e6
  exact k_X7_set h hM e7 hE hF
abbrev rmX7_isBattery : Room := { frames := 1, cells := 0, slots := 0, locals := 22 }
theorem cw_X7_isBattery : CWs yX7_isBattery cX7_isBattery 2 (some .boolean) 2 := ⟨q4_175, q1_8, q4_176, ⟨by decide +kernel, by decide +kernel, by decide +kernel⟩⟩
set_option maxHeartbeats 4000000 in
set_option maxRecDepth 100000 in
theorem k_X7_isBattery {τ : Type} {X : JX τ} (h : OK X RX7 cX7_isBattery rmX7_isBattery) (hnL : X.nL = 2) {res : Int32} {S : τ} {p1 : Int32} {p2 : Int32} (hE : EXz X cX7_isBattery res S) (hF : f_X7_isBattery p1 p2 = some res) : J X 0 [(0, .int p1), (1, .int p2)] [] S := by
  rw [f_X7_isBattery] at hF
  refine j_iload_n h 0 rfl rfl dX7_isBattery_0 ?_
  refine j_if_ne h 15 (by decide) dX7_isBattery_1 hF (fun hF => ?_) (fun hF => ?_)
  · refine j_iload_n h 1 rfl rfl dX7_isBattery_4 ?_
    refine j_iconst h (v := 0) (by decide) dX7_isBattery_5 ?_
    refine j_sipush h (v := 500) (by decide) dX7_isBattery_6 ?_
    obtain ⟨r_1, hr_1, hF⟩ := bind_row hF
    refine j_callSz h (st := []) (S' := S) (c_X7_within X.l X.D X.cI X.cZ X.cV (B := X.B) S p2 (0 : Int32) (500 : Int32) hr_1) rfl rfl q4_77 cw_X7_within rfl ⟨rfl, rfl, Nat.le_of_ble_eq_true rfl, Nat.le_of_ble_eq_true rfl⟩ _ rfl (Nat.le_of_ble_eq_true rfl) dX7_isBattery_9 (fun hz_r_1 => ?_)
    refine j_goto h 51 (by decide) dX7_isBattery_12 ?_
    cases hF
    exact hE _ _ dX7_isBattery_51 (by assumption)
  · refine j_iload_n h 0 rfl rfl dX7_isBattery_15 ?_
    refine j_iconst h (v := 1) (by decide) dX7_isBattery_16 ?_
    refine j_icmp_ne h 30 (by decide) dX7_isBattery_17 hF (fun hF => ?_) (fun hF => ?_)
    · refine j_iload_n h 1 rfl rfl dX7_isBattery_20 ?_
      refine j_iconst h (v := 0) (by decide) dX7_isBattery_21 ?_
      refine j_bipush h (v := 100) (by decide) dX7_isBattery_22 ?_
      obtain ⟨r_2, hr_2, hF⟩ := bind_row hF
      refine j_callSz h (st := []) (S' := S) (c_X7_within X.l X.D X.cI X.cZ X.cV (B := X.B) S p2 (0 : Int32) (100 : Int32) hr_2) rfl rfl q4_77 cw_X7_within rfl ⟨rfl, rfl, Nat.le_of_ble_eq_true rfl, Nat.le_of_ble_eq_true rfl⟩ _ rfl (Nat.le_of_ble_eq_true rfl) dX7_isBattery_24 (fun hz_r_2 => ?_)
      refine j_goto h 51 (by decide) dX7_isBattery_27 ?_
      cases hF
      exact hE _ _ dX7_isBattery_51 (by assumption)
    · refine j_iload_n h 0 rfl rfl dX7_isBattery_30 ?_
      refine j_iconst h (v := 2) (by decide) dX7_isBattery_31 ?_
      refine j_icmp_ne h 50 (by decide) dX7_isBattery_32 hF (fun hF => ?_) (fun hF => ?_)
      · refine j_iload_n h 1 rfl rfl dX7_isBattery_35 ?_
        refine j_bipush h (v := 50) (by decide) dX7_isBattery_36 ?_
        refine j_bipush h (v := 100) (by decide) dX7_isBattery_38 ?_
        obtain ⟨r_3, hr_3, hF⟩ := bind_row hF
        refine j_callSz h (st := []) (S' := S) (c_X7_within X.l X.D X.cI X.cZ X.cV (B := X.B) S p2 (50 : Int32) (100 : Int32) hr_3) rfl rfl q4_77 cw_X7_within rfl ⟨rfl, rfl, Nat.le_of_ble_eq_true rfl, Nat.le_of_ble_eq_true rfl⟩ _ rfl (Nat.le_of_ble_eq_true rfl) dX7_isBattery_40 (fun hz_r_3 => ?_)
        refine j_if_eq h 50 (by decide) dX7_isBattery_43 hF (fun hF => ?_) (fun hF => ?_)
        · refine j_iconst h (v := 0) (by decide) dX7_isBattery_50 ?_
          cases hF
          exact hE _ _ dX7_isBattery_51 (isB_v (y := (0 : Int32)) (by decide))
        · refine j_iconst h (v := 1) (by decide) dX7_isBattery_46 ?_
          refine j_goto h 51 (by decide) dX7_isBattery_47 ?_
          cases hF
          exact hE _ _ dX7_isBattery_51 (isB_v (y := (1 : Int32)) (by decide))
      · refine j_iconst h (v := 0) (by decide) dX7_isBattery_50 ?_
        cases hF
        exact hE _ _ dX7_isBattery_51 (isB_v (y := (0 : Int32)) (by decide))
theorem c_X7_isBattery (l : Launch) (D : va_G) (cI cZ cV : ClassId) {τ : Type} {B : τ → va_W} (S : τ) (p1 : Int32) (p2 : Int32) {r : Int32} (hF : f_X7_isBattery p1 p2 = some r) : CTz l D (jtys cI cZ cV) yX7_isBattery cX7_isBattery 2 (some .boolean) rmX7_isBattery B [.int p1, .int p2] S r S := by
  refine CTz.of [(0, .int p1), (1, .int p2)] rfl (Nat.le_of_ble_eq_true rfl) (by decide) ⟨rfl, rfl⟩ (fun X e1 e2 e3 e4 e5 e6 e7 h hE => ?_)
  subst e1; subst e2; subst e3; subst e4; subst e5; subst e6
  exact k_X7_isBattery h e7 hE hF
abbrev rmX7_setBattery : Room := { frames := 2, cells := 0, slots := 0, locals := 46 }
theorem cw_X7_setBattery : CWv RX7 yX7_setBattery cX7_setBattery 7 (some .int) 3 := ⟨q4_171, q4_172, q1_8, q4_173, ⟨rfl, by decide +kernel, by decide +kernel, by decide +kernel⟩⟩
set_option maxHeartbeats 4000000 in
set_option maxRecDepth 100000 in
theorem k_X7_setBattery {X : JX RS} {ad : Nat → Nat} (h : OK X RX7 cX7_setBattery rmX7_setBattery) (hM : IsRef X.cI X.B ad) (hnL : X.nL = 7) {res : Int32 × RS} {S : RS} {p1 : Int32} {p2 : Int32} {p3 : Int32} (hE : EXi X cX7_setBattery res.1 res.2) (hF : f_X7_setBattery S p1 p2 p3 = some res) : J X 0 [(0, .ref (ad 7)), (1, .int p1), (2, .int p2), (3, .int p3)] [] S := by
  rw [f_X7_setBattery] at hF
  refine j_iload_n h 1 rfl rfl dX7_setBattery_0 ?_
  refine j_iconst h (v := 0) (by decide) dX7_setBattery_1 ?_
  refine j_iconst h (v := 1) (by decide) dX7_setBattery_2 ?_
  obtain ⟨r_1, hr_1, hF⟩ := bind_row hF
  refine j_callSz h (st := []) (S' := S) (c_X7_within X.l X.D X.cI X.cZ X.cV (B := X.B) S p1 (0 : Int32) (1 : Int32) hr_1) rfl rfl q4_77 cw_X7_within rfl ⟨rfl, rfl, Nat.le_of_ble_eq_true rfl, Nat.le_of_ble_eq_true rfl⟩ _ rfl (Nat.le_of_ble_eq_true rfl) dX7_setBattery_3 (fun hz_r_1 => ?_)
  refine j_if_eq h 17 (by decide) dX7_setBattery_6 hF (fun hF => ?_) (fun hF => ?_)
  · refine j_ldc h (v := -1000002) q4_80 dX7_setBattery_17 ?_
    cases hF
    exact hE _ _ dX7_setBattery_19
  · refine j_iload_n h 2 rfl rfl dX7_setBattery_9 ?_
    refine j_iload_n h 3 rfl rfl dX7_setBattery_10 ?_
    obtain ⟨r_2, hr_2, hF⟩ := bind_row hF
    refine j_callSz h (st := []) (S' := S) (c_X7_isBattery X.l X.D X.cI X.cZ X.cV (B := X.B) S p2 p3 hr_2) rfl rfl q4_174 cw_X7_isBattery rfl ⟨rfl, rfl, Nat.le_of_ble_eq_true rfl, Nat.le_of_ble_eq_true rfl⟩ _ rfl (Nat.le_of_ble_eq_true rfl) dX7_setBattery_11 (fun hz_r_2 => ?_)
    refine j_if_ne h 20 (by decide) dX7_setBattery_14 hF (fun hF => ?_) (fun hF => ?_)
    · refine j_ldc h (v := -1000002) q4_80 dX7_setBattery_17 ?_
      cases hF
      exact hE _ _ dX7_setBattery_19
    · refine j_aload_n h 0 rfl rfl dX7_setBattery_20 ?_
      obtain ⟨r_3, hr_3, hF⟩ := bind_row hF
      refine j_callVv h (st := []) (S' := r_3) (c_X7_record X.l X.D X.cI X.cZ X.cV hM S hr_3) rfl rfl q4_82 cw_X7_record hM.2.1.o rfl rfl rfl ⟨rfl, rfl, Nat.le_of_ble_eq_true rfl, Nat.le_of_ble_eq_true rfl⟩ _ rfl (Nat.le_of_ble_eq_true rfl) dX7_setBattery_21 ?_
      refine j_bipush h (v := 116) (by decide) dX7_setBattery_24 ?_
      refine j_iconst h (v := 4) (by decide) dX7_setBattery_26 ?_
      refine j_iload_n h 1 rfl rfl dX7_setBattery_27 ?_
      refine j_imul h dX7_setBattery_28 ?_
      refine j_iadd h dX7_setBattery_29 ?_
      refine j_let hF (fun x_4 hF => ?_)
      refine j_istore h hnL [(4, .int x_4), (0, .ref (ad 7)), (1, .int p1), (2, .int p2), (3, .int p3)] (by decide) rfl dX7_setBattery_30 ?_
      refine j_aload_n h 1 rfl rfl dX7_setBattery_32 ?_
      refine j_get h hM.2.1.o inX7 rfl 0 (by decide) rfl q4_24 rfl dX7_setBattery_33 ?_
      refine j_iload h 0 rfl dX7_setBattery_36 ?_
      refine j_iload_n h 3 rfl rfl dX7_setBattery_38 ?_
      refine j_iadd h dX7_setBattery_39 ?_
      obtain ⟨hb_5, hF⟩ := bnd_row hF
      refine ja_iald h (get := fun S => S.1) (put := setR) (hM.1 0 (by decide)) hb_5 dX7_setBattery_40 ?_
      refine j_let hF (fun x_6 hF => ?_)
      refine j_istore h hnL [(5, .int x_6), (4, .int x_4), (0, .ref (ad 7)), (1, .int p1), (2, .int p2), (3, .int p3)] (by decide) rfl dX7_setBattery_41 ?_
      refine j_aload_n h 2 rfl rfl dX7_setBattery_43 ?_
      refine j_get h hM.2.1.o inX7 rfl 0 (by decide) rfl q4_24 rfl dX7_setBattery_44 ?_
      refine j_iload h 1 rfl dX7_setBattery_47 ?_
      refine j_iload_n h 4 rfl rfl dX7_setBattery_49 ?_
      refine j_iadd h dX7_setBattery_50 ?_
      refine j_iload_n h 5 rfl rfl dX7_setBattery_51 ?_
      obtain ⟨hb_7, hF⟩ := bnd_row hF
      refine ja_iast h (get := fun S => S.1) (put := setR) (hM.1 0 (by decide)) hb_7 dX7_setBattery_52 ?_
      refine j_letS hF (fun S_8 hF => ?_)
      refine j_aload_n h 2 rfl rfl dX7_setBattery_53 ?_
      refine j_get h hM.2.1.o inX7 rfl 0 (by decide) rfl q4_24 rfl dX7_setBattery_54 ?_
      refine j_iload h 1 rfl dX7_setBattery_57 ?_
      refine j_iconst h (v := 3) (by decide) dX7_setBattery_59 ?_
      refine j_iadd h dX7_setBattery_60 ?_
      obtain ⟨hb_9, hF⟩ := bnd_row hF
      refine ja_iald h (get := fun S => S.1) (put := setR) (hM.1 0 (by decide)) hb_9 dX7_setBattery_61 ?_
      refine j_aload_n h 2 rfl rfl dX7_setBattery_62 ?_
      refine j_get h hM.2.1.o inX7 rfl 0 (by decide) rfl q4_24 rfl dX7_setBattery_63 ?_
      refine j_iload h 1 rfl dX7_setBattery_66 ?_
      refine j_iconst h (v := 0) (by decide) dX7_setBattery_68 ?_
      refine j_iadd h dX7_setBattery_69 ?_
      obtain ⟨hb_10, hF⟩ := bnd_row hF
      refine ja_iald h (get := fun S => S.1) (put := setR) (hM.1 0 (by decide)) hb_10 dX7_setBattery_70 ?_
      refine j_isub h dX7_setBattery_71 ?_
      refine j_let hF (fun x_11 hF => ?_)
      refine j_istore h hnL [(6, .int x_11), (5, .int x_6), (4, .int x_4), (0, .ref (ad 7)), (1, .int p1), (2, .int p2), (3, .int p3)] (by decide) rfl dX7_setBattery_72 ?_
      refine j_iload h 0 rfl dX7_setBattery_74 ?_
      refine j_if_le h 106 (by decide) dX7_setBattery_76 hF (fun hF => ?_) (fun hF => ?_)
      · refine j_iload h 1 rfl dX7_setBattery_106 ?_
        cases hF
        exact hE _ _ dX7_setBattery_108
      · refine j_aload_n h 3 rfl rfl dX7_setBattery_79 ?_
        refine j_get h hM.2.1.o inX7 rfl 0 (by decide) rfl q4_24 rfl dX7_setBattery_80 ?_
        refine j_iload h 2 rfl dX7_setBattery_83 ?_
        refine j_iconst h (v := 3) (by decide) dX7_setBattery_85 ?_
        refine j_iadd h dX7_setBattery_86 ?_
        refine j_dup2 h rfl rfl dX7_setBattery_87 ?_
        obtain ⟨hb_12, hF⟩ := bnd_row hF
        refine ja_iald h (get := fun S => S.1) (put := setR) (hM.1 0 (by decide)) hb_12 dX7_setBattery_88 ?_
        refine j_iload h 0 rfl dX7_setBattery_89 ?_
        refine j_isub h dX7_setBattery_91 ?_
        obtain ⟨hb_13, hF⟩ := bnd_row hF
        refine ja_iast h (get := fun S => S.1) (put := setR) (hM.1 0 (by decide)) hb_13 dX7_setBattery_92 ?_
        refine j_letS hF (fun S_14 hF => ?_)
        refine j_aload_n h 3 rfl rfl dX7_setBattery_93 ?_
        refine j_get h hM.2.1.o inX7 rfl 0 (by decide) rfl q4_24 rfl dX7_setBattery_94 ?_
        refine j_sipush h (v := 185) (by decide) dX7_setBattery_97 ?_
        refine j_dup2 h rfl rfl dX7_setBattery_100 ?_
        obtain ⟨hb_15, hF⟩ := bnd_row hF
        refine ja_iald h (get := fun S => S.1) (put := setR) (hM.1 0 (by decide)) hb_15 dX7_setBattery_101 ?_
        refine j_iload h 0 rfl dX7_setBattery_102 ?_
        refine j_iadd h dX7_setBattery_104 ?_
        obtain ⟨hb_16, hF⟩ := bnd_row hF
        refine ja_iast h (get := fun S => S.1) (put := setR) (hM.1 0 (by decide)) hb_16 dX7_setBattery_105 ?_
        refine j_letS hF (fun S_17 hF => ?_)
        refine j_iload h 1 rfl dX7_setBattery_106 ?_
        cases hF
        exact hE _ _ dX7_setBattery_108
theorem c_X7_setBattery (l : Launch) (D : va_G) (cI cZ cV : ClassId) {B : RS → va_W} {ad : Nat → Nat} (hM : IsRef cI B ad) (S : RS) (p1 : Int32) (p2 : Int32) (p3 : Int32) {r : Int32 × RS} (hF : f_X7_setBattery S p1 p2 p3 = some r) : CTi l D (jtys cI cZ cV) yX7_setBattery cX7_setBattery 7 (some .int) rmX7_setBattery B [.ref (ad 7), .int p1, .int p2, .int p3] S r.1 r.2 := by
  refine CTi.of [(0, .ref (ad 7)), (1, .int p1), (2, .int p2), (3, .int p3)] rfl (Nat.le_of_ble_eq_true rfl) (by decide) ⟨rfl, rfl⟩ (fun X e1 e2 e3 e4 e5 e6 e7 h hE => ?_)
  subst e1; subst e2; subst e3; subst e4; subst e5; subst e6
  exact k_X7_setBattery h hM e7 hE hF
abbrev rmX7_canDraw : Room := { frames := 1, cells := 0, slots := 0, locals := 22 }
theorem cw_X7_canDraw : CWv RX7 yX7_canDraw cX7_canDraw 4 (some .int) 1 := ⟨q4_199, qs45, q1_8, q4_200, ⟨rfl, by decide +kernel, by decide +kernel, by decide +kernel⟩⟩
set_option maxHeartbeats 4000000 in
set_option maxRecDepth 100000 in
theorem k_X7_canDraw_33 {X : JX RS} {ad : Nat → Nat} (h : OK X RX7 cX7_canDraw rmX7_canDraw) (hM : IsRef X.cI X.B ad) (hnL : X.nL = 4) {res : Int32} {S : RS} {x1 : Int32} {s0 : Int32} (hE : EXi X cX7_canDraw res S) (hF : f_X7_canDraw_33 S x1 s0 = some res) : J X 33 [(0, .ref (ad 7)), (1, .int x1)] [.int s0] S := by
  rw [f_X7_canDraw_33] at hF
  refine j_istore_n h hnL [(3, .int s0), (0, .ref (ad 7)), (1, .int x1)] rfl (by decide) rfl dX7_canDraw_33 ?_
  refine j_aload_n h 1 rfl rfl dX7_canDraw_34 ?_
  refine j_iload_n h 2 rfl rfl dX7_canDraw_35 ?_
  refine j_iconst h (v := 3) (by decide) dX7_canDraw_36 ?_
  obtain ⟨r_5, hr_5, hF⟩ := bind_row hF
  refine j_callVi h (st := []) (S' := S) (c_X7_of X.l X.D X.cI X.cZ X.cV hM S x1 (3 : Int32) hr_5) rfl rfl q4_101 cw_X7_of hM.2.1.o rfl rfl rfl ⟨rfl, rfl, Nat.le_of_ble_eq_true rfl, Nat.le_of_ble_eq_true rfl⟩ _ rfl (Nat.le_of_ble_eq_true rfl) dX7_canDraw_37 ?_
  refine j_if_eq h 47 (by decide) dX7_canDraw_40 hF (fun hF => ?_) (fun hF => ?_)
  · refine j_iconst h (v := 0) (by decide) dX7_canDraw_47 ?_
    refine j_goto h 52 (by decide) dX7_canDraw_48 ?_
    cases hF
    exact hE _ _ dX7_canDraw_52
  · refine j_iload_n h 0 rfl rfl dX7_canDraw_43 ?_
    refine j_if_ge h 51 (by decide) dX7_canDraw_44 hF (fun hF => ?_) (fun hF => ?_)
    · refine j_iload_n h 0 rfl rfl dX7_canDraw_51 ?_
      cases hF
      exact hE _ _ dX7_canDraw_52
    · refine j_iconst h (v := 0) (by decide) dX7_canDraw_47 ?_
      refine j_goto h 52 (by decide) dX7_canDraw_48 ?_
      cases hF
      exact hE _ _ dX7_canDraw_52
set_option maxHeartbeats 4000000 in
set_option maxRecDepth 100000 in
theorem k_X7_canDraw {X : JX RS} {ad : Nat → Nat} (h : OK X RX7 cX7_canDraw rmX7_canDraw) (hM : IsRef X.cI X.B ad) (hnL : X.nL = 4) {res : Int32} {S : RS} {p1 : Int32} (hE : EXi X cX7_canDraw res S) (hF : f_X7_canDraw S p1 = some res) : J X 0 [(0, .ref (ad 7)), (1, .int p1)] [] S := by
  rw [f_X7_canDraw] at hF
  refine j_aload_n h 0 rfl rfl dX7_canDraw_0 ?_
  refine j_iload_n h 1 rfl rfl dX7_canDraw_1 ?_
  refine j_iconst h (v := 4) (by decide) dX7_canDraw_2 ?_
  obtain ⟨r_1, hr_1, hF⟩ := bind_row hF
  refine j_callVi h (st := []) (S' := S) (c_X7_of X.l X.D X.cI X.cZ X.cV hM S p1 (4 : Int32) hr_1) rfl rfl q4_101 cw_X7_of hM.2.1.o rfl rfl rfl ⟨rfl, rfl, Nat.le_of_ble_eq_true rfl, Nat.le_of_ble_eq_true rfl⟩ _ rfl (Nat.le_of_ble_eq_true rfl) dX7_canDraw_3 ?_
  refine j_aload_n h 0 rfl rfl dX7_canDraw_6 ?_
  refine j_iconst h (v := 0) (by decide) dX7_canDraw_7 ?_
  obtain ⟨r_2, hr_2, hF⟩ := bind_row hF
  refine j_callVi h (st := [.int r_1]) (S' := S) (c_X7_setting1 X.l X.D X.cI X.cZ X.cV hM S (0 : Int32) hr_2) rfl rfl q4_126 cw_X7_setting1 hM.2.1.o rfl rfl rfl ⟨rfl, rfl, Nat.le_of_ble_eq_true rfl, Nat.le_of_ble_eq_true rfl⟩ _ rfl (Nat.le_of_ble_eq_true rfl) dX7_canDraw_8 ?_
  refine j_iadd h dX7_canDraw_11 ?_
  refine j_let hF (fun x_3 hF => ?_)
  refine j_istore_n h hnL [(2, .int x_3), (0, .ref (ad 7)), (1, .int p1)] rfl (by decide) rfl dX7_canDraw_12 ?_
  refine j_aload_n h 1 rfl rfl dX7_canDraw_13 ?_
  refine j_iload_n h 2 rfl rfl dX7_canDraw_14 ?_
  refine j_iconst h (v := 1) (by decide) dX7_canDraw_15 ?_
  obtain ⟨r_4, hr_4, hF⟩ := bind_row hF
  refine j_callVi h (st := []) (S' := S) (c_X7_of X.l X.D X.cI X.cZ X.cV hM S p1 (1 : Int32) hr_4) rfl rfl q4_101 cw_X7_of hM.2.1.o rfl rfl rfl ⟨rfl, rfl, Nat.le_of_ble_eq_true rfl, Nat.le_of_ble_eq_true rfl⟩ _ rfl (Nat.le_of_ble_eq_true rfl) dX7_canDraw_16 ?_
  refine j_iload_n h 0 rfl rfl dX7_canDraw_19 ?_
  refine j_icmp_ge h 32 (by decide) dX7_canDraw_20 hF (fun hF => ?_) (fun hF => ?_)
  · refine j_iload_n h 0 rfl rfl dX7_canDraw_32 ?_
    exact j_sub [1, 2] rfl (k_X7_canDraw_33 h hM hnL hE hF)
  · refine j_aload_n h 1 rfl rfl dX7_canDraw_23 ?_
    refine j_iload_n h 2 rfl rfl dX7_canDraw_24 ?_
    refine j_iconst h (v := 1) (by decide) dX7_canDraw_25 ?_
    obtain ⟨r_6, hr_6, hF⟩ := bind_row hF
    refine j_callVi h (st := []) (S' := S) (c_X7_of X.l X.D X.cI X.cZ X.cV hM S p1 (1 : Int32) hr_6) rfl rfl q4_101 cw_X7_of hM.2.1.o rfl rfl rfl ⟨rfl, rfl, Nat.le_of_ble_eq_true rfl, Nat.le_of_ble_eq_true rfl⟩ _ rfl (Nat.le_of_ble_eq_true rfl) dX7_canDraw_26 ?_
    refine j_goto h 33 (by decide) dX7_canDraw_29 ?_
    exact j_sub [1, 2] rfl (k_X7_canDraw_33 h hM hnL hE hF)
theorem c_X7_canDraw (l : Launch) (D : va_G) (cI cZ cV : ClassId) {B : RS → va_W} {ad : Nat → Nat} (hM : IsRef cI B ad) (S : RS) (p1 : Int32) {r : Int32} (hF : f_X7_canDraw S p1 = some r) : CTi l D (jtys cI cZ cV) yX7_canDraw cX7_canDraw 4 (some .int) rmX7_canDraw B [.ref (ad 7), .int p1] S r S := by
  refine CTi.of [(0, .ref (ad 7)), (1, .int p1)] rfl (Nat.le_of_ble_eq_true rfl) (by decide) ⟨rfl, rfl⟩ (fun X e1 e2 e3 e4 e5 e6 e7 h hE => ?_)
  subst e1; subst e2; subst e3; subst e4; subst e5; subst e6
  exact k_X7_canDraw h hM e7 hE hF
abbrev rmX7_canGive : Room := { frames := 1, cells := 0, slots := 0, locals := 22 }
theorem cw_X7_canGive : CWv RX7 yX7_canGive cX7_canGive 2 (some .int) 1 := ⟨q4_191, qs43, q1_8, q4_192, ⟨rfl, by decide +kernel, by decide +kernel, by decide +kernel⟩⟩
set_option maxHeartbeats 4000000 in
set_option maxRecDepth 100000 in
theorem k_X7_canGive {X : JX RS} {ad : Nat → Nat} (h : OK X RX7 cX7_canGive rmX7_canGive) (hM : IsRef X.cI X.B ad) (hnL : X.nL = 2) {res : Int32} {S : RS} {p1 : Int32} (hE : EXi X cX7_canGive res S) (hF : f_X7_canGive S p1 = some res) : J X 0 [(0, .ref (ad 7)), (1, .int p1)] [] S := by
  rw [f_X7_canGive] at hF
  refine j_aload_n h 0 rfl rfl dX7_canGive_0 ?_
  refine j_iload_n h 1 rfl rfl dX7_canGive_1 ?_
  refine j_iconst h (v := 3) (by decide) dX7_canGive_2 ?_
  obtain ⟨r_1, hr_1, hF⟩ := bind_row hF
  refine j_callVi h (st := []) (S' := S) (c_X7_cell X.l X.D X.cI X.cZ X.cV hM S p1 (3 : Int32) hr_1) rfl rfl q4_193 cw_X7_cell hM.2.1.o rfl rfl rfl ⟨rfl, rfl, Nat.le_of_ble_eq_true rfl, Nat.le_of_ble_eq_true rfl⟩ _ rfl (Nat.le_of_ble_eq_true rfl) dX7_canGive_3 ?_
  refine j_aload_n h 0 rfl rfl dX7_canGive_6 ?_
  refine j_iload_n h 1 rfl rfl dX7_canGive_7 ?_
  refine j_iconst h (v := 1) (by decide) dX7_canGive_8 ?_
  obtain ⟨r_2, hr_2, hF⟩ := bind_row hF
  refine j_callVi h (st := [.int r_1]) (S' := S) (c_X7_cell X.l X.D X.cI X.cZ X.cV hM S p1 (1 : Int32) hr_2) rfl rfl q4_193 cw_X7_cell hM.2.1.o rfl rfl rfl ⟨rfl, rfl, Nat.le_of_ble_eq_true rfl, Nat.le_of_ble_eq_true rfl⟩ _ rfl (Nat.le_of_ble_eq_true rfl) dX7_canGive_9 ?_
  refine j_icmp_ge h 24 (by decide) dX7_canGive_12 hF (fun hF => ?_) (fun hF => ?_)
  · refine j_aload_n h 0 rfl rfl dX7_canGive_24 ?_
    refine j_iload_n h 1 rfl rfl dX7_canGive_25 ?_
    refine j_iconst h (v := 1) (by decide) dX7_canGive_26 ?_
    obtain ⟨r_3, hr_3, hF⟩ := bind_row hF
    refine j_callVi h (st := []) (S' := S) (c_X7_cell X.l X.D X.cI X.cZ X.cV hM S p1 (1 : Int32) hr_3) rfl rfl q4_193 cw_X7_cell hM.2.1.o rfl rfl rfl ⟨rfl, rfl, Nat.le_of_ble_eq_true rfl, Nat.le_of_ble_eq_true rfl⟩ _ rfl (Nat.le_of_ble_eq_true rfl) dX7_canGive_27 ?_
    cases hF
    exact hE _ _ dX7_canGive_30
  · refine j_aload_n h 0 rfl rfl dX7_canGive_15 ?_
    refine j_iload_n h 1 rfl rfl dX7_canGive_16 ?_
    refine j_iconst h (v := 3) (by decide) dX7_canGive_17 ?_
    obtain ⟨r_4, hr_4, hF⟩ := bind_row hF
    refine j_callVi h (st := []) (S' := S) (c_X7_cell X.l X.D X.cI X.cZ X.cV hM S p1 (3 : Int32) hr_4) rfl rfl q4_193 cw_X7_cell hM.2.1.o rfl rfl rfl ⟨rfl, rfl, Nat.le_of_ble_eq_true rfl, Nat.le_of_ble_eq_true rfl⟩ _ rfl (Nat.le_of_ble_eq_true rfl) dX7_canGive_18 ?_
    refine j_goto h 30 (by decide) dX7_canGive_21 ?_
    cases hF
    exact hE _ _ dX7_canGive_30
theorem c_X7_canGive (l : Launch) (D : va_G) (cI cZ cV : ClassId) {B : RS → va_W} {ad : Nat → Nat} (hM : IsRef cI B ad) (S : RS) (p1 : Int32) {r : Int32} (hF : f_X7_canGive S p1 = some r) : CTi l D (jtys cI cZ cV) yX7_canGive cX7_canGive 2 (some .int) rmX7_canGive B [.ref (ad 7), .int p1] S r S := by
  refine CTi.of [(0, .ref (ad 7)), (1, .int p1)] rfl (Nat.le_of_ble_eq_true rfl) (by decide) ⟨rfl, rfl⟩ (fun X e1 e2 e3 e4 e5 e6 e7 h hE => ?_)
  subst e1; subst e2; subst e3; subst e4; subst e5; subst e6
  exact k_X7_canGive h hM e7 hE hF
abbrev rmX7_wanted : Room := { frames := 0, cells := 0, slots := 0, locals := 0 }
theorem cw_X7_wanted : CWv RX7 yX7_wanted cX7_wanted 3 (some .int) 0 := ⟨q4_203, qs46, q1_8, q4_204, ⟨rfl, by decide +kernel, by decide +kernel, by decide +kernel⟩⟩
set_option maxHeartbeats 4000000 in
set_option maxRecDepth 100000 in
theorem k_X7_wanted_4 {X : JX RS} {ad : Nat → Nat} (h : OK X RX7 cX7_wanted rmX7_wanted) (hM : IsRef X.cI X.B ad) (hnL : X.nL = 3) {res : Int32} {S : RS} (hE : EXi X cX7_wanted res S) : ∀ (n : Nat) (x1 : Int32) (x2 : Int32), f_X7_wanted_4 S n x1 x2 = some res → J X 4 [(0, .ref (ad 7)), (1, .int x1), (2, .int x2)] [] S := by
  intro n
  induction n with
  | zero =>
    intro x1 x2 hF
    rw [f_X7_wanted_4] at hF
    cases hF
  | succ n ih =>
    intro x1 x2 hF
    rw [f_X7_wanted_4] at hF
    refine j_iload_n h 2 rfl rfl dX7_wanted_4 ?_
    refine j_aload_n h 0 rfl rfl dX7_wanted_5 ?_
    refine j_get h hM.2.1.o inX7 rfl 0 (by decide) rfl q4_24 rfl dX7_wanted_6 ?_
    refine j_sipush h (v := 172) (by decide) dX7_wanted_9 ?_
    obtain ⟨hb_1, hF⟩ := bnd_row hF
    refine ja_iald h (get := fun S => S.1) (put := setR) (hM.1 0 (by decide)) hb_1 dX7_wanted_12 ?_
    refine j_icmp_ge h 31 (by decide) dX7_wanted_13 hF (fun hF => ?_) (fun hF => ?_)
    · refine j_iload_n h 1 rfl rfl dX7_wanted_31 ?_
      cases hF
      exact hE _ _ dX7_wanted_32
    · refine j_iload_n h 1 rfl rfl dX7_wanted_16 ?_
      refine j_aload_n h 0 rfl rfl dX7_wanted_17 ?_
      refine j_get h hM.2.1.o inX7 rfl 8 (by decide) rfl q4_32 rfl dX7_wanted_18 ?_
      refine j_iload_n h 2 rfl rfl dX7_wanted_21 ?_
      obtain ⟨hb_2, hF⟩ := bnd_row hF
      refine ja_iald h (get := fun S => S.1) (put := setR) (hM.1 5 (by decide)) hb_2 dX7_wanted_22 ?_
      refine j_iadd h dX7_wanted_23 ?_
      refine j_let hF (fun x_3 hF => ?_)
      refine j_istore_n h hnL [(1, .int x_3), (0, .ref (ad 7)), (2, .int x2)] rfl (by decide) rfl dX7_wanted_24 ?_
      refine j_iincL hF (fun x_4 ex_4 hF => ?_)
      refine j_iinc h hnL 2 [(2, .int x_4), (1, .int x_3), (0, .ref (ad 7))] rfl ex_4 (by decide) (by decide) rfl dX7_wanted_25 ?_
      refine j_goto h 4 (by decide) dX7_wanted_28 ?_
      exact j_sub [2, 1, 0] rfl (ih _ _ hF)
set_option maxHeartbeats 4000000 in
set_option maxRecDepth 100000 in
theorem k_X7_wanted {X : JX RS} {ad : Nat → Nat} (h : OK X RX7 cX7_wanted rmX7_wanted) (hM : IsRef X.cI X.B ad) (hnL : X.nL = 3) {res : Int32} {S : RS} (hE : EXi X cX7_wanted res S) (hF : f_X7_wanted S = some res) : J X 0 [(0, .ref (ad 7))] [] S := by
  rw [f_X7_wanted] at hF
  refine j_iconst h (v := 0) (by decide) dX7_wanted_0 ?_
  refine j_istore_n h hnL [(1, .int (0 : Int32)), (0, .ref (ad 7))] rfl (by decide) rfl dX7_wanted_1 ?_
  refine j_iconst h (v := 0) (by decide) dX7_wanted_2 ?_
  refine j_istore_n h hnL [(2, .int (0 : Int32)), (1, .int (0 : Int32)), (0, .ref (ad 7))] rfl (by decide) rfl dX7_wanted_3 ?_
  exact j_sub [2, 1, 0] rfl (k_X7_wanted_4 h hM hnL hE fuel _ _ hF)
theorem c_X7_wanted (l : Launch) (D : va_G) (cI cZ cV : ClassId) {B : RS → va_W} {ad : Nat → Nat} (hM : IsRef cI B ad) (S : RS) {r : Int32} (hF : f_X7_wanted S = some r) : CTi l D (jtys cI cZ cV) yX7_wanted cX7_wanted 3 (some .int) rmX7_wanted B [.ref (ad 7)] S r S := by
  refine CTi.of [(0, .ref (ad 7))] rfl (Nat.le_of_ble_eq_true rfl) (by decide) ⟨rfl, rfl⟩ (fun X e1 e2 e3 e4 e5 e6 e7 h hE => ?_)
  subst e1; subst e2; subst e3; subst e4; subst e5; subst e6
  exact k_X7_wanted h hM e7 hE hF
abbrev rmX7_shed : Room := { frames := 1, cells := 0, slots := 0, locals := 22 }
theorem cw_X7_shed : CWv RX7 yX7_shed cX7_shed 4 none 0 := ⟨q4_207, qs47, q1_8, q4_208, ⟨rfl, by decide +kernel, by decide +kernel, by decide +kernel⟩⟩
set_option maxHeartbeats 4000000 in
set_option maxRecDepth 100000 in
theorem k_X7_shed_86 {X : JX RS} {ad : Nat → Nat} (h : OK X RX7 cX7_shed rmX7_shed) (hM : IsRef X.cI X.B ad) (hnL : X.nL = 4) {res : RS} {S : RS} {x1 : Int32} (hE : EXv X cX7_shed res) (hF : f_X7_shed_86 S x1 = some res) : J X 86 [(0, .ref (ad 7)), (1, .int x1)] [] S := by
  rw [f_X7_shed_86] at hF
  refine j_aload_n h 0 rfl rfl dX7_shed_86 ?_
  refine j_get h hM.2.1.o inX7 rfl 0 (by decide) rfl q4_24 rfl dX7_shed_87 ?_
  refine j_sipush h (v := 176) (by decide) dX7_shed_90 ?_
  refine j_iconst h (v := 3) (by decide) dX7_shed_93 ?_
  refine j_iload_n h 1 rfl rfl dX7_shed_94 ?_
  refine j_isub h dX7_shed_95 ?_
  obtain ⟨hb_4, hF⟩ := bnd_row hF
  refine ja_iast h (get := fun S => S.1) (put := setR) (hM.1 0 (by decide)) hb_4 dX7_shed_96 ?_
  refine j_letS hF (fun S_5 hF => ?_)
  cases hF
  exact hE _ _ dX7_shed_97
set_option maxHeartbeats 4000000 in
set_option maxRecDepth 100000 in
theorem k_X7_shed_51 {X : JX RS} {ad : Nat → Nat} (h : OK X RX7 cX7_shed rmX7_shed) (hM : IsRef X.cI X.B ad) (hnL : X.nL = 4) {res : RS} {S : RS} {x1 : Int32} {x2 : Int32} {x3 : Int32} {K13 : Int32 → Int32 → RS → Option (RS)} (hK13 : ∀ (x2 : Int32) (x3 : Int32) (S : RS), K13 x2 x3 S = some res → J X 13 [(0, .ref (ad 7)), (1, .int x1), (2, .int x2), (3, .int x3)] [] S) (hE : EXv X cX7_shed res) (hF : f_X7_shed_51 K13 S x1 x2 x3 = some res) : J X 51 [(0, .ref (ad 7)), (1, .int x1), (2, .int x2), (3, .int x3)] [] S := by
  rw [f_X7_shed_51] at hF
  refine j_iincL hF (fun x_16 ex_16 hF => ?_)
  refine j_iinc h hnL 3 [(3, .int x_16), (0, .ref (ad 7)), (1, .int x1), (2, .int x2)] rfl ex_16 (by decide) (by decide) rfl dX7_shed_51 ?_
  refine j_goto h 13 (by decide) dX7_shed_54 ?_
  exact j_sub [1, 2, 3, 0] rfl (hK13 _ _ _ hF)
set_option maxHeartbeats 4000000 in
set_option maxRecDepth 100000 in
theorem k_X7_shed_13 {X : JX RS} {ad : Nat → Nat} (h : OK X RX7 cX7_shed rmX7_shed) (hM : IsRef X.cI X.B ad) (hnL : X.nL = 4) {res : RS} {x1 : Int32} (hE : EXv X cX7_shed res) : ∀ (n : Nat) (x2 : Int32) (x3 : Int32) (S : RS), f_X7_shed_13 x1 n x2 x3 S = some res → J X 13 [(0, .ref (ad 7)), (1, .int x1), (2, .int x2), (3, .int x3)] [] S := by
  intro n
  induction n with
  | zero =>
    intro x2 x3 S hF
    rw [f_X7_shed_13] at hF
    cases hF
  | succ n ih =>
    intro x2 x3 S hF
    rw [f_X7_shed_13] at hF
    refine j_iload_n h 3 rfl rfl dX7_shed_13 ?_
    refine j_aload_n h 0 rfl rfl dX7_shed_14 ?_
    refine j_get h hM.2.1.o inX7 rfl 0 (by decide) rfl q4_24 rfl dX7_shed_15 ?_
    refine j_sipush h (v := 172) (by decide) dX7_shed_18 ?_
    obtain ⟨hb_3, hF⟩ := bnd_row hF
    refine ja_iald h (get := fun S => S.1) (put := setR) (hM.1 0 (by decide)) hb_3 dX7_shed_21 ?_
    refine j_icmp_ge h 57 (by decide) dX7_shed_22 hF (fun hF => ?_) (fun hF => ?_)
    · refine j_iload_n h 2 rfl rfl dX7_shed_57 ?_
      refine j_if_le h 86 (by decide) dX7_shed_58 hF (fun hF => ?_) (fun hF => ?_)
      · exact j_sub [0, 1] rfl (k_X7_shed_86 h hM hnL hE hF)
      · refine j_aload_n h 0 rfl rfl dX7_shed_61 ?_
        refine j_get h hM.2.1.o inX7 rfl 0 (by decide) rfl q4_24 rfl dX7_shed_62 ?_
        refine j_sipush h (v := 189) (by decide) dX7_shed_65 ?_
        refine j_iload_n h 1 rfl rfl dX7_shed_68 ?_
        refine j_iadd h dX7_shed_69 ?_
        refine j_dup2 h rfl rfl dX7_shed_70 ?_
        obtain ⟨hb_6, hF⟩ := bnd_row hF
        refine ja_iald h (get := fun S => S.1) (put := setR) (hM.1 0 (by decide)) hb_6 dX7_shed_71 ?_
        refine j_iconst h (v := 1) (by decide) dX7_shed_72 ?_
        refine j_iadd h dX7_shed_73 ?_
        obtain ⟨hb_7, hF⟩ := bnd_row hF
        refine ja_iast h (get := fun S => S.1) (put := setR) (hM.1 0 (by decide)) hb_7 dX7_shed_74 ?_
        refine j_letS hF (fun S_8 hF => ?_)
        refine j_aload_n h 0 rfl rfl dX7_shed_75 ?_
        refine j_get h hM.2.1.o inX7 rfl 0 (by decide) rfl q4_24 rfl dX7_shed_76 ?_
        refine j_sipush h (v := 192) (by decide) dX7_shed_79 ?_
        refine j_iload_n h 1 rfl rfl dX7_shed_82 ?_
        refine j_iadd h dX7_shed_83 ?_
        refine j_iconst h (v := 1) (by decide) dX7_shed_84 ?_
        obtain ⟨hb_9, hF⟩ := bnd_row hF
        refine ja_iast h (get := fun S => S.1) (put := setR) (hM.1 0 (by decide)) hb_9 dX7_shed_85 ?_
        refine j_letS hF (fun S_10 hF => ?_)
        exact j_sub [0, 1] rfl (k_X7_shed_86 h hM hnL hE hF)
    · refine j_aload_n h 0 rfl rfl dX7_shed_25 ?_
      refine j_iload_n h 3 rfl rfl dX7_shed_26 ?_
      refine j_iconst h (v := 0) (by decide) dX7_shed_27 ?_
      obtain ⟨r_11, hr_11, hF⟩ := bind_row hF
      refine j_callVi h (st := []) (S' := S) (c_X7_of X.l X.D X.cI X.cZ X.cV hM S x3 (0 : Int32) hr_11) rfl rfl q4_101 cw_X7_of hM.2.1.o rfl rfl rfl ⟨rfl, rfl, Nat.le_of_ble_eq_true rfl, Nat.le_of_ble_eq_true rfl⟩ _ rfl (Nat.le_of_ble_eq_true rfl) dX7_shed_28 ?_
      refine j_iload_n h 1 rfl rfl dX7_shed_31 ?_
      refine j_icmp_ne h 51 (by decide) dX7_shed_32 hF (fun hF => ?_) (fun hF => ?_)
      · refine j_iload_n h 2 rfl rfl dX7_shed_35 ?_
        refine j_aload_n h 0 rfl rfl dX7_shed_36 ?_
        refine j_get h hM.2.1.o inX7 rfl 8 (by decide) rfl q4_32 rfl dX7_shed_37 ?_
        refine j_iload_n h 3 rfl rfl dX7_shed_40 ?_
        obtain ⟨hb_12, hF⟩ := bnd_row hF
        refine ja_iald h (get := fun S => S.1) (put := setR) (hM.1 5 (by decide)) hb_12 dX7_shed_41 ?_
        refine j_iadd h dX7_shed_42 ?_
        refine j_let hF (fun x_13 hF => ?_)
        refine j_istore_n h hnL [(2, .int x_13), (0, .ref (ad 7)), (1, .int x1), (3, .int x3)] rfl (by decide) rfl dX7_shed_43 ?_
        refine j_aload_n h 1 rfl rfl dX7_shed_44 ?_
        refine j_get h hM.2.1.o inX7 rfl 8 (by decide) rfl q4_32 rfl dX7_shed_45 ?_
        refine j_iload_n h 3 rfl rfl dX7_shed_48 ?_
        refine j_iconst h (v := 0) (by decide) dX7_shed_49 ?_
        obtain ⟨hb_14, hF⟩ := bnd_row hF
        refine ja_iast h (get := fun S => S.1) (put := setR) (hM.1 5 (by decide)) hb_14 dX7_shed_50 ?_
        refine j_letS hF (fun S_15 hF => ?_)
        exact j_sub [1, 2, 0, 3] rfl (k_X7_shed_51 h hM hnL ih hE hF)
      · exact j_sub [0, 1, 2, 3] rfl (k_X7_shed_51 h hM hnL ih hE hF)
set_option maxHeartbeats 4000000 in
set_option maxRecDepth 100000 in
theorem k_X7_shed {X : JX RS} {ad : Nat → Nat} (h : OK X RX7 cX7_shed rmX7_shed) (hM : IsRef X.cI X.B ad) (hnL : X.nL = 4) {res : RS} {S : RS} (hE : EXv X cX7_shed res) (hF : f_X7_shed S = some res) : J X 0 [(0, .ref (ad 7))] [] S := by
  rw [f_X7_shed] at hF
  refine j_aload_n h 0 rfl rfl dX7_shed_0 ?_
  refine j_get h hM.2.1.o inX7 rfl 0 (by decide) rfl q4_24 rfl dX7_shed_1 ?_
  refine j_sipush h (v := 176) (by decide) dX7_shed_4 ?_
  obtain ⟨hb_1, hF⟩ := bnd_row hF
  refine ja_iald h (get := fun S => S.1) (put := setR) (hM.1 0 (by decide)) hb_1 dX7_shed_7 ?_
  refine j_let hF (fun x_2 hF => ?_)
  refine j_istore_n h hnL [(1, .int x_2), (0, .ref (ad 7))] rfl (by decide) rfl dX7_shed_8 ?_
  refine j_iconst h (v := 0) (by decide) dX7_shed_9 ?_
  refine j_istore_n h hnL [(2, .int (0 : Int32)), (1, .int x_2), (0, .ref (ad 7))] rfl (by decide) rfl dX7_shed_10 ?_
  refine j_iconst h (v := 0) (by decide) dX7_shed_11 ?_
  refine j_istore_n h hnL [(3, .int (0 : Int32)), (2, .int (0 : Int32)), (1, .int x_2), (0, .ref (ad 7))] rfl (by decide) rfl dX7_shed_12 ?_
  exact j_sub [3, 2, 1, 0] rfl (k_X7_shed_13 h hM hnL hE fuel _ _ _ hF)
theorem c_X7_shed (l : Launch) (D : va_G) (cI cZ cV : ClassId) {B : RS → va_W} {ad : Nat → Nat} (hM : IsRef cI B ad) (S : RS) {r : RS} (hF : f_X7_shed S = some r) : CTv l D (jtys cI cZ cV) yX7_shed cX7_shed 4 none rmX7_shed B [.ref (ad 7)] S r := by
  refine CTv.of [(0, .ref (ad 7))] rfl (Nat.le_of_ble_eq_true rfl) (by decide) ⟨rfl, rfl⟩ (fun X e1 e2 e3 e4 e5 e6 e7 h hE => ?_)
  subst e1; subst e2; subst e3; subst e4; subst e5; subst e6
  exact k_X7_shed h hM e7 hE hF
abbrev rmX7_serve : Room := { frames := 1, cells := 0, slots := 0, locals := 23 }
theorem cw_X7_serve : CWv RX7 yX7_serve cX7_serve 6 (some .int) 1 := ⟨q4_211, qs48, q1_8, q4_212, ⟨rfl, by decide +kernel, by decide +kernel, by decide +kernel⟩⟩
set_option maxHeartbeats 4000000 in
set_option maxRecDepth 100000 in
theorem k_X7_serve_113 {X : JX RS} {ad : Nat → Nat} (h : OK X RX7 cX7_serve rmX7_serve) (hM : IsRef X.cI X.B ad) (hnL : X.nL = 6) {res : Int32 × RS} {S : RS} {x1 : Int32} {x2 : Int32} {x3 : Int32} {x4 : Int32} {K12 : Int32 → Int32 → RS → Option (Int32 × RS)} (hK12 : ∀ (x2 : Int32) (x4 : Int32) (S : RS), K12 x2 x4 S = some res → J X 12 [(0, .ref (ad 7)), (1, .int x1), (2, .int x2), (3, .int x3), (4, .int x4)] [] S) (hE : EXi X cX7_serve res.1 res.2) (hF : f_X7_serve_113 K12 S x1 x2 x3 x4 = some res) : J X 113 [(0, .ref (ad 7)), (1, .int x1), (2, .int x2), (3, .int x3), (4, .int x4)] [] S := by
  rw [f_X7_serve_113] at hF
  refine j_iincL hF (fun x_11 ex_11 hF => ?_)
  refine j_iinc h hnL 4 [(4, .int x_11), (0, .ref (ad 7)), (1, .int x1), (2, .int x2), (3, .int x3)] rfl ex_11 (by decide) (by decide) rfl dX7_serve_113 ?_
  refine j_goto h 12 (by decide) dX7_serve_116 ?_
  exact j_sub [1, 2, 3, 4, 0] rfl (hK12 _ _ _ hF)
set_option maxHeartbeats 4000000 in
set_option maxRecDepth 100000 in
theorem k_X7_serve_82 {X : JX RS} {ad : Nat → Nat} (h : OK X RX7 cX7_serve rmX7_serve) (hM : IsRef X.cI X.B ad) (hnL : X.nL = 6) {res : Int32 × RS} {S : RS} {x1 : Int32} {x2 : Int32} {x3 : Int32} {x4 : Int32} {s0 : Int32} {K12 : Int32 → Int32 → RS → Option (Int32 × RS)} (hK12 : ∀ (x2 : Int32) (x4 : Int32) (S : RS), K12 x2 x4 S = some res → J X 12 [(0, .ref (ad 7)), (1, .int x1), (2, .int x2), (3, .int x3), (4, .int x4)] [] S) (hE : EXi X cX7_serve res.1 res.2) (hF : f_X7_serve_82 K12 S x1 x2 x3 x4 s0 = some res) : J X 82 [(0, .ref (ad 7)), (1, .int x1), (2, .int x2), (3, .int x3), (4, .int x4)] [.int s0] S := by
  rw [f_X7_serve_82] at hF
  refine j_istore h hnL [(5, .int s0), (0, .ref (ad 7)), (1, .int x1), (2, .int x2), (3, .int x3), (4, .int x4)] (by decide) rfl dX7_serve_82 ?_
  refine j_aload_n h 1 rfl rfl dX7_serve_84 ?_
  refine j_get h hM.2.1.o inX7 rfl 0 (by decide) rfl q4_24 rfl dX7_serve_85 ?_
  refine j_bipush h (v := 8) (by decide) dX7_serve_88 ?_
  refine j_iload h 5 rfl dX7_serve_90 ?_
  refine j_imul h dX7_serve_92 ?_
  refine j_iconst h (v := 5) (by decide) dX7_serve_93 ?_
  refine j_iadd h dX7_serve_94 ?_
  refine j_iload h 0 rfl dX7_serve_95 ?_
  obtain ⟨hb_7, hF⟩ := bnd_row hF
  refine ja_iast h (get := fun S => S.1) (put := setR) (hM.1 0 (by decide)) hb_7 dX7_serve_97 ?_
  refine j_letS hF (fun S_8 hF => ?_)
  refine j_aload_n h 1 rfl rfl dX7_serve_98 ?_
  refine j_iload h 5 rfl dX7_serve_99 ?_
  refine j_bipush h (v := 7) (by decide) dX7_serve_101 ?_
  refine j_iload h 0 rfl dX7_serve_103 ?_
  obtain ⟨r_9, hr_9, hF⟩ := bind_row hF
  refine j_callVv h (st := []) (S' := r_9) (c_X7_add X.l X.D X.cI X.cZ X.cV hM S_8 x4 (7 : Int32) s0 hr_9) rfl rfl q4_130 cw_X7_add hM.2.1.o rfl rfl rfl ⟨rfl, rfl, Nat.le_of_ble_eq_true rfl, Nat.le_of_ble_eq_true rfl⟩ _ rfl (Nat.le_of_ble_eq_true rfl) dX7_serve_105 ?_
  refine j_iload_n h 3 rfl rfl dX7_serve_108 ?_
  refine j_iload h 0 rfl dX7_serve_109 ?_
  refine j_isub h dX7_serve_111 ?_
  refine j_let hF (fun x_10 hF => ?_)
  refine j_istore_n h hnL [(2, .int x_10), (5, .int s0), (0, .ref (ad 7)), (1, .int x1), (3, .int x3), (4, .int x4)] rfl (by decide) rfl dX7_serve_112 ?_
  exact j_sub [2, 3, 0, 4, 5] rfl (k_X7_serve_113 h hM hnL hK12 hE hF)
set_option maxHeartbeats 4000000 in
set_option maxRecDepth 100000 in
theorem k_X7_serve_12 {X : JX RS} {ad : Nat → Nat} (h : OK X RX7 cX7_serve rmX7_serve) (hM : IsRef X.cI X.B ad) (hnL : X.nL = 6) {res : Int32 × RS} {x1 : Int32} {x3 : Int32} {K4 : Int32 → Int32 → RS → Option (Int32 × RS)} (hK4 : ∀ (x2 : Int32) (x3 : Int32) (S : RS), K4 x2 x3 S = some res → J X 4 [(0, .ref (ad 7)), (1, .int x1), (2, .int x2), (3, .int x3)] [] S) (hE : EXi X cX7_serve res.1 res.2) : ∀ (n : Nat) (x2 : Int32) (x4 : Int32) (S : RS), f_X7_serve_12 K4 x1 x3 n x2 x4 S = some res → J X 12 [(0, .ref (ad 7)), (1, .int x1), (2, .int x2), (3, .int x3), (4, .int x4)] [] S := by
  intro n
  induction n with
  | zero =>
    intro x2 x4 S hF
    rw [f_X7_serve_12] at hF
    cases hF
  | succ n ih =>
    intro x2 x4 S hF
    rw [f_X7_serve_12] at hF
    refine j_iload h 4 rfl dX7_serve_12 ?_
    refine j_aload_n h 0 rfl rfl dX7_serve_14 ?_
    refine j_get h hM.2.1.o inX7 rfl 0 (by decide) rfl q4_24 rfl dX7_serve_15 ?_
    refine j_sipush h (v := 172) (by decide) dX7_serve_18 ?_
    obtain ⟨hb_1, hF⟩ := bnd_row hF
    refine ja_iald h (get := fun S => S.1) (put := setR) (hM.1 0 (by decide)) hb_1 dX7_serve_21 ?_
    refine j_icmp_ge h 119 (by decide) dX7_serve_22 hF (fun hF => ?_) (fun hF => ?_)
    · refine j_iincL hF (fun x_2 ex_2 hF => ?_)
      refine j_iinc h hnL 3 [(3, .int x_2), (0, .ref (ad 7)), (1, .int x1), (2, .int x2), (4, .int x4)] rfl ex_2 (by decide) (by decide) rfl dX7_serve_119 ?_
      refine j_goto h 4 (by decide) dX7_serve_122 ?_
      exact j_sub [1, 2, 3, 0] rfl (hK4 _ _ _ hF)
    · refine j_aload_n h 0 rfl rfl dX7_serve_25 ?_
      refine j_iload h 4 rfl dX7_serve_26 ?_
      refine j_iconst h (v := 0) (by decide) dX7_serve_28 ?_
      obtain ⟨r_3, hr_3, hF⟩ := bind_row hF
      refine j_callVi h (st := []) (S' := S) (c_X7_of X.l X.D X.cI X.cZ X.cV hM S x4 (0 : Int32) hr_3) rfl rfl q4_101 cw_X7_of hM.2.1.o rfl rfl rfl ⟨rfl, rfl, Nat.le_of_ble_eq_true rfl, Nat.le_of_ble_eq_true rfl⟩ _ rfl (Nat.le_of_ble_eq_true rfl) dX7_serve_29 ?_
      refine j_iload_n h 3 rfl rfl dX7_serve_32 ?_
      refine j_icmp_ne h 113 (by decide) dX7_serve_33 hF (fun hF => ?_) (fun hF => ?_)
      · refine j_iload_n h 2 rfl rfl dX7_serve_36 ?_
        refine j_aload_n h 0 rfl rfl dX7_serve_37 ?_
        refine j_get h hM.2.1.o inX7 rfl 8 (by decide) rfl q4_32 rfl dX7_serve_38 ?_
        refine j_iload h 4 rfl dX7_serve_41 ?_
        obtain ⟨hb_4, hF⟩ := bnd_row hF
        refine ja_iald h (get := fun S => S.1) (put := setR) (hM.1 5 (by decide)) hb_4 dX7_serve_43 ?_
        refine j_icmp_lt h 57 (by decide) dX7_serve_44 hF (fun hF => ?_) (fun hF => ?_)
        · refine j_iload_n h 2 rfl rfl dX7_serve_57 ?_
          refine j_bipush h (v := 100) (by decide) dX7_serve_58 ?_
          refine j_imul h dX7_serve_60 ?_
          refine j_aload_n h 0 rfl rfl dX7_serve_61 ?_
          refine j_get h hM.2.1.o inX7 rfl 8 (by decide) rfl q4_32 rfl dX7_serve_62 ?_
          refine j_iload h 4 rfl dX7_serve_65 ?_
          obtain ⟨hb_5, hF⟩ := bnd_row hF
          refine ja_iald h (get := fun S => S.1) (put := setR) (hM.1 5 (by decide)) hb_5 dX7_serve_67 ?_
          refine j_aload_n h 0 rfl rfl dX7_serve_68 ?_
          refine j_iconst h (v := 3) (by decide) dX7_serve_69 ?_
          obtain ⟨r_6, hr_6, hF⟩ := bind_row hF
          refine j_callVi h (st := [.int (rd S.1 5 x4), .int (x2 * (100 : Int32))]) (S' := S) (c_X7_setting1 X.l X.D X.cI X.cZ X.cV hM S (3 : Int32) hr_6) rfl rfl q4_126 cw_X7_setting1 hM.2.1.o rfl rfl rfl ⟨rfl, rfl, Nat.le_of_ble_eq_true rfl, Nat.le_of_ble_eq_true rfl⟩ _ rfl (Nat.le_of_ble_eq_true rfl) dX7_serve_70 ?_
          refine j_imul h dX7_serve_73 ?_
          refine j_icmp_lt h 81 (by decide) dX7_serve_74 hF (fun hF => ?_) (fun hF => ?_)
          · refine j_iconst h (v := 0) (by decide) dX7_serve_81 ?_
            exact j_sub [0, 1, 2, 3, 4] rfl (k_X7_serve_82 h hM hnL ih hE hF)
          · refine j_iload_n h 2 rfl rfl dX7_serve_77 ?_
            refine j_goto h 82 (by decide) dX7_serve_78 ?_
            exact j_sub [0, 1, 2, 3, 4] rfl (k_X7_serve_82 h hM hnL ih hE hF)
        · refine j_aload_n h 0 rfl rfl dX7_serve_47 ?_
          refine j_get h hM.2.1.o inX7 rfl 8 (by decide) rfl q4_32 rfl dX7_serve_48 ?_
          refine j_iload h 4 rfl dX7_serve_51 ?_
          obtain ⟨hb_12, hF⟩ := bnd_row hF
          refine ja_iald h (get := fun S => S.1) (put := setR) (hM.1 5 (by decide)) hb_12 dX7_serve_53 ?_
          refine j_goto h 82 (by decide) dX7_serve_54 ?_
          exact j_sub [0, 1, 2, 3, 4] rfl (k_X7_serve_82 h hM hnL ih hE hF)
      · exact j_sub [0, 1, 2, 3, 4] rfl (k_X7_serve_113 h hM hnL ih hE hF)
set_option maxHeartbeats 4000000 in
set_option maxRecDepth 100000 in
theorem k_X7_serve_4 {X : JX RS} {ad : Nat → Nat} (h : OK X RX7 cX7_serve rmX7_serve) (hM : IsRef X.cI X.B ad) (hnL : X.nL = 6) {res : Int32 × RS} {x1 : Int32} (hE : EXi X cX7_serve res.1 res.2) : ∀ (n : Nat) (x2 : Int32) (x3 : Int32) (S : RS), f_X7_serve_4 x1 n x2 x3 S = some res → J X 4 [(0, .ref (ad 7)), (1, .int x1), (2, .int x2), (3, .int x3)] [] S := by
  intro n
  induction n with
  | zero =>
    intro x2 x3 S hF
    rw [f_X7_serve_4] at hF
    cases hF
  | succ n ih =>
    intro x2 x3 S hF
    rw [f_X7_serve_4] at hF
    refine j_iload_n h 3 rfl rfl dX7_serve_4 ?_
    refine j_iconst h (v := 3) (by decide) dX7_serve_5 ?_
    refine j_icmp_ge h 125 (by decide) dX7_serve_6 hF (fun hF => ?_) (fun hF => ?_)
    · refine j_iload_n h 1 rfl rfl dX7_serve_125 ?_
      refine j_iload_n h 2 rfl rfl dX7_serve_126 ?_
      refine j_isub h dX7_serve_127 ?_
      cases hF
      exact hE _ _ dX7_serve_128
    · refine j_iconst h (v := 0) (by decide) dX7_serve_9 ?_
      refine j_istore h hnL [(4, .int (0 : Int32)), (0, .ref (ad 7)), (1, .int x1), (2, .int x2), (3, .int x3)] (by decide) rfl dX7_serve_10 ?_
      exact j_sub [1, 2, 3, 4, 0] rfl (k_X7_serve_12 h hM hnL ih hE fuel _ _ _ hF)
set_option maxHeartbeats 4000000 in
set_option maxRecDepth 100000 in
theorem k_X7_serve {X : JX RS} {ad : Nat → Nat} (h : OK X RX7 cX7_serve rmX7_serve) (hM : IsRef X.cI X.B ad) (hnL : X.nL = 6) {res : Int32 × RS} {S : RS} {p1 : Int32} (hE : EXi X cX7_serve res.1 res.2) (hF : f_X7_serve S p1 = some res) : J X 0 [(0, .ref (ad 7)), (1, .int p1)] [] S := by
  rw [f_X7_serve] at hF
  refine j_iload_n h 1 rfl rfl dX7_serve_0 ?_
  refine j_istore_n h hnL [(2, .int p1), (0, .ref (ad 7)), (1, .int p1)] rfl (by decide) rfl dX7_serve_1 ?_
  refine j_iconst h (v := 0) (by decide) dX7_serve_2 ?_
  refine j_istore_n h hnL [(3, .int (0 : Int32)), (2, .int p1), (0, .ref (ad 7)), (1, .int p1)] rfl (by decide) rfl dX7_serve_3 ?_
  exact j_sub [2, 3, 1, 0] rfl (k_X7_serve_4 h hM hnL hE fuel _ _ _ hF)
theorem c_X7_serve (l : Launch) (D : va_G) (cI cZ cV : ClassId) {B : RS → va_W} {ad : Nat → Nat} (hM : IsRef cI B ad) (S : RS) (p1 : Int32) {r : Int32 × RS} (hF : f_X7_serve S p1 = some r) : CTi l D (jtys cI cZ cV) yX7_serve cX7_serve 6 (some .int) rmX7_serve B [.ref (ad 7), .int p1] S r.1 r.2 := by
  refine CTi.of [(0, .ref (ad 7)), (1, .int p1)] rfl (Nat.le_of_ble_eq_true rfl) (by decide) ⟨rfl, rfl⟩ (fun X e1 e2 e3 e4 e5 e6 e7 h hE => ?_)
  subst e1; subst e2; subst e3; subst e4; subst e5; subst e6
  exact k_X7_serve h hM e7 hE hF
abbrev rmX7_why : Room := { frames := 2, cells := 0, slots := 0, locals := 45 }
theorem cw_X7_why : CWv RX7 yX7_why cX7_why 2 (some .int) 1 := ⟨q4_215, qs49, q1_8, q4_216, ⟨rfl, by decide +kernel, by decide +kernel, by decide +kernel⟩⟩
set_option maxHeartbeats 4000000 in
set_option maxRecDepth 100000 in
theorem k_X7_why {X : JX RS} {ad : Nat → Nat} (h : OK X RX7 cX7_why rmX7_why) (hM : IsRef X.cI X.B ad) (hnL : X.nL = 2) {res : Int32} {S : RS} {p1 : Int32} (hE : EXi X cX7_why res S) (hF : f_X7_why S p1 = some res) : J X 0 [(0, .ref (ad 7)), (1, .int p1)] [] S := by
  rw [f_X7_why] at hF
  refine j_aload_n h 0 rfl rfl dX7_why_0 ?_
  refine j_iload_n h 1 rfl rfl dX7_why_1 ?_
  refine j_iconst h (v := 5) (by decide) dX7_why_2 ?_
  obtain ⟨r_1, hr_1, hF⟩ := bind_row hF
  refine j_callVi h (st := []) (S' := S) (c_X7_of X.l X.D X.cI X.cZ X.cV hM S p1 (5 : Int32) hr_1) rfl rfl q4_101 cw_X7_of hM.2.1.o rfl rfl rfl ⟨rfl, rfl, Nat.le_of_ble_eq_true rfl, Nat.le_of_ble_eq_true rfl⟩ _ rfl (Nat.le_of_ble_eq_true rfl) dX7_why_3 ?_
  refine j_aload_n h 0 rfl rfl dX7_why_6 ?_
  refine j_iload_n h 1 rfl rfl dX7_why_7 ?_
  refine j_iconst h (v := 1) (by decide) dX7_why_8 ?_
  obtain ⟨r_2, hr_2, hF⟩ := bind_row hF
  refine j_callVi h (st := [.int r_1]) (S' := S) (c_X7_of X.l X.D X.cI X.cZ X.cV hM S p1 (1 : Int32) hr_2) rfl rfl q4_101 cw_X7_of hM.2.1.o rfl rfl rfl ⟨rfl, rfl, Nat.le_of_ble_eq_true rfl, Nat.le_of_ble_eq_true rfl⟩ _ rfl (Nat.le_of_ble_eq_true rfl) dX7_why_9 ?_
  refine j_icmp_ne h 17 (by decide) dX7_why_12 hF (fun hF => ?_) (fun hF => ?_)
  · refine j_iconst h (v := 0) (by decide) dX7_why_15 ?_
    cases hF
    exact hE _ _ dX7_why_16
  · refine j_aload_n h 0 rfl rfl dX7_why_17 ?_
    refine j_iload_n h 1 rfl rfl dX7_why_18 ?_
    refine j_iconst h (v := 3) (by decide) dX7_why_19 ?_
    obtain ⟨r_3, hr_3, hF⟩ := bind_row hF
    refine j_callVi h (st := []) (S' := S) (c_X7_of X.l X.D X.cI X.cZ X.cV hM S p1 (3 : Int32) hr_3) rfl rfl q4_101 cw_X7_of hM.2.1.o rfl rfl rfl ⟨rfl, rfl, Nat.le_of_ble_eq_true rfl, Nat.le_of_ble_eq_true rfl⟩ _ rfl (Nat.le_of_ble_eq_true rfl) dX7_why_20 ?_
    refine j_if_ne h 28 (by decide) dX7_why_23 hF (fun hF => ?_) (fun hF => ?_)
    · refine j_iconst h (v := 1) (by decide) dX7_why_26 ?_
      cases hF
      exact hE _ _ dX7_why_27
    · refine j_aload_n h 0 rfl rfl dX7_why_28 ?_
      refine j_iload_n h 1 rfl rfl dX7_why_29 ?_
      obtain ⟨r_4, hr_4, hF⟩ := bind_row hF
      refine j_callVi h (st := []) (S' := S) (c_X7_canDraw X.l X.D X.cI X.cZ X.cV hM S p1 hr_4) rfl rfl q4_197 cw_X7_canDraw hM.2.1.o rfl rfl rfl ⟨rfl, rfl, Nat.le_of_ble_eq_true rfl, Nat.le_of_ble_eq_true rfl⟩ _ rfl (Nat.le_of_ble_eq_true rfl) dX7_why_30 ?_
      refine j_aload_n h 0 rfl rfl dX7_why_33 ?_
      refine j_iload_n h 1 rfl rfl dX7_why_34 ?_
      refine j_iconst h (v := 1) (by decide) dX7_why_35 ?_
      obtain ⟨r_5, hr_5, hF⟩ := bind_row hF
      refine j_callVi h (st := [.int r_4]) (S' := S) (c_X7_of X.l X.D X.cI X.cZ X.cV hM S p1 (1 : Int32) hr_5) rfl rfl q4_101 cw_X7_of hM.2.1.o rfl rfl rfl ⟨rfl, rfl, Nat.le_of_ble_eq_true rfl, Nat.le_of_ble_eq_true rfl⟩ _ rfl (Nat.le_of_ble_eq_true rfl) dX7_why_36 ?_
      refine j_icmp_ge h 46 (by decide) dX7_why_39 hF (fun hF => ?_) (fun hF => ?_)
      · refine j_aload_n h 0 rfl rfl dX7_why_46 ?_
        refine j_get h hM.2.1.o inX7 rfl 0 (by decide) rfl q4_24 rfl dX7_why_47 ?_
        refine j_sipush h (v := 192) (by decide) dX7_why_50 ?_
        refine j_aload_n h 0 rfl rfl dX7_why_53 ?_
        refine j_iload_n h 1 rfl rfl dX7_why_54 ?_
        refine j_iconst h (v := 0) (by decide) dX7_why_55 ?_
        obtain ⟨r_6, hr_6, hF⟩ := bind_row hF
        refine j_callVi h (st := [.int (192 : Int32), .ref (ad 0)]) (S' := S) (c_X7_of X.l X.D X.cI X.cZ X.cV hM S p1 (0 : Int32) hr_6) rfl rfl q4_101 cw_X7_of hM.2.1.o rfl rfl rfl ⟨rfl, rfl, Nat.le_of_ble_eq_true rfl, Nat.le_of_ble_eq_true rfl⟩ _ rfl (Nat.le_of_ble_eq_true rfl) dX7_why_56 ?_
        refine j_iadd h dX7_why_59 ?_
        obtain ⟨hb_7, hF⟩ := bnd_row hF
        refine ja_iald h (get := fun S => S.1) (put := setR) (hM.1 0 (by decide)) hb_7 dX7_why_60 ?_
        refine j_iconst h (v := 1) (by decide) dX7_why_61 ?_
        refine j_icmp_ne h 69 (by decide) dX7_why_62 hF (fun hF => ?_) (fun hF => ?_)
        · refine j_iconst h (v := 3) (by decide) dX7_why_65 ?_
          refine j_goto h 70 (by decide) dX7_why_66 ?_
          cases hF
          exact hE _ _ dX7_why_70
        · refine j_iconst h (v := 4) (by decide) dX7_why_69 ?_
          cases hF
          exact hE _ _ dX7_why_70
      · refine j_iconst h (v := 2) (by decide) dX7_why_42 ?_
        refine j_goto h 70 (by decide) dX7_why_43 ?_
        cases hF
        exact hE _ _ dX7_why_70
theorem c_X7_why (l : Launch) (D : va_G) (cI cZ cV : ClassId) {B : RS → va_W} {ad : Nat → Nat} (hM : IsRef cI B ad) (S : RS) (p1 : Int32) {r : Int32} (hF : f_X7_why S p1 = some r) : CTi l D (jtys cI cZ cV) yX7_why cX7_why 2 (some .int) rmX7_why B [.ref (ad 7), .int p1] S r S := by
  refine CTi.of [(0, .ref (ad 7)), (1, .int p1)] rfl (Nat.le_of_ble_eq_true rfl) (by decide) ⟨rfl, rfl⟩ (fun X e1 e2 e3 e4 e5 e6 e7 h hE => ?_)
  subst e1; subst e2; subst e3; subst e4; subst e5; subst e6
  exact k_X7_why h hM e7 hE hF
abbrev rmX7_take : Room := { frames := 2, cells := 0, slots := 0, locals := 43 }
theorem cw_X7_take : CWv RX7 yX7_take cX7_take 5 none 1 := ⟨q4_219, qs50, q1_8, q4_220, ⟨rfl, by decide +kernel, by decide +kernel, by decide +kernel⟩⟩
set_option maxHeartbeats 4000000 in
set_option maxRecDepth 100000 in
theorem k_X7_take_27 {X : JX RS} {ad : Nat → Nat} (h : OK X RX7 cX7_take rmX7_take) (hM : IsRef X.cI X.B ad) (hnL : X.nL = 5) {res : RS} {S : RS} {x2 : Int32} {x3 : Int32} {s0 : Int32} {K4 : Int32 → Int32 → RS → Option (RS)} (hK4 : ∀ (x2 : Int32) (x3 : Int32) (S : RS), K4 x2 x3 S = some res → J X 4 [(0, .ref (ad 7)), (2, .int x2), (3, .int x3)] [] S) (hE : EXv X cX7_take res) (hF : f_X7_take_27 K4 S x2 x3 s0 = some res) : J X 27 [(0, .ref (ad 7)), (2, .int x2), (3, .int x3)] [.int s0] S := by
  rw [f_X7_take_27] at hF
  refine j_istore h hnL [(4, .int s0), (0, .ref (ad 7)), (2, .int x2), (3, .int x3)] (by decide) rfl dX7_take_27 ?_
  refine j_aload_n h 1 rfl rfl dX7_take_29 ?_
  refine j_get h hM.2.1.o inX7 rfl 0 (by decide) rfl q4_24 rfl dX7_take_30 ?_
  refine j_bipush h (v := 116) (by decide) dX7_take_33 ?_
  refine j_iconst h (v := 4) (by decide) dX7_take_35 ?_
  refine j_iload_n h 3 rfl rfl dX7_take_36 ?_
  refine j_imul h dX7_take_37 ?_
  refine j_iadd h dX7_take_38 ?_
  refine j_iconst h (v := 3) (by decide) dX7_take_39 ?_
  refine j_iadd h dX7_take_40 ?_
  refine j_dup2 h rfl rfl dX7_take_41 ?_
  obtain ⟨hb_2, hF⟩ := bnd_row hF
  refine ja_iald h (get := fun S => S.1) (put := setR) (hM.1 0 (by decide)) hb_2 dX7_take_42 ?_
  refine j_iload h 0 rfl dX7_take_43 ?_
  refine j_isub h dX7_take_45 ?_
  obtain ⟨hb_3, hF⟩ := bnd_row hF
  refine ja_iast h (get := fun S => S.1) (put := setR) (hM.1 0 (by decide)) hb_3 dX7_take_46 ?_
  refine j_letS hF (fun S_4 hF => ?_)
  refine j_iload_n h 2 rfl rfl dX7_take_47 ?_
  refine j_iload h 0 rfl dX7_take_48 ?_
  refine j_isub h dX7_take_50 ?_
  refine j_let hF (fun x_5 hF => ?_)
  refine j_istore_n h hnL [(2, .int x_5), (4, .int s0), (0, .ref (ad 7)), (3, .int x3)] rfl (by decide) rfl dX7_take_51 ?_
  refine j_iincL hF (fun x_6 ex_6 hF => ?_)
  refine j_iinc h hnL 3 [(3, .int x_6), (2, .int x_5), (4, .int s0), (0, .ref (ad 7))] rfl ex_6 (by decide) (by decide) rfl dX7_take_52 ?_
  refine j_goto h 4 (by decide) dX7_take_55 ?_
  exact j_sub [3, 1, 0] rfl (hK4 _ _ _ hF)
set_option maxHeartbeats 4000000 in
set_option maxRecDepth 100000 in
theorem k_X7_take_4 {X : JX RS} {ad : Nat → Nat} (h : OK X RX7 cX7_take rmX7_take) (hM : IsRef X.cI X.B ad) (hnL : X.nL = 5) {res : RS} (hE : EXv X cX7_take res) : ∀ (n : Nat) (x2 : Int32) (x3 : Int32) (S : RS), f_X7_take_4 n x2 x3 S = some res → J X 4 [(0, .ref (ad 7)), (2, .int x2), (3, .int x3)] [] S := by
  intro n
  induction n with
  | zero =>
    intro x2 x3 S hF
    rw [f_X7_take_4] at hF
    cases hF
  | succ n ih =>
    intro x2 x3 S hF
    rw [f_X7_take_4] at hF
    refine j_iload_n h 2 rfl rfl dX7_take_4 ?_
    refine j_iconst h (v := 2) (by decide) dX7_take_5 ?_
    refine j_icmp_ge h 58 (by decide) dX7_take_6 hF (fun hF => ?_) (fun hF => ?_)
    · cases hF
      exact hE _ _ dX7_take_58
    · refine j_aload_n h 0 rfl rfl dX7_take_9 ?_
      refine j_iload_n h 2 rfl rfl dX7_take_10 ?_
      obtain ⟨r_1, hr_1, hF⟩ := bind_row hF
      refine j_callVi h (st := []) (S' := S) (c_X7_canGive X.l X.D X.cI X.cZ X.cV hM S x3 hr_1) rfl rfl q4_189 cw_X7_canGive hM.2.1.o rfl rfl rfl ⟨rfl, rfl, Nat.le_of_ble_eq_true rfl, Nat.le_of_ble_eq_true rfl⟩ _ rfl (Nat.le_of_ble_eq_true rfl) dX7_take_11 ?_
      refine j_iload_n h 1 rfl rfl dX7_take_14 ?_
      refine j_icmp_ge h 26 (by decide) dX7_take_15 hF (fun hF => ?_) (fun hF => ?_)
      · refine j_iload_n h 1 rfl rfl dX7_take_26 ?_
        exact j_sub [0, 1, 2] rfl (k_X7_take_27 h hM hnL ih hE hF)
      · refine j_aload_n h 0 rfl rfl dX7_take_18 ?_
        refine j_iload_n h 2 rfl rfl dX7_take_19 ?_
        obtain ⟨r_7, hr_7, hF⟩ := bind_row hF
        refine j_callVi h (st := []) (S' := S) (c_X7_canGive X.l X.D X.cI X.cZ X.cV hM S x3 hr_7) rfl rfl q4_189 cw_X7_canGive hM.2.1.o rfl rfl rfl ⟨rfl, rfl, Nat.le_of_ble_eq_true rfl, Nat.le_of_ble_eq_true rfl⟩ _ rfl (Nat.le_of_ble_eq_true rfl) dX7_take_20 ?_
        refine j_goto h 27 (by decide) dX7_take_23 ?_
        exact j_sub [0, 1, 2] rfl (k_X7_take_27 h hM hnL ih hE hF)
set_option maxHeartbeats 4000000 in
set_option maxRecDepth 100000 in
theorem k_X7_take {X : JX RS} {ad : Nat → Nat} (h : OK X RX7 cX7_take rmX7_take) (hM : IsRef X.cI X.B ad) (hnL : X.nL = 5) {res : RS} {S : RS} {p1 : Int32} (hE : EXv X cX7_take res) (hF : f_X7_take S p1 = some res) : J X 0 [(0, .ref (ad 7)), (1, .int p1)] [] S := by
  rw [f_X7_take] at hF
  refine j_iload_n h 1 rfl rfl dX7_take_0 ?_
  refine j_istore_n h hnL [(2, .int p1), (0, .ref (ad 7)), (1, .int p1)] rfl (by decide) rfl dX7_take_1 ?_
  refine j_iconst h (v := 0) (by decide) dX7_take_2 ?_
  refine j_istore_n h hnL [(3, .int (0 : Int32)), (2, .int p1), (0, .ref (ad 7)), (1, .int p1)] rfl (by decide) rfl dX7_take_3 ?_
  exact j_sub [2, 1, 0] rfl (k_X7_take_4 h hM hnL hE fuel _ _ _ hF)
theorem c_X7_take (l : Launch) (D : va_G) (cI cZ cV : ClassId) {B : RS → va_W} {ad : Nat → Nat} (hM : IsRef cI B ad) (S : RS) (p1 : Int32) {r : RS} (hF : f_X7_take S p1 = some r) : CTv l D (jtys cI cZ cV) yX7_take cX7_take 5 none rmX7_take B [.ref (ad 7), .int p1] S r := by
  refine CTv.of [(0, .ref (ad 7)), (1, .int p1)] rfl (Nat.le_of_ble_eq_true rfl) (by decide) ⟨rfl, rfl⟩ (fun X e1 e2 e3 e4 e5 e6 e7 h hE => ?_)
  subst e1; subst e2; subst e3; subst e4; subst e5; subst e6
  exact k_X7_take h hM e7 hE hF
abbrev rmX7_charge : Room := { frames := 1, cells := 0, slots := 0, locals := 22 }
theorem cw_X7_charge : CWv RX7 yX7_charge cX7_charge 6 none 1 := ⟨q4_223, qs51, q1_8, q4_224, ⟨rfl, by decide +kernel, by decide +kernel, by decide +kernel⟩⟩
set_option maxHeartbeats 4000000 in
set_option maxRecDepth 100000 in
theorem k_X7_charge_31 {X : JX RS} {ad : Nat → Nat} (h : OK X RX7 cX7_charge rmX7_charge) (hM : IsRef X.cI X.B ad) (hnL : X.nL = 6) {res : RS} {S : RS} {x2 : Int32} {x3 : Int32} {K4 : Int32 → Int32 → RS → Option (RS)} (hK4 : ∀ (x2 : Int32) (x3 : Int32) (S : RS), K4 x2 x3 S = some res → J X 4 [(0, .ref (ad 7)), (2, .int x2), (3, .int x3)] [] S) (hE : EXv X cX7_charge res) : ∀ (n : Nat) (x4 : Int32), f_X7_charge_31 K4 S x2 x3 n x4 = some res → J X 31 [(0, .ref (ad 7)), (2, .int x2), (3, .int x3), (4, .int x4)] [] S := by
  intro n
  induction n with
  | zero =>
    intro x4 hF
    rw [f_X7_charge_31] at hF
    cases hF
  | succ n ih =>
    intro x4 hF
    rw [f_X7_charge_31] at hF
    refine j_aload_n h 0 rfl rfl dX7_charge_31 ?_
    refine j_iload_n h 2 rfl rfl dX7_charge_32 ?_
    refine j_iconst h (v := 3) (by decide) dX7_charge_33 ?_
    obtain ⟨r_5, hr_5, hF⟩ := bind_row hF
    refine j_callVi h (st := []) (S' := S) (c_X7_cell X.l X.D X.cI X.cZ X.cV hM S x3 (3 : Int32) hr_5) rfl rfl q4_193 cw_X7_cell hM.2.1.o rfl rfl rfl ⟨rfl, rfl, Nat.le_of_ble_eq_true rfl, Nat.le_of_ble_eq_true rfl⟩ _ rfl (Nat.le_of_ble_eq_true rfl) dX7_charge_34 ?_
    refine j_iload h 3 rfl dX7_charge_37 ?_
    refine j_aload_n h 0 rfl rfl dX7_charge_39 ?_
    refine j_iload_n h 2 rfl rfl dX7_charge_40 ?_
    refine j_iconst h (v := 2) (by decide) dX7_charge_41 ?_
    obtain ⟨r_6, hr_6, hF⟩ := bind_row hF
    refine j_callVi h (st := [.int x4, .int r_5]) (S' := S) (c_X7_cell X.l X.D X.cI X.cZ X.cV hM S x3 (2 : Int32) hr_6) rfl rfl q4_193 cw_X7_cell hM.2.1.o rfl rfl rfl ⟨rfl, rfl, Nat.le_of_ble_eq_true rfl, Nat.le_of_ble_eq_true rfl⟩ _ rfl (Nat.le_of_ble_eq_true rfl) dX7_charge_42 ?_
    refine j_imul h dX7_charge_45 ?_
    refine j_bipush h (v := 100) (by decide) dX7_charge_46 ?_
    refine j_idiv h (by decide) dX7_charge_48 ?_
    refine j_iadd h dX7_charge_49 ?_
    refine j_aload_n h 0 rfl rfl dX7_charge_50 ?_
    refine j_iload_n h 2 rfl rfl dX7_charge_51 ?_
    refine j_iconst h (v := 0) (by decide) dX7_charge_52 ?_
    obtain ⟨r_7, hr_7, hF⟩ := bind_row hF
    refine j_callVi h (st := [.int (r_5 + ((x4 * r_6) / (100 : Int32)))]) (S' := S) (c_X7_cell X.l X.D X.cI X.cZ X.cV hM S x3 (0 : Int32) hr_7) rfl rfl q4_193 cw_X7_cell hM.2.1.o rfl rfl rfl ⟨rfl, rfl, Nat.le_of_ble_eq_true rfl, Nat.le_of_ble_eq_true rfl⟩ _ rfl (Nat.le_of_ble_eq_true rfl) dX7_charge_53 ?_
    refine j_icmp_le h 65 (by decide) dX7_charge_56 hF (fun hF => ?_) (fun hF => ?_)
    · refine j_iload h 3 rfl dX7_charge_65 ?_
      refine j_aload_n h 0 rfl rfl dX7_charge_67 ?_
      refine j_iload_n h 2 rfl rfl dX7_charge_68 ?_
      refine j_iconst h (v := 2) (by decide) dX7_charge_69 ?_
      obtain ⟨r_8, hr_8, hF⟩ := bind_row hF
      refine j_callVi h (st := [.int x4]) (S' := S) (c_X7_cell X.l X.D X.cI X.cZ X.cV hM S x3 (2 : Int32) hr_8) rfl rfl q4_193 cw_X7_cell hM.2.1.o rfl rfl rfl ⟨rfl, rfl, Nat.le_of_ble_eq_true rfl, Nat.le_of_ble_eq_true rfl⟩ _ rfl (Nat.le_of_ble_eq_true rfl) dX7_charge_70 ?_
      refine j_imul h dX7_charge_73 ?_
      refine j_bipush h (v := 100) (by decide) dX7_charge_74 ?_
      refine j_idiv h (by decide) dX7_charge_76 ?_
      refine j_let hF (fun x_9 hF => ?_)
      refine j_istore h hnL [(5, .int x_9), (0, .ref (ad 7)), (2, .int x2), (3, .int x3), (4, .int x4)] (by decide) rfl dX7_charge_77 ?_
      refine j_aload_n h 1 rfl rfl dX7_charge_79 ?_
      refine j_get h hM.2.1.o inX7 rfl 0 (by decide) rfl q4_24 rfl dX7_charge_80 ?_
      refine j_bipush h (v := 116) (by decide) dX7_charge_83 ?_
      refine j_iconst h (v := 4) (by decide) dX7_charge_85 ?_
      refine j_iload_n h 3 rfl rfl dX7_charge_86 ?_
      refine j_imul h dX7_charge_87 ?_
      refine j_iadd h dX7_charge_88 ?_
      refine j_iconst h (v := 3) (by decide) dX7_charge_89 ?_
      refine j_iadd h dX7_charge_90 ?_
      refine j_dup2 h rfl rfl dX7_charge_91 ?_
      obtain ⟨hb_10, hF⟩ := bnd_row hF
      refine ja_iald h (get := fun S => S.1) (put := setR) (hM.1 0 (by decide)) hb_10 dX7_charge_92 ?_
      refine j_iload h 0 rfl dX7_charge_93 ?_
      refine j_iadd h dX7_charge_95 ?_
      obtain ⟨hb_11, hF⟩ := bnd_row hF
      refine ja_iast h (get := fun S => S.1) (put := setR) (hM.1 0 (by decide)) hb_11 dX7_charge_96 ?_
      refine j_letS hF (fun S_12 hF => ?_)
      refine j_aload_n h 1 rfl rfl dX7_charge_97 ?_
      refine j_get h hM.2.1.o inX7 rfl 0 (by decide) rfl q4_24 rfl dX7_charge_98 ?_
      refine j_sipush h (v := 183) (by decide) dX7_charge_101 ?_
      refine j_dup2 h rfl rfl dX7_charge_104 ?_
      obtain ⟨hb_13, hF⟩ := bnd_row hF
      refine ja_iald h (get := fun S => S.1) (put := setR) (hM.1 0 (by decide)) hb_13 dX7_charge_105 ?_
      refine j_iload h 4 rfl dX7_charge_106 ?_
      refine j_iload h 0 rfl dX7_charge_108 ?_
      refine j_isub h dX7_charge_110 ?_
      refine j_iadd h dX7_charge_111 ?_
      obtain ⟨hb_14, hF⟩ := bnd_row hF
      refine ja_iast h (get := fun S => S.1) (put := setR) (hM.1 0 (by decide)) hb_14 dX7_charge_112 ?_
      refine j_letS hF (fun S_15 hF => ?_)
      refine j_iload_n h 2 rfl rfl dX7_charge_113 ?_
      refine j_iload h 4 rfl dX7_charge_114 ?_
      refine j_isub h dX7_charge_116 ?_
      refine j_let hF (fun x_16 hF => ?_)
      refine j_istore_n h hnL [(2, .int x_16), (5, .int x_9), (0, .ref (ad 7)), (3, .int x3), (4, .int x4)] rfl (by decide) rfl dX7_charge_117 ?_
      refine j_iincL hF (fun x_17 ex_17 hF => ?_)
      refine j_iinc h hnL 3 [(3, .int x_17), (2, .int x_16), (5, .int x_9), (0, .ref (ad 7)), (4, .int x4)] rfl ex_17 (by decide) (by decide) rfl dX7_charge_118 ?_
      refine j_goto h 4 (by decide) dX7_charge_121 ?_
      exact j_sub [3, 1, 0] rfl (hK4 _ _ _ hF)
    · refine j_iincL hF (fun x_18 ex_18 hF => ?_)
      refine j_iinc h hnL 3 [(4, .int x_18), (0, .ref (ad 7)), (2, .int x2), (3, .int x3)] rfl ex_18 (by decide) (by decide) rfl dX7_charge_59 ?_
      refine j_goto h 31 (by decide) dX7_charge_62 ?_
      exact j_sub [1, 2, 3, 0] rfl (ih _ hF)
set_option maxHeartbeats 4000000 in
set_option maxRecDepth 100000 in
theorem k_X7_charge_29 {X : JX RS} {ad : Nat → Nat} (h : OK X RX7 cX7_charge rmX7_charge) (hM : IsRef X.cI X.B ad) (hnL : X.nL = 6) {res : RS} {S : RS} {x2 : Int32} {x3 : Int32} {s0 : Int32} {K4 : Int32 → Int32 → RS → Option (RS)} (hK4 : ∀ (x2 : Int32) (x3 : Int32) (S : RS), K4 x2 x3 S = some res → J X 4 [(0, .ref (ad 7)), (2, .int x2), (3, .int x3)] [] S) (hE : EXv X cX7_charge res) (hF : f_X7_charge_29 K4 S x2 x3 s0 = some res) : J X 29 [(0, .ref (ad 7)), (2, .int x2), (3, .int x3)] [.int s0] S := by
  rw [f_X7_charge_29] at hF
  refine j_istore h hnL [(4, .int s0), (0, .ref (ad 7)), (2, .int x2), (3, .int x3)] (by decide) rfl dX7_charge_29 ?_
  exact j_sub [1, 2, 3, 0] rfl (k_X7_charge_31 h hM hnL hK4 hE fuel _ hF)
set_option maxHeartbeats 4000000 in
set_option maxRecDepth 100000 in
theorem k_X7_charge_4 {X : JX RS} {ad : Nat → Nat} (h : OK X RX7 cX7_charge rmX7_charge) (hM : IsRef X.cI X.B ad) (hnL : X.nL = 6) {res : RS} (hE : EXv X cX7_charge res) : ∀ (n : Nat) (x2 : Int32) (x3 : Int32) (S : RS), f_X7_charge_4 n x2 x3 S = some res → J X 4 [(0, .ref (ad 7)), (2, .int x2), (3, .int x3)] [] S := by
  intro n
  induction n with
  | zero =>
    intro x2 x3 S hF
    rw [f_X7_charge_4] at hF
    cases hF
  | succ n ih =>
    intro x2 x3 S hF
    rw [f_X7_charge_4] at hF
    refine j_iload_n h 2 rfl rfl dX7_charge_4 ?_
    refine j_iconst h (v := 2) (by decide) dX7_charge_5 ?_
    refine j_icmp_ge h 124 (by decide) dX7_charge_6 hF (fun hF => ?_) (fun hF => ?_)
    · refine j_aload_n h 0 rfl rfl dX7_charge_124 ?_
      refine j_get h hM.2.1.o inX7 rfl 0 (by decide) rfl q4_24 rfl dX7_charge_125 ?_
      refine j_sipush h (v := 184) (by decide) dX7_charge_128 ?_
      refine j_dup2 h rfl rfl dX7_charge_131 ?_
      obtain ⟨hb_1, hF⟩ := bnd_row hF
      refine ja_iald h (get := fun S => S.1) (put := setR) (hM.1 0 (by decide)) hb_1 dX7_charge_132 ?_
      refine j_iload_n h 1 rfl rfl dX7_charge_133 ?_
      refine j_iadd h dX7_charge_134 ?_
      obtain ⟨hb_2, hF⟩ := bnd_row hF
      refine ja_iast h (get := fun S => S.1) (put := setR) (hM.1 0 (by decide)) hb_2 dX7_charge_135 ?_
      refine j_letS hF (fun S_3 hF => ?_)
      cases hF
      exact hE _ _ dX7_charge_136
    · refine j_aload_n h 0 rfl rfl dX7_charge_9 ?_
      refine j_iload_n h 2 rfl rfl dX7_charge_10 ?_
      refine j_iconst h (v := 1) (by decide) dX7_charge_11 ?_
      obtain ⟨r_4, hr_4, hF⟩ := bind_row hF
      refine j_callVi h (st := []) (S' := S) (c_X7_cell X.l X.D X.cI X.cZ X.cV hM S x3 (1 : Int32) hr_4) rfl rfl q4_193 cw_X7_cell hM.2.1.o rfl rfl rfl ⟨rfl, rfl, Nat.le_of_ble_eq_true rfl, Nat.le_of_ble_eq_true rfl⟩ _ rfl (Nat.le_of_ble_eq_true rfl) dX7_charge_12 ?_
      refine j_iload_n h 1 rfl rfl dX7_charge_15 ?_
      refine j_icmp_ge h 28 (by decide) dX7_charge_16 hF (fun hF => ?_) (fun hF => ?_)
      · refine j_iload_n h 1 rfl rfl dX7_charge_28 ?_
        exact j_sub [0, 1, 2] rfl (k_X7_charge_29 h hM hnL ih hE hF)
      · refine j_aload_n h 0 rfl rfl dX7_charge_19 ?_
        refine j_iload_n h 2 rfl rfl dX7_charge_20 ?_
        refine j_iconst h (v := 1) (by decide) dX7_charge_21 ?_
        obtain ⟨r_19, hr_19, hF⟩ := bind_row hF
        refine j_callVi h (st := []) (S' := S) (c_X7_cell X.l X.D X.cI X.cZ X.cV hM S x3 (1 : Int32) hr_19) rfl rfl q4_193 cw_X7_cell hM.2.1.o rfl rfl rfl ⟨rfl, rfl, Nat.le_of_ble_eq_true rfl, Nat.le_of_ble_eq_true rfl⟩ _ rfl (Nat.le_of_ble_eq_true rfl) dX7_charge_22 ?_
        refine j_goto h 29 (by decide) dX7_charge_25 ?_
        exact j_sub [0, 1, 2] rfl (k_X7_charge_29 h hM hnL ih hE hF)
set_option maxHeartbeats 4000000 in
set_option maxRecDepth 100000 in
theorem k_X7_charge {X : JX RS} {ad : Nat → Nat} (h : OK X RX7 cX7_charge rmX7_charge) (hM : IsRef X.cI X.B ad) (hnL : X.nL = 6) {res : RS} {S : RS} {p1 : Int32} (hE : EXv X cX7_charge res) (hF : f_X7_charge S p1 = some res) : J X 0 [(0, .ref (ad 7)), (1, .int p1)] [] S := by
  rw [f_X7_charge] at hF
  refine j_iload_n h 1 rfl rfl dX7_charge_0 ?_
  refine j_istore_n h hnL [(2, .int p1), (0, .ref (ad 7)), (1, .int p1)] rfl (by decide) rfl dX7_charge_1 ?_
  refine j_iconst h (v := 0) (by decide) dX7_charge_2 ?_
  refine j_istore_n h hnL [(3, .int (0 : Int32)), (2, .int p1), (0, .ref (ad 7)), (1, .int p1)] rfl (by decide) rfl dX7_charge_3 ?_
  exact j_sub [2, 1, 0] rfl (k_X7_charge_4 h hM hnL hE fuel _ _ _ hF)
theorem c_X7_charge (l : Launch) (D : va_G) (cI cZ cV : ClassId) {B : RS → va_W} {ad : Nat → Nat} (hM : IsRef cI B ad) (S : RS) (p1 : Int32) {r : RS} (hF : f_X7_charge S p1 = some r) : CTv l D (jtys cI cZ cV) yX7_charge cX7_charge 6 none rmX7_charge B [.ref (ad 7), .int p1] S r := by
  refine CTv.of [(0, .ref (ad 7)), (1, .int p1)] rfl (Nat.le_of_ble_eq_true rfl) (by decide) ⟨rfl, rfl⟩ (fun X e1 e2 e3 e4 e5 e6 e7 h hE => ?_)
  subst e1; subst e2; subst e3; subst e4; subst e5; subst e6
  exact k_X7_charge h hM e7 hE hF
abbrev rmX7_supplyAt : Room := { frames := 0, cells := 0, slots := 0, locals := 0 }
theorem cw_X7_supplyAt : CWv RX7 yX7_supplyAt cX7_supplyAt 2 (some .int) 1 := ⟨q4_187, qs42, q1_8, q4_188, ⟨rfl, by decide +kernel, by decide +kernel, by decide +kernel⟩⟩
set_option maxHeartbeats 4000000 in
set_option maxRecDepth 100000 in
theorem k_X7_supplyAt {X : JX RS} {ad : Nat → Nat} (h : OK X RX7 cX7_supplyAt rmX7_supplyAt) (hM : IsRef X.cI X.B ad) (hnL : X.nL = 2) {res : Int32} {S : RS} {p1 : Int32} (hE : EXi X cX7_supplyAt res S) (hF : f_X7_supplyAt S p1 = some res) : J X 0 [(0, .ref (ad 7)), (1, .int p1)] [] S := by
  rw [f_X7_supplyAt] at hF
  refine j_aload_n h 0 rfl rfl dX7_supplyAt_0 ?_
  refine j_get h hM.2.1.o inX7 rfl 0 (by decide) rfl q4_24 rfl dX7_supplyAt_1 ?_
  refine j_bipush h (v := 124) (by decide) dX7_supplyAt_4 ?_
  refine j_iload_n h 1 rfl rfl dX7_supplyAt_6 ?_
  refine j_aload_n h 0 rfl rfl dX7_supplyAt_7 ?_
  refine j_get h hM.2.1.o inX7 rfl 0 (by decide) rfl q4_24 rfl dX7_supplyAt_8 ?_
  refine j_sipush h (v := 175) (by decide) dX7_supplyAt_11 ?_
  obtain ⟨hb_1, hF⟩ := bnd_row hF
  refine ja_iald h (get := fun S => S.1) (put := setR) (hM.1 0 (by decide)) hb_1 dX7_supplyAt_14 ?_
  obtain ⟨hb_2, hF⟩ := bnd_row hF
  refine j_irem h (nz_v hb_2) dX7_supplyAt_15 ?_
  refine j_iadd h dX7_supplyAt_16 ?_
  obtain ⟨hb_3, hF⟩ := bnd_row hF
  refine ja_iald h (get := fun S => S.1) (put := setR) (hM.1 0 (by decide)) hb_3 dX7_supplyAt_17 ?_
  cases hF
  exact hE _ _ dX7_supplyAt_18
theorem c_X7_supplyAt (l : Launch) (D : va_G) (cI cZ cV : ClassId) {B : RS → va_W} {ad : Nat → Nat} (hM : IsRef cI B ad) (S : RS) (p1 : Int32) {r : Int32} (hF : f_X7_supplyAt S p1 = some r) : CTi l D (jtys cI cZ cV) yX7_supplyAt cX7_supplyAt 2 (some .int) rmX7_supplyAt B [.ref (ad 7), .int p1] S r S := by
  refine CTi.of [(0, .ref (ad 7)), (1, .int p1)] rfl (Nat.le_of_ble_eq_true rfl) (by decide) ⟨rfl, rfl⟩ (fun X e1 e2 e3 e4 e5 e6 e7 h hE => ?_)
  subst e1; subst e2; subst e3; subst e4; subst e5; subst e6
  exact k_X7_supplyAt h hM e7 hE hF
abbrev rmX7_pass : Room := { frames := 3, cells := 0, slots := 0, locals := 67 }
theorem cw_X7_pass : CWv RX7 yX7_pass cX7_pass 5 none 0 := ⟨q4_183, qs41, q1_8, q4_184, ⟨rfl, by decide +kernel, by decide +kernel, by decide +kernel⟩⟩
set_option maxHeartbeats 4000000 in
set_option maxRecDepth 100000 in
theorem k_X7_pass_213 {X : JX RS} {ad : Nat → Nat} (h : OK X RX7 cX7_pass rmX7_pass) (hM : IsRef X.cI X.B ad) (hnL : X.nL = 5) {res : RS} {S : RS} {x1 : Int32} {x3 : Int32} (hE : EXv X cX7_pass res) (hF : f_X7_pass_213 S x1 x3 = some res) : J X 213 [(0, .ref (ad 7)), (1, .int x1), (3, .int x3)] [] S := by
  rw [f_X7_pass_213] at hF
  refine j_aload_n h 0 rfl rfl dX7_pass_213 ?_
  refine j_get h hM.2.1.o inX7 rfl 0 (by decide) rfl q4_24 rfl dX7_pass_214 ?_
  refine j_sipush h (v := 181) (by decide) dX7_pass_217 ?_
  refine j_dup2 h rfl rfl dX7_pass_220 ?_
  obtain ⟨hb_11, hF⟩ := bnd_row hF
  refine ja_iald h (get := fun S => S.1) (put := setR) (hM.1 0 (by decide)) hb_11 dX7_pass_221 ?_
  refine j_iload_n h 1 rfl rfl dX7_pass_222 ?_
  refine j_iadd h dX7_pass_223 ?_
  obtain ⟨hb_12, hF⟩ := bnd_row hF
  refine ja_iast h (get := fun S => S.1) (put := setR) (hM.1 0 (by decide)) hb_12 dX7_pass_224 ?_
  refine j_letS hF (fun S_13 hF => ?_)
  refine j_aload_n h 0 rfl rfl dX7_pass_225 ?_
  refine j_get h hM.2.1.o inX7 rfl 0 (by decide) rfl q4_24 rfl dX7_pass_226 ?_
  refine j_sipush h (v := 182) (by decide) dX7_pass_229 ?_
  refine j_dup2 h rfl rfl dX7_pass_232 ?_
  obtain ⟨hb_14, hF⟩ := bnd_row hF
  refine ja_iald h (get := fun S => S.1) (put := setR) (hM.1 0 (by decide)) hb_14 dX7_pass_233 ?_
  refine j_iload_n h 2 rfl rfl dX7_pass_234 ?_
  refine j_iadd h dX7_pass_235 ?_
  obtain ⟨hb_15, hF⟩ := bnd_row hF
  refine ja_iast h (get := fun S => S.1) (put := setR) (hM.1 0 (by decide)) hb_15 dX7_pass_236 ?_
  refine j_letS hF (fun S_16 hF => ?_)
  refine j_aload_n h 0 rfl rfl dX7_pass_237 ?_
  refine j_get h hM.2.1.o inX7 rfl 0 (by decide) rfl q4_24 rfl dX7_pass_238 ?_
  refine j_sipush h (v := 174) (by decide) dX7_pass_241 ?_
  refine j_dup2 h rfl rfl dX7_pass_244 ?_
  obtain ⟨hb_17, hF⟩ := bnd_row hF
  refine ja_iald h (get := fun S => S.1) (put := setR) (hM.1 0 (by decide)) hb_17 dX7_pass_245 ?_
  refine j_iconst h (v := 1) (by decide) dX7_pass_246 ?_
  refine j_iadd h dX7_pass_247 ?_
  obtain ⟨hb_18, hF⟩ := bnd_row hF
  refine ja_iast h (get := fun S => S.1) (put := setR) (hM.1 0 (by decide)) hb_18 dX7_pass_248 ?_
  refine j_letS hF (fun S_19 hF => ?_)
  cases hF
  exact hE _ _ dX7_pass_249
set_option maxHeartbeats 4000000 in
set_option maxRecDepth 100000 in
theorem k_X7_pass_157 {X : JX RS} {ad : Nat → Nat} (h : OK X RX7 cX7_pass rmX7_pass) (hM : IsRef X.cI X.B ad) (hnL : X.nL = 5) {res : RS} {x1 : Int32} {x3 : Int32} (hE : EXv X cX7_pass res) : ∀ (n : Nat) (x4 : Int32) (S : RS), f_X7_pass_157 x1 x3 n x4 S = some res → J X 157 [(0, .ref (ad 7)), (1, .int x1), (3, .int x3), (4, .int x4)] [] S := by
  intro n
  induction n with
  | zero =>
    intro x4 S hF
    rw [f_X7_pass_157] at hF
    cases hF
  | succ n ih =>
    intro x4 S hF
    rw [f_X7_pass_157] at hF
    refine j_iload h 3 rfl dX7_pass_157 ?_
    refine j_aload_n h 0 rfl rfl dX7_pass_159 ?_
    refine j_get h hM.2.1.o inX7 rfl 0 (by decide) rfl q4_24 rfl dX7_pass_160 ?_
    refine j_sipush h (v := 172) (by decide) dX7_pass_163 ?_
    obtain ⟨hb_9, hF⟩ := bnd_row hF
    refine ja_iald h (get := fun S => S.1) (put := setR) (hM.1 0 (by decide)) hb_9 dX7_pass_166 ?_
    refine j_icmp_ge h 191 (by decide) dX7_pass_167 hF (fun hF => ?_) (fun hF => ?_)
    · refine j_iload_n h 2 rfl rfl dX7_pass_191 ?_
      refine j_iload_n h 1 rfl rfl dX7_pass_192 ?_
      refine j_icmp_le h 206 (by decide) dX7_pass_193 hF (fun hF => ?_) (fun hF => ?_)
      · refine j_aload_n h 0 rfl rfl dX7_pass_206 ?_
        refine j_iload_n h 1 rfl rfl dX7_pass_207 ?_
        refine j_iload_n h 2 rfl rfl dX7_pass_208 ?_
        refine j_isub h dX7_pass_209 ?_
        obtain ⟨r_10, hr_10, hF⟩ := bind_row hF
        refine j_callVv h (st := []) (S' := r_10) (c_X7_charge X.l X.D X.cI X.cZ X.cV hM S (x1 - x3) hr_10) rfl rfl q4_221 cw_X7_charge hM.2.1.o rfl rfl rfl ⟨rfl, rfl, Nat.le_of_ble_eq_true rfl, Nat.le_of_ble_eq_true rfl⟩ _ rfl (Nat.le_of_ble_eq_true rfl) dX7_pass_210 ?_
        exact j_sub [0, 1, 2] rfl (k_X7_pass_213 h hM hnL hE hF)
      · refine j_aload_n h 0 rfl rfl dX7_pass_196 ?_
        refine j_iload_n h 2 rfl rfl dX7_pass_197 ?_
        refine j_iload_n h 1 rfl rfl dX7_pass_198 ?_
        refine j_isub h dX7_pass_199 ?_
        obtain ⟨r_20, hr_20, hF⟩ := bind_row hF
        refine j_callVv h (st := []) (S' := r_20) (c_X7_take X.l X.D X.cI X.cZ X.cV hM S (x3 - x1) hr_20) rfl rfl q4_217 cw_X7_take hM.2.1.o rfl rfl rfl ⟨rfl, rfl, Nat.le_of_ble_eq_true rfl, Nat.le_of_ble_eq_true rfl⟩ _ rfl (Nat.le_of_ble_eq_true rfl) dX7_pass_200 ?_
        refine j_goto h 213 (by decide) dX7_pass_203 ?_
        exact j_sub [0, 1, 2] rfl (k_X7_pass_213 h hM hnL hE hF)
    · refine j_aload_n h 0 rfl rfl dX7_pass_170 ?_
      refine j_iload h 3 rfl dX7_pass_171 ?_
      refine j_iconst h (v := 4) (by decide) dX7_pass_173 ?_
      refine j_aload_n h 0 rfl rfl dX7_pass_174 ?_
      refine j_iload h 3 rfl dX7_pass_175 ?_
      refine j_iconst h (v := 5) (by decide) dX7_pass_177 ?_
      obtain ⟨r_21, hr_21, hF⟩ := bind_row hF
      refine j_callVi h (st := [.int (4 : Int32), .int x4, .ref (ad 7)]) (S' := S) (c_X7_of X.l X.D X.cI X.cZ X.cV hM S x4 (5 : Int32) hr_21) rfl rfl q4_101 cw_X7_of hM.2.1.o rfl rfl rfl ⟨rfl, rfl, Nat.le_of_ble_eq_true rfl, Nat.le_of_ble_eq_true rfl⟩ _ rfl (Nat.le_of_ble_eq_true rfl) dX7_pass_178 ?_
      refine j_ineg h dX7_pass_181 ?_
      obtain ⟨r_22, hr_22, hF⟩ := bind_row hF
      refine j_callVv h (st := []) (S' := r_22) (c_X7_add X.l X.D X.cI X.cZ X.cV hM S x4 (4 : Int32) (-r_21) hr_22) rfl rfl q4_130 cw_X7_add hM.2.1.o rfl rfl rfl ⟨rfl, rfl, Nat.le_of_ble_eq_true rfl, Nat.le_of_ble_eq_true rfl⟩ _ rfl (Nat.le_of_ble_eq_true rfl) dX7_pass_182 ?_
      refine j_iincL hF (fun x_23 ex_23 hF => ?_)
      refine j_iinc h hnL 3 [(4, .int x_23), (0, .ref (ad 7)), (1, .int x1), (3, .int x3)] rfl ex_23 (by decide) (by decide) rfl dX7_pass_185 ?_
      refine j_goto h 157 (by decide) dX7_pass_188 ?_
      exact j_sub [1, 2, 3, 0] rfl (ih _ _ hF)
set_option maxHeartbeats 4000000 in
set_option maxRecDepth 100000 in
theorem k_X7_pass_116 {X : JX RS} {ad : Nat → Nat} (h : OK X RX7 cX7_pass rmX7_pass) (hM : IsRef X.cI X.B ad) (hnL : X.nL = 5) {res : RS} {x1 : Int32} {x3 : Int32} (hE : EXv X cX7_pass res) : ∀ (n : Nat) (x4 : Int32) (S : RS), f_X7_pass_116 x1 x3 n x4 S = some res → J X 116 [(0, .ref (ad 7)), (1, .int x1), (3, .int x3), (4, .int x4)] [] S := by
  intro n
  induction n with
  | zero =>
    intro x4 S hF
    rw [f_X7_pass_116] at hF
    cases hF
  | succ n ih =>
    intro x4 S hF
    rw [f_X7_pass_116] at hF
    refine j_iload h 3 rfl dX7_pass_116 ?_
    refine j_aload_n h 0 rfl rfl dX7_pass_118 ?_
    refine j_get h hM.2.1.o inX7 rfl 0 (by decide) rfl q4_24 rfl dX7_pass_119 ?_
    refine j_sipush h (v := 172) (by decide) dX7_pass_122 ?_
    obtain ⟨hb_8, hF⟩ := bnd_row hF
    refine ja_iald h (get := fun S => S.1) (put := setR) (hM.1 0 (by decide)) hb_8 dX7_pass_125 ?_
    refine j_icmp_ge h 154 (by decide) dX7_pass_126 hF (fun hF => ?_) (fun hF => ?_)
    · refine j_iconst h (v := 0) (by decide) dX7_pass_154 ?_
      refine j_istore h hnL [(4, .int (0 : Int32)), (0, .ref (ad 7)), (1, .int x1), (3, .int x3)] (by decide) rfl dX7_pass_155 ?_
      exact j_sub [1, 2, 3, 0] rfl (k_X7_pass_157 h hM hnL hE fuel _ _ hF)
    · refine j_aload_n h 0 rfl rfl dX7_pass_129 ?_
      refine j_get h hM.2.1.o inX7 rfl 0 (by decide) rfl q4_24 rfl dX7_pass_130 ?_
      refine j_bipush h (v := 8) (by decide) dX7_pass_133 ?_
      refine j_iload h 3 rfl dX7_pass_135 ?_
      refine j_imul h dX7_pass_137 ?_
      refine j_bipush h (v := 6) (by decide) dX7_pass_138 ?_
      refine j_iadd h dX7_pass_140 ?_
      refine j_aload_n h 0 rfl rfl dX7_pass_141 ?_
      refine j_iload h 3 rfl dX7_pass_142 ?_
      obtain ⟨r_24, hr_24, hF⟩ := bind_row hF
      refine j_callVi h (st := [.int (((8 : Int32) * x4) + (6 : Int32)), .ref (ad 0)]) (S' := S) (c_X7_why X.l X.D X.cI X.cZ X.cV hM S x4 hr_24) rfl rfl q4_213 cw_X7_why hM.2.1.o rfl rfl rfl ⟨rfl, rfl, Nat.le_of_ble_eq_true rfl, Nat.le_of_ble_eq_true rfl⟩ _ rfl (Nat.le_of_ble_eq_true rfl) dX7_pass_144 ?_
      obtain ⟨hb_25, hF⟩ := bnd_row hF
      refine ja_iast h (get := fun S => S.1) (put := setR) (hM.1 0 (by decide)) hb_25 dX7_pass_147 ?_
      refine j_letS hF (fun S_26 hF => ?_)
      refine j_iincL hF (fun x_27 ex_27 hF => ?_)
      refine j_iinc h hnL 3 [(4, .int x_27), (0, .ref (ad 7)), (1, .int x1), (3, .int x3)] rfl ex_27 (by decide) (by decide) rfl dX7_pass_148 ?_
      refine j_goto h 116 (by decide) dX7_pass_151 ?_
      exact j_sub [1, 2, 3, 0] rfl (ih _ _ hF)
set_option maxHeartbeats 4000000 in
set_option maxRecDepth 100000 in
theorem k_X7_pass_107 {X : JX RS} {ad : Nat → Nat} (h : OK X RX7 cX7_pass rmX7_pass) (hM : IsRef X.cI X.B ad) (hnL : X.nL = 5) {res : RS} {S : RS} {x1 : Int32} {x2 : Int32} (hE : EXv X cX7_pass res) (hF : f_X7_pass_107 S x1 x2 = some res) : J X 107 [(0, .ref (ad 7)), (1, .int x1), (2, .int x2)] [] S := by
  rw [f_X7_pass_107] at hF
  refine j_aload_n h 0 rfl rfl dX7_pass_107 ?_
  refine j_iload_n h 2 rfl rfl dX7_pass_108 ?_
  obtain ⟨r_7, hr_7, hF⟩ := bind_row hF
  refine j_callVi h (st := []) (S' := r_7.2) (c_X7_serve X.l X.D X.cI X.cZ X.cV hM S x2 hr_7) rfl rfl q4_209 cw_X7_serve hM.2.1.o rfl rfl rfl ⟨rfl, rfl, Nat.le_of_ble_eq_true rfl, Nat.le_of_ble_eq_true rfl⟩ _ rfl (Nat.le_of_ble_eq_true rfl) dX7_pass_109 ?_
  refine j_istore_n h hnL [(3, .int r_7.1), (0, .ref (ad 7)), (1, .int x1), (2, .int x2)] rfl (by decide) rfl dX7_pass_112 ?_
  refine j_iconst h (v := 0) (by decide) dX7_pass_113 ?_
  refine j_istore h hnL [(4, .int (0 : Int32)), (3, .int r_7.1), (0, .ref (ad 7)), (1, .int x1), (2, .int x2)] (by decide) rfl dX7_pass_114 ?_
  exact j_sub [2, 3, 1, 0] rfl (k_X7_pass_116 h hM hnL hE fuel _ _ hF)
set_option maxHeartbeats 4000000 in
set_option maxRecDepth 100000 in
theorem k_X7_pass_84 {X : JX RS} {ad : Nat → Nat} (h : OK X RX7 cX7_pass rmX7_pass) (hM : IsRef X.cI X.B ad) (hnL : X.nL = 5) {res : RS} {x1 : Int32} {x2 : Int32} (hE : EXv X cX7_pass res) : ∀ (n : Nat) (x3 : Int32) (S : RS), f_X7_pass_84 x1 x2 n x3 S = some res → J X 84 [(0, .ref (ad 7)), (1, .int x1), (2, .int x2), (3, .int x3)] [] S := by
  intro n
  induction n with
  | zero =>
    intro x3 S hF
    rw [f_X7_pass_84] at hF
    cases hF
  | succ n ih =>
    intro x3 S hF
    rw [f_X7_pass_84] at hF
    refine j_iload_n h 3 rfl rfl dX7_pass_84 ?_
    refine j_iconst h (v := 2) (by decide) dX7_pass_85 ?_
    refine j_icmp_ge h 107 (by decide) dX7_pass_86 hF (fun hF => ?_) (fun hF => ?_)
    · exact j_sub [0, 1, 2] rfl (k_X7_pass_107 h hM hnL hE hF)
    · refine j_aload_n h 0 rfl rfl dX7_pass_89 ?_
      obtain ⟨r_28, hr_28, hF⟩ := bind_row hF
      refine j_callVi h (st := []) (S' := S) (c_X7_wanted X.l X.D X.cI X.cZ X.cV hM S hr_28) rfl rfl q4_201 cw_X7_wanted hM.2.1.o rfl rfl rfl ⟨rfl, rfl, Nat.le_of_ble_eq_true rfl, Nat.le_of_ble_eq_true rfl⟩ _ rfl (Nat.le_of_ble_eq_true rfl) dX7_pass_90 ?_
      refine j_iload_n h 2 rfl rfl dX7_pass_93 ?_
      refine j_icmp_le h 107 (by decide) dX7_pass_94 hF (fun hF => ?_) (fun hF => ?_)
      · exact j_sub [0, 1, 2] rfl (k_X7_pass_107 h hM hnL hE hF)
      · refine j_aload_n h 0 rfl rfl dX7_pass_97 ?_
        obtain ⟨r_29, hr_29, hF⟩ := bind_row hF
        refine j_callVv h (st := []) (S' := r_29) (c_X7_shed X.l X.D X.cI X.cZ X.cV hM S hr_29) rfl rfl q4_205 cw_X7_shed hM.2.1.o rfl rfl rfl ⟨rfl, rfl, Nat.le_of_ble_eq_true rfl, Nat.le_of_ble_eq_true rfl⟩ _ rfl (Nat.le_of_ble_eq_true rfl) dX7_pass_98 ?_
        refine j_iincL hF (fun x_30 ex_30 hF => ?_)
        refine j_iinc h hnL 3 [(3, .int x_30), (0, .ref (ad 7)), (1, .int x1), (2, .int x2)] rfl ex_30 (by decide) (by decide) rfl dX7_pass_101 ?_
        refine j_goto h 84 (by decide) dX7_pass_104 ?_
        exact j_sub [1, 2, 3, 0] rfl (ih _ _ hF)
set_option maxHeartbeats 4000000 in
set_option maxRecDepth 100000 in
theorem k_X7_pass_60 {X : JX RS} {ad : Nat → Nat} (h : OK X RX7 cX7_pass rmX7_pass) (hM : IsRef X.cI X.B ad) (hnL : X.nL = 5) {res : RS} {x1 : Int32} {x2 : Int32} (hE : EXv X cX7_pass res) : ∀ (n : Nat) (x3 : Int32) (S : RS), f_X7_pass_60 x1 x2 n x3 S = some res → J X 60 [(0, .ref (ad 7)), (1, .int x1), (2, .int x2), (3, .int x3)] [] S := by
  intro n
  induction n with
  | zero =>
    intro x3 S hF
    rw [f_X7_pass_60] at hF
    cases hF
  | succ n ih =>
    intro x3 S hF
    rw [f_X7_pass_60] at hF
    refine j_iload_n h 3 rfl rfl dX7_pass_60 ?_
    refine j_iconst h (v := 3) (by decide) dX7_pass_61 ?_
    refine j_icmp_ge h 82 (by decide) dX7_pass_62 hF (fun hF => ?_) (fun hF => ?_)
    · refine j_iconst h (v := 0) (by decide) dX7_pass_82 ?_
      refine j_istore_n h hnL [(3, .int (0 : Int32)), (0, .ref (ad 7)), (1, .int x1), (2, .int x2)] rfl (by decide) rfl dX7_pass_83 ?_
      exact j_sub [1, 2, 3, 0] rfl (k_X7_pass_84 h hM hnL hE fuel _ _ hF)
    · refine j_aload_n h 0 rfl rfl dX7_pass_65 ?_
      refine j_get h hM.2.1.o inX7 rfl 0 (by decide) rfl q4_24 rfl dX7_pass_66 ?_
      refine j_sipush h (v := 192) (by decide) dX7_pass_69 ?_
      refine j_iload_n h 3 rfl rfl dX7_pass_72 ?_
      refine j_iadd h dX7_pass_73 ?_
      refine j_iconst h (v := 0) (by decide) dX7_pass_74 ?_
      obtain ⟨hb_31, hF⟩ := bnd_row hF
      refine ja_iast h (get := fun S => S.1) (put := setR) (hM.1 0 (by decide)) hb_31 dX7_pass_75 ?_
      refine j_letS hF (fun S_32 hF => ?_)
      refine j_iincL hF (fun x_33 ex_33 hF => ?_)
      refine j_iinc h hnL 3 [(3, .int x_33), (0, .ref (ad 7)), (1, .int x1), (2, .int x2)] rfl ex_33 (by decide) (by decide) rfl dX7_pass_76 ?_
      refine j_goto h 60 (by decide) dX7_pass_79 ?_
      exact j_sub [1, 2, 3, 0] rfl (ih _ _ hF)
set_option maxHeartbeats 4000000 in
set_option maxRecDepth 100000 in
theorem k_X7_pass_29 {X : JX RS} {ad : Nat → Nat} (h : OK X RX7 cX7_pass rmX7_pass) (hM : IsRef X.cI X.B ad) (hnL : X.nL = 5) {res : RS} {x1 : Int32} {x2 : Int32} (hE : EXv X cX7_pass res) : ∀ (n : Nat) (x3 : Int32) (S : RS), f_X7_pass_29 x1 x2 n x3 S = some res → J X 29 [(0, .ref (ad 7)), (1, .int x1), (2, .int x2), (3, .int x3)] [] S := by
  intro n
  induction n with
  | zero =>
    intro x3 S hF
    rw [f_X7_pass_29] at hF
    cases hF
  | succ n ih =>
    intro x3 S hF
    rw [f_X7_pass_29] at hF
    refine j_iload_n h 3 rfl rfl dX7_pass_29 ?_
    refine j_aload_n h 0 rfl rfl dX7_pass_30 ?_
    refine j_get h hM.2.1.o inX7 rfl 0 (by decide) rfl q4_24 rfl dX7_pass_31 ?_
    refine j_sipush h (v := 172) (by decide) dX7_pass_34 ?_
    obtain ⟨hb_6, hF⟩ := bnd_row hF
    refine ja_iald h (get := fun S => S.1) (put := setR) (hM.1 0 (by decide)) hb_6 dX7_pass_37 ?_
    refine j_icmp_ge h 58 (by decide) dX7_pass_38 hF (fun hF => ?_) (fun hF => ?_)
    · refine j_iconst h (v := 0) (by decide) dX7_pass_58 ?_
      refine j_istore_n h hnL [(3, .int (0 : Int32)), (0, .ref (ad 7)), (1, .int x1), (2, .int x2)] rfl (by decide) rfl dX7_pass_59 ?_
      exact j_sub [1, 2, 3, 0] rfl (k_X7_pass_60 h hM hnL hE fuel _ _ hF)
    · refine j_aload_n h 0 rfl rfl dX7_pass_41 ?_
      refine j_get h hM.2.1.o inX7 rfl 8 (by decide) rfl q4_32 rfl dX7_pass_42 ?_
      refine j_iload_n h 3 rfl rfl dX7_pass_45 ?_
      refine j_aload_n h 0 rfl rfl dX7_pass_46 ?_
      refine j_iload_n h 3 rfl rfl dX7_pass_47 ?_
      obtain ⟨r_34, hr_34, hF⟩ := bind_row hF
      refine j_callVi h (st := [.int x3, .ref (ad 5)]) (S' := S) (c_X7_canDraw X.l X.D X.cI X.cZ X.cV hM S x3 hr_34) rfl rfl q4_197 cw_X7_canDraw hM.2.1.o rfl rfl rfl ⟨rfl, rfl, Nat.le_of_ble_eq_true rfl, Nat.le_of_ble_eq_true rfl⟩ _ rfl (Nat.le_of_ble_eq_true rfl) dX7_pass_48 ?_
      obtain ⟨hb_35, hF⟩ := bnd_row hF
      refine ja_iast h (get := fun S => S.1) (put := setR) (hM.1 5 (by decide)) hb_35 dX7_pass_51 ?_
      refine j_letS hF (fun S_36 hF => ?_)
      refine j_iincL hF (fun x_37 ex_37 hF => ?_)
      refine j_iinc h hnL 3 [(3, .int x_37), (0, .ref (ad 7)), (1, .int x1), (2, .int x2)] rfl ex_37 (by decide) (by decide) rfl dX7_pass_52 ?_
      refine j_goto h 29 (by decide) dX7_pass_55 ?_
      exact j_sub [1, 2, 3, 0] rfl (ih _ _ hF)
set_option maxHeartbeats 4000000 in
set_option maxRecDepth 100000 in
theorem k_X7_pass {X : JX RS} {ad : Nat → Nat} (h : OK X RX7 cX7_pass rmX7_pass) (hM : IsRef X.cI X.B ad) (hnL : X.nL = 5) {res : RS} {S : RS} (hE : EXv X cX7_pass res) (hF : f_X7_pass S = some res) : J X 0 [(0, .ref (ad 7))] [] S := by
  rw [f_X7_pass] at hF
  refine j_aload_n h 0 rfl rfl dX7_pass_0 ?_
  refine j_aload_n h 0 rfl rfl dX7_pass_1 ?_
  refine j_get h hM.2.1.o inX7 rfl 0 (by decide) rfl q4_24 rfl dX7_pass_2 ?_
  refine j_sipush h (v := 174) (by decide) dX7_pass_5 ?_
  obtain ⟨hb_1, hF⟩ := bnd_row hF
  refine ja_iald h (get := fun S => S.1) (put := setR) (hM.1 0 (by decide)) hb_1 dX7_pass_8 ?_
  obtain ⟨r_2, hr_2, hF⟩ := bind_row hF
  refine j_callVi h (st := []) (S' := S) (c_X7_supplyAt X.l X.D X.cI X.cZ X.cV hM S (rd S.1 0 (174 : Int32)) hr_2) rfl rfl q4_185 cw_X7_supplyAt hM.2.1.o rfl rfl rfl ⟨rfl, rfl, Nat.le_of_ble_eq_true rfl, Nat.le_of_ble_eq_true rfl⟩ _ rfl (Nat.le_of_ble_eq_true rfl) dX7_pass_9 ?_
  refine j_istore_n h hnL [(1, .int r_2), (0, .ref (ad 7))] rfl (by decide) rfl dX7_pass_12 ?_
  refine j_iload_n h 0 rfl rfl dX7_pass_13 ?_
  refine j_aload_n h 1 rfl rfl dX7_pass_14 ?_
  refine j_iconst h (v := 0) (by decide) dX7_pass_15 ?_
  obtain ⟨r_3, hr_3, hF⟩ := bind_row hF
  refine j_callVi h (st := [.int r_2]) (S' := S) (c_X7_canGive X.l X.D X.cI X.cZ X.cV hM S (0 : Int32) hr_3) rfl rfl q4_189 cw_X7_canGive hM.2.1.o rfl rfl rfl ⟨rfl, rfl, Nat.le_of_ble_eq_true rfl, Nat.le_of_ble_eq_true rfl⟩ _ rfl (Nat.le_of_ble_eq_true rfl) dX7_pass_16 ?_
  refine j_iadd h dX7_pass_19 ?_
  refine j_aload_n h 1 rfl rfl dX7_pass_20 ?_
  refine j_iconst h (v := 1) (by decide) dX7_pass_21 ?_
  obtain ⟨r_4, hr_4, hF⟩ := bind_row hF
  refine j_callVi h (st := [.int (r_2 + r_3)]) (S' := S) (c_X7_canGive X.l X.D X.cI X.cZ X.cV hM S (1 : Int32) hr_4) rfl rfl q4_189 cw_X7_canGive hM.2.1.o rfl rfl rfl ⟨rfl, rfl, Nat.le_of_ble_eq_true rfl, Nat.le_of_ble_eq_true rfl⟩ _ rfl (Nat.le_of_ble_eq_true rfl) dX7_pass_22 ?_
  refine j_iadd h dX7_pass_25 ?_
  refine j_let hF (fun x_5 hF => ?_)
  refine j_istore_n h hnL [(2, .int x_5), (1, .int r_2), (0, .ref (ad 7))] rfl (by decide) rfl dX7_pass_26 ?_
  refine j_iconst h (v := 0) (by decide) dX7_pass_27 ?_
  refine j_istore_n h hnL [(3, .int (0 : Int32)), (2, .int x_5), (1, .int r_2), (0, .ref (ad 7))] rfl (by decide) rfl dX7_pass_28 ?_
  exact j_sub [3, 2, 1, 0] rfl (k_X7_pass_29 h hM hnL hE fuel _ _ hF)
theorem c_X7_pass (l : Launch) (D : va_G) (cI cZ cV : ClassId) {B : RS → va_W} {ad : Nat → Nat} (hM : IsRef cI B ad) (S : RS) {r : RS} (hF : f_X7_pass S = some r) : CTv l D (jtys cI cZ cV) yX7_pass cX7_pass 5 none rmX7_pass B [.ref (ad 7)] S r := by
  refine CTv.of [(0, .ref (ad 7))] rfl (Nat.le_of_ble_eq_true rfl) (by decide) ⟨rfl, rfl⟩ (fun X e1 e2 e3 e4 e5 e6 e7 h hE => ?_)
  subst e1; subst e2; subst e3; subst e4; subst e5; subst e6
  exact k_X7_pass h hM e7 hE hF
abbrev rmX7_run : Room := { frames := 4, cells := 0, slots := 0, locals := 91 }
theorem cw_X7_run : CWv RX7 yX7_run cX7_run 4 (some .int) 1 := ⟨q4_178, q4_179, q1_8, q4_180, ⟨rfl, by decide +kernel, by decide +kernel, by decide +kernel⟩⟩
set_option maxHeartbeats 4000000 in
set_option maxRecDepth 100000 in
theorem k_X7_run_28 {X : JX RS} {ad : Nat → Nat} (h : OK X RX7 cX7_run rmX7_run) (hM : IsRef X.cI X.B ad) (hnL : X.nL = 4) {res : Int32 × RS} {x1 : Int32} {x2 : Int32} (hE : EXi X cX7_run res.1 res.2) : ∀ (n : Nat) (x3 : Int32) (S : RS), f_X7_run_28 x1 x2 n x3 S = some res → J X 28 [(0, .ref (ad 7)), (1, .int x1), (2, .int x2), (3, .int x3)] [] S := by
  intro n
  induction n with
  | zero =>
    intro x3 S hF
    rw [f_X7_run_28] at hF
    cases hF
  | succ n ih =>
    intro x3 S hF
    rw [f_X7_run_28] at hF
    refine j_iload_n h 3 rfl rfl dX7_run_28 ?_
    refine j_iload_n h 1 rfl rfl dX7_run_29 ?_
    refine j_icmp_ge h 43 (by decide) dX7_run_30 hF (fun hF => ?_) (fun hF => ?_)
    · refine j_aload_n h 0 rfl rfl dX7_run_43 ?_
      refine j_get h hM.2.1.o inX7 rfl 0 (by decide) rfl q4_24 rfl dX7_run_44 ?_
      refine j_sipush h (v := 182) (by decide) dX7_run_47 ?_
      obtain ⟨hb_5, hF⟩ := bnd_row hF
      refine ja_iald h (get := fun S => S.1) (put := setR) (hM.1 0 (by decide)) hb_5 dX7_run_50 ?_
      refine j_iload_n h 2 rfl rfl dX7_run_51 ?_
      refine j_isub h dX7_run_52 ?_
      cases hF
      exact hE _ _ dX7_run_53
    · refine j_aload_n h 0 rfl rfl dX7_run_33 ?_
      obtain ⟨r_6, hr_6, hF⟩ := bind_row hF
      refine j_callVv h (st := []) (S' := r_6) (c_X7_pass X.l X.D X.cI X.cZ X.cV hM S hr_6) rfl rfl q4_181 cw_X7_pass hM.2.1.o rfl rfl rfl ⟨rfl, rfl, Nat.le_of_ble_eq_true rfl, Nat.le_of_ble_eq_true rfl⟩ _ rfl (Nat.le_of_ble_eq_true rfl) dX7_run_34 ?_
      refine j_iincL hF (fun x_7 ex_7 hF => ?_)
      refine j_iinc h hnL 3 [(3, .int x_7), (0, .ref (ad 7)), (1, .int x1), (2, .int x2)] rfl ex_7 (by decide) (by decide) rfl dX7_run_37 ?_
      refine j_goto h 28 (by decide) dX7_run_40 ?_
      exact j_sub [1, 2, 3, 0] rfl (ih _ _ hF)
set_option maxHeartbeats 4000000 in
set_option maxRecDepth 100000 in
theorem k_X7_run {X : JX RS} {ad : Nat → Nat} (h : OK X RX7 cX7_run rmX7_run) (hM : IsRef X.cI X.B ad) (hnL : X.nL = 4) {res : Int32 × RS} {S : RS} {p1 : Int32} (hE : EXi X cX7_run res.1 res.2) (hF : f_X7_run S p1 = some res) : J X 0 [(0, .ref (ad 7)), (1, .int p1)] [] S := by
  rw [f_X7_run] at hF
  refine j_iload_n h 1 rfl rfl dX7_run_0 ?_
  refine j_iconst h (v := 1) (by decide) dX7_run_1 ?_
  refine j_bipush h (v := 100) (by decide) dX7_run_2 ?_
  obtain ⟨r_1, hr_1, hF⟩ := bind_row hF
  refine j_callSz h (st := []) (S' := S) (c_X7_within X.l X.D X.cI X.cZ X.cV (B := X.B) S p1 (1 : Int32) (100 : Int32) hr_1) rfl rfl q4_77 cw_X7_within rfl ⟨rfl, rfl, Nat.le_of_ble_eq_true rfl, Nat.le_of_ble_eq_true rfl⟩ _ rfl (Nat.le_of_ble_eq_true rfl) dX7_run_4 (fun hz_r_1 => ?_)
  refine j_if_ne h 13 (by decide) dX7_run_7 hF (fun hF => ?_) (fun hF => ?_)
  · refine j_ldc h (v := -1000002) q4_80 dX7_run_10 ?_
    cases hF
    exact hE _ _ dX7_run_12
  · refine j_aload_n h 0 rfl rfl dX7_run_13 ?_
    obtain ⟨r_2, hr_2, hF⟩ := bind_row hF
    refine j_callVv h (st := []) (S' := r_2) (c_X7_record X.l X.D X.cI X.cZ X.cV hM S hr_2) rfl rfl q4_82 cw_X7_record hM.2.1.o rfl rfl rfl ⟨rfl, rfl, Nat.le_of_ble_eq_true rfl, Nat.le_of_ble_eq_true rfl⟩ _ rfl (Nat.le_of_ble_eq_true rfl) dX7_run_14 ?_
    refine j_aload_n h 0 rfl rfl dX7_run_17 ?_
    refine j_get h hM.2.1.o inX7 rfl 0 (by decide) rfl q4_24 rfl dX7_run_18 ?_
    refine j_sipush h (v := 182) (by decide) dX7_run_21 ?_
    obtain ⟨hb_3, hF⟩ := bnd_row hF
    refine ja_iald h (get := fun S => S.1) (put := setR) (hM.1 0 (by decide)) hb_3 dX7_run_24 ?_
    refine j_let hF (fun x_4 hF => ?_)
    refine j_istore_n h hnL [(2, .int x_4), (0, .ref (ad 7)), (1, .int p1)] rfl (by decide) rfl dX7_run_25 ?_
    refine j_iconst h (v := 0) (by decide) dX7_run_26 ?_
    refine j_istore_n h hnL [(3, .int (0 : Int32)), (2, .int x_4), (0, .ref (ad 7)), (1, .int p1)] rfl (by decide) rfl dX7_run_27 ?_
    exact j_sub [2, 3, 1, 0] rfl (k_X7_run_28 h hM hnL hE fuel _ _ hF)
theorem c_X7_run (l : Launch) (D : va_G) (cI cZ cV : ClassId) {B : RS → va_W} {ad : Nat → Nat} (hM : IsRef cI B ad) (S : RS) (p1 : Int32) {r : Int32 × RS} (hF : f_X7_run S p1 = some r) : CTi l D (jtys cI cZ cV) yX7_run cX7_run 4 (some .int) rmX7_run B [.ref (ad 7), .int p1] S r.1 r.2 := by
  refine CTi.of [(0, .ref (ad 7)), (1, .int p1)] rfl (Nat.le_of_ble_eq_true rfl) (by decide) ⟨rfl, rfl⟩ (fun X e1 e2 e3 e4 e5 e6 e7 h hE => ?_)
  subst e1; subst e2; subst e3; subst e4; subst e5; subst e6
  exact k_X7_run h hM e7 hE hF
