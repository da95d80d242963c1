abbrev rmX7_digest : Room := { frames := 5, cells := 0, slots := 0, locals := 117 }
theorem cw_X7_digest : CWv RX7 yX7_digest cX7_digest 2 (some .long) 0 := ⟨q5_134, q5_135, q1_8, q5_136, ⟨rfl, by decide +kernel, by decide +kernel, by decide +kernel⟩⟩
set_option maxHeartbeats 4000000 in
set_option maxRecDepth 100000 in
theorem k_X7_digest_129 {X : JX RS} {ad : Nat → Nat} (h : OK X RX7 cX7_digest rmX7_digest) (hM : IsRef X.cI X.B ad) (hnL : X.nL = 2) {res : Int64 × RS} (hE : EXl X cX7_digest res.1 res.2) : ∀ (n : Nat) (x1 : Int32) (S : RS), f_X7_digest_129 n x1 S = some res → J X 129 [(0, .ref (ad 7)), (1, .int x1)] [] S := by
  intro n
  induction n with
  | zero =>
    intro x1 S hF
    rw [f_X7_digest_129] at hF
    cases hF
  | succ n ih =>
    intro x1 S hF
    rw [f_X7_digest_129] at hF
    refine j_iload_n h 1 rfl rfl dX7_digest_129 ?_
    refine j_aload_n h 0 rfl rfl dX7_digest_130 ?_
    refine j_get h hM.2.1.o inX7 rfl 6 (by decide) rfl q4_30 rfl dX7_digest_131 ?_
    refine j_icmp_ge h 154 (by decide) dX7_digest_134 hF (fun hF => ?_) (fun hF => ?_)
    · refine j_aload_n h 0 rfl rfl dX7_digest_154 ?_
      refine j_get h hM.2.1.o inX7 rfl 15 (by decide) rfl q4_39 rfl dX7_digest_155 ?_
      cases hF
      exact hE _ _ dX7_digest_158
    · refine j_aload_n h 0 rfl rfl dX7_digest_137 ?_
      refine j_aload_n h 0 rfl rfl dX7_digest_138 ?_
      refine j_get h hM.2.1.o inX7 rfl 7 (by decide) rfl q4_31 rfl dX7_digest_139 ?_
      refine j_iload_n h 1 rfl rfl dX7_digest_142 ?_
      obtain ⟨hb_7, hF⟩ := bnd_row hF
      refine ja_iald h (get := fun S => S.1) (put := setR) (hM.1 4 (by decide)) hb_7 dX7_digest_143 ?_
      refine j_i2l h dX7_digest_144 ?_
      obtain ⟨r_8, hr_8, hF⟩ := bind_row hF
      refine j_callVv h (st := []) (S' := r_8) (c_X7_mix X.l X.D X.cI X.cZ X.cV hM S ((rd S.1 4 x1).toInt64) hr_8) rfl rfl q5_138 cw_X7_mix hM.2.1.o rfl rfl rfl ⟨rfl, rfl, Nat.le_of_ble_eq_true rfl, Nat.le_of_ble_eq_true rfl⟩ _ rfl (Nat.le_of_ble_eq_true rfl) dX7_digest_145 ?_
      refine j_iincL hF (fun x_9 ex_9 hF => ?_)
      refine j_iinc h hnL 1 [(1, .int x_9), (0, .ref (ad 7))] rfl ex_9 (by decide) (by decide) rfl dX7_digest_148 ?_
      refine j_goto h 129 (by decide) dX7_digest_151 ?_
      exact j_sub [1, 0] rfl (ih _ _ hF)
set_option maxHeartbeats 4000000 in
set_option maxRecDepth 100000 in
theorem k_X7_digest_84 {X : JX RS} {ad : Nat → Nat} (h : OK X RX7 cX7_digest rmX7_digest) (hM : IsRef X.cI X.B ad) (hnL : X.nL = 2) {res : Int64 × RS} (hE : EXl X cX7_digest res.1 res.2) : ∀ (n : Nat) (x1 : Int32) (S : RS), f_X7_digest_84 n x1 S = some res → J X 84 [(0, .ref (ad 7)), (1, .int x1)] [] S := by
  intro n
  induction n with
  | zero =>
    intro x1 S hF
    rw [f_X7_digest_84] at hF
    cases hF
  | succ n ih =>
    intro x1 S hF
    rw [f_X7_digest_84] at hF
    refine j_iload_n h 1 rfl rfl dX7_digest_84 ?_
    refine j_iconst h (v := 5) (by decide) dX7_digest_85 ?_
    refine j_icmp_ge h 107 (by decide) dX7_digest_86 hF (fun hF => ?_) (fun hF => ?_)
    · refine j_aload_n h 0 rfl rfl dX7_digest_107 ?_
      refine j_aload_n h 0 rfl rfl dX7_digest_108 ?_
      obtain ⟨r_3, hr_3, hF⟩ := bind_row hF
      refine j_callVd h (st := [.ref (ad 7)]) (S' := S) (c_X7_met X.l X.D X.cI X.cZ X.cV hM S hr_3) rfl rfl q5_147 cw_X7_met hM.2.1.o rfl rfl rfl ⟨rfl, rfl, Nat.le_of_ble_eq_true rfl, Nat.le_of_ble_eq_true rfl⟩ _ rfl (Nat.le_of_ble_eq_true rfl) dX7_digest_109 ?_
      obtain ⟨r_4, hr_4, hF⟩ := bind_row hF
      refine j_callSl h (st := [.ref (ad 7)]) (S' := S) (c_Jxe99ae_doubleToLongBits_ccdee X.l X.D X.cI X.cZ X.cV (B := X.B) S r_3 hr_4) rfl rfl q5_148 cw_Jxe99ae_doubleToLongBits_ccdee rfl ⟨rfl, rfl, Nat.le_of_ble_eq_true rfl, Nat.le_of_ble_eq_true rfl⟩ _ rfl (Nat.le_of_ble_eq_true rfl) dX7_digest_112 ?_
      obtain ⟨r_5, hr_5, hF⟩ := bind_row hF
      refine j_callVv h (st := []) (S' := r_5) (c_X7_mix X.l X.D X.cI X.cZ X.cV hM S r_4 hr_5) rfl rfl q5_138 cw_X7_mix hM.2.1.o rfl rfl rfl ⟨rfl, rfl, Nat.le_of_ble_eq_true rfl, Nat.le_of_ble_eq_true rfl⟩ _ rfl (Nat.le_of_ble_eq_true rfl) dX7_digest_115 ?_
      refine j_aload_n h 0 rfl rfl dX7_digest_118 ?_
      refine j_aload_n h 0 rfl rfl dX7_digest_119 ?_
      refine j_get h hM.2.1.o inX7 rfl 6 (by decide) rfl q4_30 rfl dX7_digest_120 ?_
      refine j_i2l h dX7_digest_123 ?_
      obtain ⟨r_6, hr_6, hF⟩ := bind_row hF
      refine j_callVv h (st := []) (S' := r_6) (c_X7_mix X.l X.D X.cI X.cZ X.cV hM r_5 ((r_5.1 7 2).toInt64) hr_6) rfl rfl q5_138 cw_X7_mix hM.2.1.o rfl rfl rfl ⟨rfl, rfl, Nat.le_of_ble_eq_true rfl, Nat.le_of_ble_eq_true rfl⟩ _ rfl (Nat.le_of_ble_eq_true rfl) dX7_digest_124 ?_
      refine j_iconst h (v := 0) (by decide) dX7_digest_127 ?_
      refine j_istore_n h hnL [(1, .int (0 : Int32)), (0, .ref (ad 7))] rfl (by decide) rfl dX7_digest_128 ?_
      exact j_sub [1, 0] rfl (k_X7_digest_129 h hM hnL hE fuel _ _ hF)
    · refine j_aload_n h 0 rfl rfl dX7_digest_89 ?_
      refine j_aload_n h 0 rfl rfl dX7_digest_90 ?_
      refine j_bipush h (v := 24) (by decide) dX7_digest_91 ?_
      refine j_iload_n h 1 rfl rfl dX7_digest_93 ?_
      obtain ⟨r_10, hr_10, hF⟩ := bind_row hF
      refine j_callVi h (st := [.ref (ad 7)]) (S' := r_10.2) (c_X7_ahead X.l X.D X.cI X.cZ X.cV hM S (24 : Int32) x1 hr_10) rfl rfl q5_105 cw_X7_ahead hM.2.1.o rfl rfl rfl ⟨rfl, rfl, Nat.le_of_ble_eq_true rfl, Nat.le_of_ble_eq_true rfl⟩ _ rfl (Nat.le_of_ble_eq_true rfl) dX7_digest_94 ?_
      refine j_i2l h dX7_digest_97 ?_
      obtain ⟨r_11, hr_11, hF⟩ := bind_row hF
      refine j_callVv h (st := []) (S' := r_11) (c_X7_mix X.l X.D X.cI X.cZ X.cV hM r_10.2 r_10.1.toInt64 hr_11) rfl rfl q5_138 cw_X7_mix hM.2.1.o rfl rfl rfl ⟨rfl, rfl, Nat.le_of_ble_eq_true rfl, Nat.le_of_ble_eq_true rfl⟩ _ rfl (Nat.le_of_ble_eq_true rfl) dX7_digest_98 ?_
      refine j_iincL hF (fun x_12 ex_12 hF => ?_)
      refine j_iinc h hnL 1 [(1, .int x_12), (0, .ref (ad 7))] rfl ex_12 (by decide) (by decide) rfl dX7_digest_101 ?_
      refine j_goto h 84 (by decide) dX7_digest_104 ?_
      exact j_sub [1, 0] rfl (ih _ _ hF)
set_option maxHeartbeats 4000000 in
set_option maxRecDepth 100000 in
theorem k_X7_digest_56 {X : JX RS} {ad : Nat → Nat} (h : OK X RX7 cX7_digest rmX7_digest) (hM : IsRef X.cI X.B ad) (hnL : X.nL = 2) {res : Int64 × RS} (hE : EXl X cX7_digest res.1 res.2) : ∀ (n : Nat) (x1 : Int32) (S : RS), f_X7_digest_56 n x1 S = some res → J X 56 [(0, .ref (ad 7)), (1, .int x1)] [] S := by
  intro n
  induction n with
  | zero =>
    intro x1 S hF
    rw [f_X7_digest_56] at hF
    cases hF
  | succ n ih =>
    intro x1 S hF
    rw [f_X7_digest_56] at hF
    refine j_iload_n h 1 rfl rfl dX7_digest_56 ?_
    refine j_bipush h (v := 8) (by decide) dX7_digest_57 ?_
    refine j_icmp_ge h 78 (by decide) dX7_digest_59 hF (fun hF => ?_) (fun hF => ?_)
    · refine j_aload_n h 0 rfl rfl dX7_digest_78 ?_
      obtain ⟨r_2, hr_2, hF⟩ := bind_row hF
      refine j_callVv h (st := []) (S' := r_2) (c_X7_mixThings X.l X.D X.cI X.cZ X.cV hM S hr_2) rfl rfl q5_143 cw_X7_mixThings hM.2.1.o rfl rfl rfl ⟨rfl, rfl, Nat.le_of_ble_eq_true rfl, Nat.le_of_ble_eq_true rfl⟩ _ rfl (Nat.le_of_ble_eq_true rfl) dX7_digest_79 ?_
      refine j_iconst h (v := 0) (by decide) dX7_digest_82 ?_
      refine j_istore_n h hnL [(1, .int (0 : Int32)), (0, .ref (ad 7))] rfl (by decide) rfl dX7_digest_83 ?_
      exact j_sub [1, 0] rfl (k_X7_digest_84 h hM hnL hE fuel _ _ hF)
    · refine j_aload_n h 0 rfl rfl dX7_digest_62 ?_
      refine j_aload_n h 0 rfl rfl dX7_digest_63 ?_
      refine j_iload_n h 1 rfl rfl dX7_digest_64 ?_
      obtain ⟨r_13, hr_13, hF⟩ := bind_row hF
      refine j_callVi h (st := [.ref (ad 7)]) (S' := S) (c_X7_accountNow X.l X.D X.cI X.cZ X.cV hM S x1 hr_13) rfl rfl q5_77 cw_X7_accountNow hM.2.1.o rfl rfl rfl ⟨rfl, rfl, Nat.le_of_ble_eq_true rfl, Nat.le_of_ble_eq_true rfl⟩ _ rfl (Nat.le_of_ble_eq_true rfl) dX7_digest_65 ?_
      refine j_i2l h dX7_digest_68 ?_
      obtain ⟨r_14, hr_14, hF⟩ := bind_row hF
      refine j_callVv h (st := []) (S' := r_14) (c_X7_mix X.l X.D X.cI X.cZ X.cV hM S r_13.toInt64 hr_14) rfl rfl q5_138 cw_X7_mix hM.2.1.o rfl rfl rfl ⟨rfl, rfl, Nat.le_of_ble_eq_true rfl, Nat.le_of_ble_eq_true rfl⟩ _ rfl (Nat.le_of_ble_eq_true rfl) dX7_digest_69 ?_
      refine j_iincL hF (fun x_15 ex_15 hF => ?_)
      refine j_iinc h hnL 1 [(1, .int x_15), (0, .ref (ad 7))] rfl ex_15 (by decide) (by decide) rfl dX7_digest_72 ?_
      refine j_goto h 56 (by decide) dX7_digest_75 ?_
      exact j_sub [1, 0] rfl (ih _ _ hF)
set_option maxHeartbeats 4000000 in
set_option maxRecDepth 100000 in
theorem k_X7_digest_33 {X : JX RS} {ad : Nat → Nat} (h : OK X RX7 cX7_digest rmX7_digest) (hM : IsRef X.cI X.B ad) (hnL : X.nL = 2) {res : Int64 × RS} (hE : EXl X cX7_digest res.1 res.2) : ∀ (n : Nat) (x1 : Int32) (S : RS), f_X7_digest_33 n x1 S = some res → J X 33 [(0, .ref (ad 7)), (1, .int x1)] [] S := by
  intro n
  induction n with
  | zero =>
    intro x1 S hF
    rw [f_X7_digest_33] at hF
    cases hF
  | succ n ih =>
    intro x1 S hF
    rw [f_X7_digest_33] at hF
    refine j_iload_n h 1 rfl rfl dX7_digest_33 ?_
    refine j_iconst h (v := 4) (by decide) dX7_digest_34 ?_
    refine j_icmp_ge h 54 (by decide) dX7_digest_35 hF (fun hF => ?_) (fun hF => ?_)
    · refine j_iconst h (v := 0) (by decide) dX7_digest_54 ?_
      refine j_istore_n h hnL [(1, .int (0 : Int32)), (0, .ref (ad 7))] rfl (by decide) rfl dX7_digest_55 ?_
      exact j_sub [1, 0] rfl (k_X7_digest_56 h hM hnL hE fuel _ _ hF)
    · refine j_aload_n h 0 rfl rfl dX7_digest_38 ?_
      refine j_aload_n h 0 rfl rfl dX7_digest_39 ?_
      refine j_iload_n h 1 rfl rfl dX7_digest_40 ?_
      obtain ⟨r_16, hr_16, hF⟩ := bind_row hF
      refine j_callVi h (st := [.ref (ad 7)]) (S' := S) (c_X7_setting1 X.l X.D X.cI X.cZ X.cV hM S x1 hr_16) rfl rfl q4_126 cw_X7_setting1 hM.2.1.o rfl rfl rfl ⟨rfl, rfl, Nat.le_of_ble_eq_true rfl, Nat.le_of_ble_eq_true rfl⟩ _ rfl (Nat.le_of_ble_eq_true rfl) dX7_digest_41 ?_
      refine j_i2l h dX7_digest_44 ?_
      obtain ⟨r_17, hr_17, hF⟩ := bind_row hF
      refine j_callVv h (st := []) (S' := r_17) (c_X7_mix X.l X.D X.cI X.cZ X.cV hM S r_16.toInt64 hr_17) rfl rfl q5_138 cw_X7_mix hM.2.1.o rfl rfl rfl ⟨rfl, rfl, Nat.le_of_ble_eq_true rfl, Nat.le_of_ble_eq_true rfl⟩ _ rfl (Nat.le_of_ble_eq_true rfl) dX7_digest_45 ?_
      refine j_iincL hF (fun x_18 ex_18 hF => ?_)
      refine j_iinc h hnL 1 [(1, .int x_18), (0, .ref (ad 7))] rfl ex_18 (by decide) (by decide) rfl dX7_digest_48 ?_
      refine j_goto h 33 (by decide) dX7_digest_51 ?_
      exact j_sub [1, 0] rfl (ih _ _ hF)
set_option maxHeartbeats 4000000 in
set_option maxRecDepth 100000 in
theorem k_X7_digest_9 {X : JX RS} {ad : Nat → Nat} (h : OK X RX7 cX7_digest rmX7_digest) (hM : IsRef X.cI X.B ad) (hnL : X.nL = 2) {res : Int64 × RS} (hE : EXl X cX7_digest res.1 res.2) : ∀ (n : Nat) (x1 : Int32) (S : RS), f_X7_digest_9 n x1 S = some res → J X 9 [(0, .ref (ad 7)), (1, .int x1)] [] S := by
  intro n
  induction n with
  | zero =>
    intro x1 S hF
    rw [f_X7_digest_9] at hF
    cases hF
  | succ n ih =>
    intro x1 S hF
    rw [f_X7_digest_9] at hF
    refine j_iload_n h 1 rfl rfl dX7_digest_9 ?_
    refine j_bipush h (v := 8) (by decide) dX7_digest_10 ?_
    refine j_icmp_ge h 31 (by decide) dX7_digest_12 hF (fun hF => ?_) (fun hF => ?_)
    · refine j_iconst h (v := 0) (by decide) dX7_digest_31 ?_
      refine j_istore_n h hnL [(1, .int (0 : Int32)), (0, .ref (ad 7))] rfl (by decide) rfl dX7_digest_32 ?_
      exact j_sub [1, 0] rfl (k_X7_digest_33 h hM hnL hE fuel _ _ hF)
    · refine j_aload_n h 0 rfl rfl dX7_digest_15 ?_
      refine j_aload_n h 0 rfl rfl dX7_digest_16 ?_
      refine j_iload_n h 1 rfl rfl dX7_digest_17 ?_
      obtain ⟨r_19, hr_19, hF⟩ := bind_row hF
      refine j_callVi h (st := [.ref (ad 7)]) (S' := S) (c_X7_counted X.l X.D X.cI X.cZ X.cV hM S x1 hr_19) rfl rfl q5_89 cw_X7_counted hM.2.1.o rfl rfl rfl ⟨rfl, rfl, Nat.le_of_ble_eq_true rfl, Nat.le_of_ble_eq_true rfl⟩ _ rfl (Nat.le_of_ble_eq_true rfl) dX7_digest_18 ?_
      refine j_i2l h dX7_digest_21 ?_
      obtain ⟨r_20, hr_20, hF⟩ := bind_row hF
      refine j_callVv h (st := []) (S' := r_20) (c_X7_mix X.l X.D X.cI X.cZ X.cV hM S r_19.toInt64 hr_20) rfl rfl q5_138 cw_X7_mix hM.2.1.o rfl rfl rfl ⟨rfl, rfl, Nat.le_of_ble_eq_true rfl, Nat.le_of_ble_eq_true rfl⟩ _ rfl (Nat.le_of_ble_eq_true rfl) dX7_digest_22 ?_
      refine j_iincL hF (fun x_21 ex_21 hF => ?_)
      refine j_iinc h hnL 1 [(1, .int x_21), (0, .ref (ad 7))] rfl ex_21 (by decide) (by decide) rfl dX7_digest_25 ?_
      refine j_goto h 9 (by decide) dX7_digest_28 ?_
      exact j_sub [1, 0] rfl (ih _ _ hF)
set_option maxHeartbeats 4000000 in
set_option maxRecDepth 100000 in
theorem k_X7_digest {X : JX RS} {ad : Nat → Nat} (h : OK X RX7 cX7_digest rmX7_digest) (hM : IsRef X.cI X.B ad) (hnL : X.nL = 2) {res : Int64 × RS} {S : RS} (hE : EXl X cX7_digest res.1 res.2) (hF : f_X7_digest S = some res) : J X 0 [(0, .ref (ad 7))] [] S := by
  rw [f_X7_digest] at hF
  refine j_aload_n h 0 rfl rfl dX7_digest_0 ?_
  refine j_ldc2 h (v := 2111) q5_137 dX7_digest_1 ?_
  refine j_putl h (hM.2.2.2.2.2.2.2.2.2) inX7 tyX7_ok nmX7 rfl (by decide) rfl q4_39 (Nat.le_of_ble_eq_true rfl) dX7_digest_4 ?_
  refine j_letS hF (fun S_1 hF => ?_)
  refine j_iconst h (v := 0) (by decide) dX7_digest_7 ?_
  refine j_istore_n h hnL [(1, .int (0 : Int32)), (0, .ref (ad 7))] rfl (by decide) rfl dX7_digest_8 ?_
  exact j_sub [1, 0] rfl (k_X7_digest_9 h hM hnL hE fuel _ _ hF)
theorem c_X7_digest (l : Launch) (D : va_G) (cI cZ cV : ClassId) {B : RS → va_W} {ad : Nat → Nat} (hM : IsRef cI B ad) (S : RS) {r : Int64 × RS} (hF : f_X7_digest S = some r) : CTl l D (jtys cI cZ cV) yX7_digest cX7_digest 2 (some .long) rmX7_digest B [.ref (ad 7)] S r.1 r.2 := by
  refine CTl.of [(0, .ref (ad 7))] rfl (Nat.le_of_ble_eq_true rfl) (by decide) ⟨rfl, rfl⟩ (fun X e1 e2 e3 e4 e5 e6 e7 h hE => ?_)
  subst e1; subst e2; subst e3; subst e4; subst e5; subst e6
  exact k_X7_digest h hM e7 hE hF
