abbrev rmJxe99ae_isNaN_b9ae7 : Room := { frames := 0, cells := 0, slots := 0, locals := 0 }
theorem cw_Jxe99ae_isNaN_b9ae7 : CWs yJxe99ae_isNaN_b9ae7 cJxe99ae_isNaN_b9ae7 2 (some .boolean) 1 := ⟨q5_152, q1_11, q5_153, ⟨by decide +kernel, by decide +kernel, by decide +kernel⟩⟩
set_option maxHeartbeats 4000000 in
set_option maxRecDepth 100000 in
theorem k_Jxe99ae_isNaN_b9ae7 {τ : Type} {X : JX τ} (h : OK X RJxe99ae cJxe99ae_isNaN_b9ae7 rmJxe99ae_isNaN_b9ae7) (hnL : X.nL = 2) {res : Int32} {S : τ} {p1 : UInt64} (hE : EXz X cJxe99ae_isNaN_b9ae7 res S) (hF : f_Jxe99ae_isNaN_b9ae7 p1 = some res) : J X 0 [(0, .double p1)] [] S := by
  rw [f_Jxe99ae_isNaN_b9ae7] at hF
  refine j_dload_n h 0 rfl rfl dJxe99ae_isNaN_b9ae7_0 ?_
  refine j_dload_n h 0 rfl rfl dJxe99ae_isNaN_b9ae7_1 ?_
  refine j_dcmp h dJxe99ae_isNaN_b9ae7_2 ?_
  refine j_if_eq h 10 (by decide) dJxe99ae_isNaN_b9ae7_3 hF (fun hF => ?_) (fun hF => ?_)
  · refine j_iconst h (v := 0) (by decide) dJxe99ae_isNaN_b9ae7_10 ?_
    cases hF
    exact hE _ _ dJxe99ae_isNaN_b9ae7_11 (isB_v (y := (0 : Int32)) (by decide))
  · refine j_iconst h (v := 1) (by decide) dJxe99ae_isNaN_b9ae7_6 ?_
    refine j_goto h 11 (by decide) dJxe99ae_isNaN_b9ae7_7 ?_
    cases hF
    exact hE _ _ dJxe99ae_isNaN_b9ae7_11 (isB_v (y := (1 : Int32)) (by decide))
theorem c_Jxe99ae_isNaN_b9ae7 (l : Launch) (D : va_G) (cI cZ cV : ClassId) {τ : Type} {B : τ → va_W} (S : τ) (p1 : UInt64) {r : Int32} (hF : f_Jxe99ae_isNaN_b9ae7 p1 = some r) : CTz l D (jtys cI cZ cV) yJxe99ae_isNaN_b9ae7 cJxe99ae_isNaN_b9ae7 2 (some .boolean) rmJxe99ae_isNaN_b9ae7 B [.double p1] S r S := by
  refine CTz.of [(0, .double p1)] rfl (Nat.le_of_ble_eq_true rfl) (by decide) ⟨rfl, rfl⟩ (fun X e1 e2 e3 e4 e5 e6 e7 h hE => ?_)
  subst e1; subst e2; subst e3; subst e4; subst e5; subst e6
  exact k_Jxe99ae_isNaN_b9ae7 h e7 hE hF
abbrev rmJxe99ae_doubleToLongBits_ccdee : Room := { frames := 1, cells := 0, slots := 0, locals := 26 }
theorem cw_Jxe99ae_doubleToLongBits_ccdee : CWs yJxe99ae_doubleToLongBits_ccdee cJxe99ae_doubleToLongBits_ccdee 2 (some .long) 1 := ⟨q5_149, q1_11, q5_150, ⟨by decide +kernel, by decide +kernel, by decide +kernel⟩⟩
set_option maxHeartbeats 4000000 in
set_option maxRecDepth 100000 in
theorem k_Jxe99ae_doubleToLongBits_ccdee {τ : Type} {X : JX τ} (h : OK X RJxe99ae cJxe99ae_doubleToLongBits_ccdee rmJxe99ae_doubleToLongBits_ccdee) (hnL : X.nL = 2) {res : Int64} {S : τ} {p1 : UInt64} (hE : EXl X cJxe99ae_doubleToLongBits_ccdee res S) (hF : f_Jxe99ae_doubleToLongBits_ccdee p1 = some res) : J X 0 [(0, .double p1)] [] S := by
  rw [f_Jxe99ae_doubleToLongBits_ccdee] at hF
  refine j_dload_n h 0 rfl rfl dJxe99ae_doubleToLongBits_ccdee_0 ?_
  obtain ⟨r_1, hr_1, hF⟩ := bind_row hF
  refine j_callSz h (st := []) (S' := S) (c_Jxe99ae_isNaN_b9ae7 X.l X.D X.cI X.cZ X.cV (B := X.B) S p1 hr_1) rfl rfl q5_151 cw_Jxe99ae_isNaN_b9ae7 rfl ⟨rfl, rfl, Nat.le_of_ble_eq_true rfl, Nat.le_of_ble_eq_true rfl⟩ _ rfl (Nat.le_of_ble_eq_true rfl) dJxe99ae_doubleToLongBits_ccdee_1 (fun hz_r_1 => ?_)
  refine j_if_ne h 12 (by decide) dJxe99ae_doubleToLongBits_ccdee_4 hF (fun hF => ?_) (fun hF => ?_)
  · refine j_dload_n h 0 rfl rfl dJxe99ae_doubleToLongBits_ccdee_7 ?_
    refine j_d2raw h q5_154 ⟨Nat.le_of_ble_eq_true rfl, Nat.le_of_ble_eq_true rfl⟩ dJxe99ae_doubleToLongBits_ccdee_8 ?_
    cases hF
    exact hE _ _ dJxe99ae_doubleToLongBits_ccdee_11
  · refine j_ldc2 h (v := 9221120237041090560) q5_157 dJxe99ae_doubleToLongBits_ccdee_12 ?_
    cases hF
    exact hE _ _ dJxe99ae_doubleToLongBits_ccdee_15
theorem c_Jxe99ae_doubleToLongBits_ccdee (l : Launch) (D : va_G) (cI cZ cV : ClassId) {τ : Type} {B : τ → va_W} (S : τ) (p1 : UInt64) {r : Int64} (hF : f_Jxe99ae_doubleToLongBits_ccdee p1 = some r) : CTl l D (jtys cI cZ cV) yJxe99ae_doubleToLongBits_ccdee cJxe99ae_doubleToLongBits_ccdee 2 (some .long) rmJxe99ae_doubleToLongBits_ccdee B [.double p1] S r S := by
  refine CTl.of [(0, .double p1)] rfl (Nat.le_of_ble_eq_true rfl) (by decide) ⟨rfl, rfl⟩ (fun X e1 e2 e3 e4 e5 e6 e7 h hE => ?_)
  subst e1; subst e2; subst e3; subst e4; subst e5; subst e6
  exact k_Jxe99ae_doubleToLongBits_ccdee h e7 hE hF
