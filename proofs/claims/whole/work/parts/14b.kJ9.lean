abbrev rmJ9_floorMod_7cf53 : Room := { frames := 0, cells := 0, slots := 0, locals := 0 }
theorem cw_J9_floorMod_7cf53 : CWs yJ9_floorMod_7cf53 cJ9_floorMod_7cf53 3 (some .int) 2 := ⟨q2_205, q1_10, q2_206, ⟨by decide +kernel, by decide +kernel, by decide +kernel⟩⟩
set_option maxHeartbeats 4000000 in
set_option maxRecDepth 100000 in
theorem k_J9_floorMod_7cf53 {τ : Type} {X : JX τ} (h : OK X RJ9 cJ9_floorMod_7cf53 rmJ9_floorMod_7cf53) (hnL : X.nL = 3) {res : Int32} {S : τ} {p1 : Int32} {p2 : Int32} (hE : EXi X cJ9_floorMod_7cf53 res S) (hF : f_J9_floorMod_7cf53 p1 p2 = some res) : J X 0 [(0, .int p1), (1, .int p2)] [] S := by
  rw [f_J9_floorMod_7cf53] at hF
  refine j_iload_n h 0 rfl rfl dJ9_floorMod_7cf53_0 ?_
  refine j_iload_n h 1 rfl rfl dJ9_floorMod_7cf53_1 ?_
  obtain ⟨hb_1, hF⟩ := bnd_row hF
  refine j_irem h (nz_v hb_1) dJ9_floorMod_7cf53_2 ?_
  refine j_let hF (fun x_2 hF => ?_)
  refine j_istore_n h hnL [(2, .int x_2), (0, .int p1), (1, .int p2)] rfl (by decide) rfl dJ9_floorMod_7cf53_3 ?_
  refine j_iload_n h 1 rfl rfl dJ9_floorMod_7cf53_4 ?_
  refine j_iload_n h 2 rfl rfl dJ9_floorMod_7cf53_5 ?_
  refine j_ixor h dJ9_floorMod_7cf53_6 ?_
  refine j_if_ge h 18 (by decide) dJ9_floorMod_7cf53_7 hF (fun hF => ?_) (fun hF => ?_)
  · refine j_iload_n h 0 rfl rfl dJ9_floorMod_7cf53_18 ?_
    cases hF
    exact hE _ _ dJ9_floorMod_7cf53_19
  · refine j_iload_n h 0 rfl rfl dJ9_floorMod_7cf53_10 ?_
    refine j_if_eq h 18 (by decide) dJ9_floorMod_7cf53_11 hF (fun hF => ?_) (fun hF => ?_)
    · refine j_iload_n h 0 rfl rfl dJ9_floorMod_7cf53_18 ?_
      cases hF
      exact hE _ _ dJ9_floorMod_7cf53_19
    · refine j_iload_n h 0 rfl rfl dJ9_floorMod_7cf53_14 ?_
      refine j_iload_n h 2 rfl rfl dJ9_floorMod_7cf53_15 ?_
      refine j_iadd h dJ9_floorMod_7cf53_16 ?_
      cases hF
      exact hE _ _ dJ9_floorMod_7cf53_17
theorem c_J9_floorMod_7cf53 (l : Launch) (D : va_G) (cI cZ cV : ClassId) {τ : Type} {B : τ → va_W} (S : τ) (p1 : Int32) (p2 : Int32) {r : Int32} (hF : f_J9_floorMod_7cf53 p1 p2 = some r) : CTi l D (jtys cI cZ cV) yJ9_floorMod_7cf53 cJ9_floorMod_7cf53 3 (some .int) rmJ9_floorMod_7cf53 B [.int p1, .int p2] S r S := by
  refine CTi.of [(0, .int p1), (1, .int p2)] rfl (Nat.le_of_ble_eq_true rfl) (by decide) ⟨rfl, rfl⟩ (fun X e1 e2 e3 e4 e5 e6 e7 h hE => ?_)
  subst e1; subst e2; subst e3; subst e4; subst e5; subst e6
  exact k_J9_floorMod_7cf53 h e7 hE hF
