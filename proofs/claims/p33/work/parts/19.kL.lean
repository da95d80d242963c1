/-! the law's own reading of the script -/
abbrev rmL_cell : Room := { frames := 0, cells := 0, slots := 0, locals := 0 }
theorem cw_L_cell : CWs yL_cell cL_cell 2 (some .int) 2 := ⟨q1_220, q1_0, q1_221, ⟨by decide +kernel, by decide +kernel, by decide +kernel⟩⟩
set_option maxHeartbeats 4000000 in
set_option maxRecDepth 100000 in
theorem k_L_cell {τ : Type} {X : JX τ} {b : Nat} {sc : Nat × (Nat → Int32)} (h : OK X RL cL_cell rmL_cell) (hSc : Scr b sc.1 sc.2 X.A X.s X.s.heap) (hnL : X.nL = 2) {res : Int32} {S : τ} {p2 : Int32} (hE : EXi X cL_cell res S) (hF : f_L_cell sc p2 = some res) : J X 0 [(0, .ref b), (1, .int p2)] [] S := by
  rw [f_L_cell] at hF
  refine j_iload_n h 1 rfl rfl dL_cell_0 ?_
  refine j_aload_n h 0 rfl rfl dL_cell_1 ?_
  refine j_slenG h hSc dL_cell_2 ?_
  refine j_icmp_ge h 12 (by decide) dL_cell_3 hF (fun hF => ?_) (fun hF => ?_)
  · refine j_ldc h (v := 1541459225) q1_222 dL_cell_12 ?_
    refine j_iload_n h 1 rfl rfl dL_cell_14 ?_
    refine j_bipush h (v := 97) (by decide) dL_cell_15 ?_
    refine j_iadd h dL_cell_17 ?_
    refine j_imul h dL_cell_18 ?_
    cases hF
    exact hE _ _ dL_cell_19
  · refine j_aload_n h 0 rfl rfl dL_cell_6 ?_
    refine j_iload_n h 1 rfl rfl dL_cell_7 ?_
    obtain ⟨hb_1, hF⟩ := bnd_row hF
    refine j_sldG h hSc hb_1 dL_cell_8 ?_
    refine j_goto h 19 (by decide) dL_cell_9 ?_
    cases hF
    exact hE _ _ dL_cell_19
theorem c_L_cell (l : Launch) (D : va_G) (cI cZ cV : ClassId) {τ : Type} {B : τ → va_W} {b : Nat} (sc : Nat × (Nat → Int32)) (S : τ) (p2 : Int32) {r : Int32} (hF : f_L_cell sc p2 = some r) : CTix b sc.1 sc.2 l D (jtys cI cZ cV) yL_cell cL_cell 2 (some .int) rmL_cell B [.ref b, .int p2] S r S := by
  refine CTix.of [(0, .ref b), (1, .int p2)] rfl (Nat.le_of_ble_eq_true rfl) (by decide) ⟨rfl, rfl⟩ (fun X e1 e2 e3 e4 e5 e6 e7 h hSc hE => ?_)
  subst e1; subst e2; subst e3; subst e4; subst e5; subst e6
  exact k_L_cell h hSc e7 hE hF
abbrev rmL_at : Room := { frames := 0, cells := 0, slots := 0, locals := 0 }
theorem cw_L_at : CWs yL_at cL_at 2 (some .int) 2 := ⟨q1_224, q1_0, q1_225, ⟨by decide +kernel, by decide +kernel, by decide +kernel⟩⟩
set_option maxHeartbeats 4000000 in
set_option maxRecDepth 100000 in
theorem k_L_at {τ : Type} {X : JX τ} (h : OK X RL cL_at rmL_at) (hnL : X.nL = 2) {res : Int32} {S : τ} {p1 : Int32} {p2 : Int32} (hE : EXi X cL_at res S) (hF : f_L_at p1 p2 = some res) : J X 0 [(0, .int p1), (1, .int p2)] [] S := by
  rw [f_L_at] at hF
  refine j_iload_n h 0 rfl rfl dL_at_0 ?_
  refine j_iconst h (v := 1) (by decide) dL_at_1 ?_
  refine j_iushr h dL_at_2 ?_
  refine j_iload_n h 1 rfl rfl dL_at_3 ?_
  obtain ⟨hb_1, hF⟩ := bnd_row hF
  refine j_irem h (nz_v hb_1) dL_at_4 ?_
  cases hF
  exact hE _ _ dL_at_5
theorem c_L_at (l : Launch) (D : va_G) (cI cZ cV : ClassId) {τ : Type} {B : τ → va_W} (S : τ) (p1 : Int32) (p2 : Int32) {r : Int32} (hF : f_L_at p1 p2 = some r) : CTi l D (jtys cI cZ cV) yL_at cL_at 2 (some .int) rmL_at B [.int p1, .int p2] S r S := by
  refine CTi.of [(0, .int p1), (1, .int p2)] rfl (Nat.le_of_ble_eq_true rfl) (by decide) ⟨rfl, rfl⟩ (fun X e1 e2 e3 e4 e5 e6 e7 h hE => ?_)
  subst e1; subst e2; subst e3; subst e4; subst e5; subst e6
  exact k_L_at h e7 hE hF
abbrev rmL_draw : Room := { frames := 0, cells := 0, slots := 0, locals := 0 }
theorem cw_L_draw : CWs yL_draw cL_draw 4 (some .int) 3 := ⟨q2_178, q1_0, q2_179, ⟨by decide +kernel, by decide +kernel, by decide +kernel⟩⟩
set_option maxHeartbeats 4000000 in
set_option maxRecDepth 100000 in
theorem k_L_draw {X : JX VS} {al : Nat → Nat} (h : OK X RL cL_draw rmL_draw) (hL : IsLaw X.cI X.B al) (hnL : X.nL = 4) {res : Int32} {S : VS} {p1 : Int32} (hE : EXi X cL_draw res S) (hF : f_L_draw S p1 = some res) : J X 0 [(0, .int p1), (1, .ref (al 0)), (2, .ref (al 1))] [] S := by
  rw [f_L_draw] at hF
  refine j_bipush h (v := 6) (by decide) dL_draw_0 ?_
  refine j_iload_n h 0 rfl rfl dL_draw_2 ?_
  refine j_imul h dL_draw_3 ?_
  refine j_let hF (fun x_1 hF => ?_)
  refine j_istore_n h hnL [(3, .int x_1), (0, .int p1), (1, .ref (al 0)), (2, .ref (al 1))] rfl (by decide) rfl dL_draw_4 ?_
  refine j_aload_n h 3 rfl rfl dL_draw_5 ?_
  refine j_iload_n h 0 rfl rfl dL_draw_6 ?_
  refine j_iconst h (v := 3) (by decide) dL_draw_7 ?_
  refine j_iadd h dL_draw_8 ?_
  obtain ⟨hb_2, hF⟩ := bnd_row hF
  refine ja_iald h (get := fun v => v) (put := fun _ v => v) (hL 1 (by decide)) hb_2 dL_draw_9 ?_
  refine j_if_eq h 25 (by decide) dL_draw_10 hF (fun hF => ?_) (fun hF => ?_)
  · refine j_iconst h (v := 0) (by decide) dL_draw_25 ?_
    cases hF
    exact hE _ _ dL_draw_26
  · refine j_aload_n h 3 rfl rfl dL_draw_13 ?_
    refine j_iload_n h 0 rfl rfl dL_draw_14 ?_
    refine j_iconst h (v := 4) (by decide) dL_draw_15 ?_
    refine j_iadd h dL_draw_16 ?_
    obtain ⟨hb_3, hF⟩ := bnd_row hF
    refine ja_iald h (get := fun v => v) (put := fun _ v => v) (hL 1 (by decide)) hb_3 dL_draw_17 ?_
    refine j_aload_n h 2 rfl rfl dL_draw_18 ?_
    refine j_iconst h (v := 4) (by decide) dL_draw_19 ?_
    obtain ⟨hb_4, hF⟩ := bnd_row hF
    refine ja_iald h (get := fun v => v) (put := fun _ v => v) (hL 0 (by decide)) hb_4 dL_draw_20 ?_
    refine j_iadd h dL_draw_21 ?_
    refine j_if_ge h 27 (by decide) dL_draw_22 hF (fun hF => ?_) (fun hF => ?_)
    · refine j_aload_n h 3 rfl rfl dL_draw_27 ?_
      refine j_iload_n h 0 rfl rfl dL_draw_28 ?_
      refine j_iconst h (v := 4) (by decide) dL_draw_29 ?_
      refine j_iadd h dL_draw_30 ?_
      obtain ⟨hb_5, hF⟩ := bnd_row hF
      refine ja_iald h (get := fun v => v) (put := fun _ v => v) (hL 1 (by decide)) hb_5 dL_draw_31 ?_
      refine j_aload_n h 2 rfl rfl dL_draw_32 ?_
      refine j_iconst h (v := 4) (by decide) dL_draw_33 ?_
      obtain ⟨hb_6, hF⟩ := bnd_row hF
      refine ja_iald h (get := fun v => v) (put := fun _ v => v) (hL 0 (by decide)) hb_6 dL_draw_34 ?_
      refine j_iadd h dL_draw_35 ?_
      refine j_aload_n h 3 rfl rfl dL_draw_36 ?_
      refine j_iload_n h 0 rfl rfl dL_draw_37 ?_
      refine j_iconst h (v := 1) (by decide) dL_draw_38 ?_
      refine j_iadd h dL_draw_39 ?_
      obtain ⟨hb_7, hF⟩ := bnd_row hF
      refine ja_iald h (get := fun v => v) (put := fun _ v => v) (hL 1 (by decide)) hb_7 dL_draw_40 ?_
      refine j_icmp_ge h 56 (by decide) dL_draw_41 hF (fun hF => ?_) (fun hF => ?_)
      · refine j_aload_n h 3 rfl rfl dL_draw_56 ?_
        refine j_iload_n h 0 rfl rfl dL_draw_57 ?_
        refine j_iconst h (v := 1) (by decide) dL_draw_58 ?_
        refine j_iadd h dL_draw_59 ?_
        obtain ⟨hb_8, hF⟩ := bnd_row hF
        refine ja_iald h (get := fun v => v) (put := fun _ v => v) (hL 1 (by decide)) hb_8 dL_draw_60 ?_
        cases hF
        exact hE _ _ dL_draw_61
      · refine j_aload_n h 3 rfl rfl dL_draw_44 ?_
        refine j_iload_n h 0 rfl rfl dL_draw_45 ?_
        refine j_iconst h (v := 4) (by decide) dL_draw_46 ?_
        refine j_iadd h dL_draw_47 ?_
        obtain ⟨hb_9, hF⟩ := bnd_row hF
        refine ja_iald h (get := fun v => v) (put := fun _ v => v) (hL 1 (by decide)) hb_9 dL_draw_48 ?_
        refine j_aload_n h 2 rfl rfl dL_draw_49 ?_
        refine j_iconst h (v := 4) (by decide) dL_draw_50 ?_
        obtain ⟨hb_10, hF⟩ := bnd_row hF
        refine ja_iald h (get := fun v => v) (put := fun _ v => v) (hL 0 (by decide)) hb_10 dL_draw_51 ?_
        refine j_iadd h dL_draw_52 ?_
        refine j_goto h 61 (by decide) dL_draw_53 ?_
        cases hF
        exact hE _ _ dL_draw_61
    · refine j_iconst h (v := 0) (by decide) dL_draw_25 ?_
      cases hF
      exact hE _ _ dL_draw_26
theorem c_L_draw (l : Launch) (D : va_G) (cI cZ cV : ClassId) {B : VS → va_W} {al : Nat → Nat} (hL : IsLaw cI B al) (S : VS) (p1 : Int32) {r : Int32} (hF : f_L_draw S p1 = some r) : CTi l D (jtys cI cZ cV) yL_draw cL_draw 4 (some .int) rmL_draw B [.int p1, .ref (al 0), .ref (al 1)] S r S := by
  refine CTi.of [(0, .int p1), (1, .ref (al 0)), (2, .ref (al 1))] rfl (Nat.le_of_ble_eq_true rfl) (by decide) ⟨rfl, rfl⟩ (fun X e1 e2 e3 e4 e5 e6 e7 h hE => ?_)
  subst e1; subst e2; subst e3; subst e4; subst e5; subst e6
  exact k_L_draw h hL e7 hE hF
abbrev rmL_give : Room := { frames := 0, cells := 0, slots := 0, locals := 0 }
theorem cw_L_give : CWs yL_give cL_give 2 (some .int) 2 := ⟨q2_172, q1_0, q2_173, ⟨by decide +kernel, by decide +kernel, by decide +kernel⟩⟩
set_option maxHeartbeats 4000000 in
set_option maxRecDepth 100000 in
theorem k_L_give {X : JX VS} {al : Nat → Nat} (h : OK X RL cL_give rmL_give) (hL : IsLaw X.cI X.B al) (hnL : X.nL = 2) {res : Int32} {S : VS} {p1 : Int32} (hE : EXi X cL_give res S) (hF : f_L_give S p1 = some res) : J X 0 [(0, .int p1), (1, .ref (al 4))] [] S := by
  rw [f_L_give] at hF
  refine j_aload_n h 1 rfl rfl dL_give_0 ?_
  refine j_iconst h (v := 4) (by decide) dL_give_1 ?_
  refine j_iload_n h 0 rfl rfl dL_give_2 ?_
  refine j_imul h dL_give_3 ?_
  refine j_iconst h (v := 3) (by decide) dL_give_4 ?_
  refine j_iadd h dL_give_5 ?_
  obtain ⟨hb_1, hF⟩ := bnd_row hF
  refine ja_iald h (get := fun v => v) (put := fun _ v => v) (hL 4 (by decide)) hb_1 dL_give_6 ?_
  refine j_aload_n h 1 rfl rfl dL_give_7 ?_
  refine j_iconst h (v := 4) (by decide) dL_give_8 ?_
  refine j_iload_n h 0 rfl rfl dL_give_9 ?_
  refine j_imul h dL_give_10 ?_
  refine j_iconst h (v := 1) (by decide) dL_give_11 ?_
  refine j_iadd h dL_give_12 ?_
  obtain ⟨hb_2, hF⟩ := bnd_row hF
  refine ja_iald h (get := fun v => v) (put := fun _ v => v) (hL 4 (by decide)) hb_2 dL_give_13 ?_
  refine j_icmp_le h 27 (by decide) dL_give_14 hF (fun hF => ?_) (fun hF => ?_)
  · refine j_aload_n h 1 rfl rfl dL_give_27 ?_
    refine j_iconst h (v := 4) (by decide) dL_give_28 ?_
    refine j_iload_n h 0 rfl rfl dL_give_29 ?_
    refine j_imul h dL_give_30 ?_
    refine j_iconst h (v := 3) (by decide) dL_give_31 ?_
    refine j_iadd h dL_give_32 ?_
    obtain ⟨hb_3, hF⟩ := bnd_row hF
    refine ja_iald h (get := fun v => v) (put := fun _ v => v) (hL 4 (by decide)) hb_3 dL_give_33 ?_
    cases hF
    exact hE _ _ dL_give_34
  · refine j_aload_n h 1 rfl rfl dL_give_17 ?_
    refine j_iconst h (v := 4) (by decide) dL_give_18 ?_
    refine j_iload_n h 0 rfl rfl dL_give_19 ?_
    refine j_imul h dL_give_20 ?_
    refine j_iconst h (v := 1) (by decide) dL_give_21 ?_
    refine j_iadd h dL_give_22 ?_
    obtain ⟨hb_4, hF⟩ := bnd_row hF
    refine ja_iald h (get := fun v => v) (put := fun _ v => v) (hL 4 (by decide)) hb_4 dL_give_23 ?_
    refine j_goto h 34 (by decide) dL_give_24 ?_
    cases hF
    exact hE _ _ dL_give_34
theorem c_L_give (l : Launch) (D : va_G) (cI cZ cV : ClassId) {B : VS → va_W} {al : Nat → Nat} (hL : IsLaw cI B al) (S : VS) (p1 : Int32) {r : Int32} (hF : f_L_give S p1 = some r) : CTi l D (jtys cI cZ cV) yL_give cL_give 2 (some .int) rmL_give B [.int p1, .ref (al 4)] S r S := by
  refine CTi.of [(0, .int p1), (1, .ref (al 4))] rfl (Nat.le_of_ble_eq_true rfl) (by decide) ⟨rfl, rfl⟩ (fun X e1 e2 e3 e4 e5 e6 e7 h hE => ?_)
  subst e1; subst e2; subst e3; subst e4; subst e5; subst e6
  exact k_L_give h hL e7 hE hF
abbrev rmL_wants : Room := { frames := 1, cells := 0, slots := 0, locals := 23 }
theorem cw_L_wants : CWs yL_wants cL_wants 6 (some .int) 4 := ⟨q2_175, q1_0, q2_176, ⟨by decide +kernel, by decide +kernel, by decide +kernel⟩⟩
set_option maxHeartbeats 4000000 in
set_option maxRecDepth 100000 in
theorem k_L_wants_55 {X : JX VS} {al : Nat → Nat} (h : OK X RL cL_wants rmL_wants) (hL : IsLaw X.cI X.B al) (hnL : X.nL = 6) {res : Int32} {S : VS} {x0 : Int32} {x1 : Int32} {x4 : Int32} {x5 : Int32} {K6 : Int32 → Int32 → Option (Int32)} (hK6 : ∀ (x4 : Int32) (x5 : Int32), K6 x4 x5 = some res → J X 6 [(0, .int x0), (1, .int x1), (2, .ref (al 0)), (3, .ref (al 1)), (4, .int x4), (5, .int x5)] [] S) (hE : EXi X cL_wants res S) (hF : f_L_wants_55 K6 S x0 x1 x4 x5 = some res) : J X 55 [(0, .int x0), (1, .int x1), (2, .ref (al 0)), (3, .ref (al 1)), (4, .int x4), (5, .int x5)] [] S := by
  rw [f_L_wants_55] at hF
  refine j_iincL hF (fun x_5 ex_5 hF => ?_)
  refine j_iinc h hnL 5 [(5, .int x_5), (0, .int x0), (1, .int x1), (2, .ref (al 0)), (3, .ref (al 1)), (4, .int x4)] rfl ex_5 (by decide) (by decide) rfl dL_wants_55 ?_
  refine j_goto h 6 (by decide) dL_wants_58 ?_
  exact j_sub [1, 2, 3, 4, 5, 0] rfl (hK6 _ _ hF)
set_option maxHeartbeats 4000000 in
set_option maxRecDepth 100000 in
theorem k_L_wants_29 {X : JX VS} {al : Nat → Nat} (h : OK X RL cL_wants rmL_wants) (hL : IsLaw X.cI X.B al) (hnL : X.nL = 6) {res : Int32} {S : VS} {x0 : Int32} {x1 : Int32} {x4 : Int32} {x5 : Int32} {K6 : Int32 → Int32 → Option (Int32)} (hK6 : ∀ (x4 : Int32) (x5 : Int32), K6 x4 x5 = some res → J X 6 [(0, .int x0), (1, .int x1), (2, .ref (al 0)), (3, .ref (al 1)), (4, .int x4), (5, .int x5)] [] S) (hE : EXi X cL_wants res S) (hF : f_L_wants_29 K6 S x0 x1 x4 x5 = some res) : J X 29 [(0, .int x0), (1, .int x1), (2, .ref (al 0)), (3, .ref (al 1)), (4, .int x4), (5, .int x5)] [] S := by
  rw [f_L_wants_29] at hF
  refine j_iload_n h 1 rfl rfl dL_wants_29 ?_
  refine j_aload_n h 3 rfl rfl dL_wants_30 ?_
  refine j_bipush h (v := 6) (by decide) dL_wants_31 ?_
  refine j_iload h 5 rfl dL_wants_33 ?_
  refine j_imul h dL_wants_35 ?_
  obtain ⟨hb_2, hF⟩ := bnd_row hF
  refine ja_iald h (get := fun v => v) (put := fun _ v => v) (hL 1 (by decide)) hb_2 dL_wants_36 ?_
  refine j_ishr h dL_wants_37 ?_
  refine j_iconst h (v := 1) (by decide) dL_wants_38 ?_
  refine j_iand h dL_wants_39 ?_
  refine j_if_ne h 55 (by decide) dL_wants_40 hF (fun hF => ?_) (fun hF => ?_)
  · refine j_iload h 4 rfl dL_wants_43 ?_
    refine j_iload h 5 rfl dL_wants_45 ?_
    refine j_aload_n h 2 rfl rfl dL_wants_47 ?_
    refine j_aload_n h 3 rfl rfl dL_wants_48 ?_
    obtain ⟨r_3, hr_3, hF⟩ := bind_row hF
    refine j_callSi h (st := [.int x4]) (S' := S) (c_L_draw X.l X.D X.cI X.cZ X.cV hL S x5 hr_3) rfl rfl q2_177 cw_L_draw rfl ⟨rfl, rfl, Nat.le_of_ble_eq_true rfl, Nat.le_of_ble_eq_true rfl⟩ _ rfl (Nat.le_of_ble_eq_true rfl) dL_wants_49 ?_
    refine j_iadd h dL_wants_52 ?_
    refine j_let hF (fun x_4 hF => ?_)
    refine j_istore h hnL [(4, .int x_4), (0, .int x0), (1, .int x1), (2, .ref (al 0)), (3, .ref (al 1)), (5, .int x5)] (by decide) rfl dL_wants_53 ?_
    exact j_sub [1, 2, 3, 4, 0, 5] rfl (k_L_wants_55 h hL hnL hK6 hE hF)
  · exact j_sub [0, 1, 2, 3, 4, 5] rfl (k_L_wants_55 h hL hnL hK6 hE hF)
set_option maxHeartbeats 4000000 in
set_option maxRecDepth 100000 in
theorem k_L_wants_6 {X : JX VS} {al : Nat → Nat} (h : OK X RL cL_wants rmL_wants) (hL : IsLaw X.cI X.B al) (hnL : X.nL = 6) {res : Int32} {S : VS} {x0 : Int32} {x1 : Int32} (hE : EXi X cL_wants res S) : ∀ (n : Nat) (x4 : Int32) (x5 : Int32), f_L_wants_6 S x0 x1 n x4 x5 = some res → J X 6 [(0, .int x0), (1, .int x1), (2, .ref (al 0)), (3, .ref (al 1)), (4, .int x4), (5, .int x5)] [] S := by
  intro n
  induction n with
  | zero =>
    intro x4 x5 hF
    rw [f_L_wants_6] at hF
    cases hF
  | succ n ih =>
    intro x4 x5 hF
    rw [f_L_wants_6] at hF
    refine j_iload h 5 rfl dL_wants_6 ?_
    refine j_aload_n h 2 rfl rfl dL_wants_8 ?_
    refine j_iconst h (v := 0) (by decide) dL_wants_9 ?_
    obtain ⟨hb_1, hF⟩ := bnd_row hF
    refine ja_iald h (get := fun v => v) (put := fun _ v => v) (hL 0 (by decide)) hb_1 dL_wants_10 ?_
    refine j_icmp_ge h 61 (by decide) dL_wants_11 hF (fun hF => ?_) (fun hF => ?_)
    · refine j_iload h 4 rfl dL_wants_61 ?_
      cases hF
      exact hE _ _ dL_wants_63
    · refine j_iload_n h 0 rfl rfl dL_wants_14 ?_
      refine j_if_lt h 29 (by decide) dL_wants_15 hF (fun hF => ?_) (fun hF => ?_)
      · exact j_sub [0, 1, 2, 3, 4, 5] rfl (k_L_wants_29 h hL hnL ih hE hF)
      · refine j_aload_n h 3 rfl rfl dL_wants_18 ?_
        refine j_bipush h (v := 6) (by decide) dL_wants_19 ?_
        refine j_iload h 5 rfl dL_wants_21 ?_
        refine j_imul h dL_wants_23 ?_
        obtain ⟨hb_6, hF⟩ := bnd_row hF
        refine ja_iald h (get := fun v => v) (put := fun _ v => v) (hL 1 (by decide)) hb_6 dL_wants_24 ?_
        refine j_iload_n h 0 rfl rfl dL_wants_25 ?_
        refine j_icmp_ne h 55 (by decide) dL_wants_26 hF (fun hF => ?_) (fun hF => ?_)
        · exact j_sub [0, 1, 2, 3, 4, 5] rfl (k_L_wants_29 h hL hnL ih hE hF)
        · exact j_sub [0, 1, 2, 3, 4, 5] rfl (k_L_wants_55 h hL hnL ih hE hF)
set_option maxHeartbeats 4000000 in
set_option maxRecDepth 100000 in
theorem k_L_wants {X : JX VS} {al : Nat → Nat} (h : OK X RL cL_wants rmL_wants) (hL : IsLaw X.cI X.B al) (hnL : X.nL = 6) {res : Int32} {S : VS} {p1 : Int32} {p2 : Int32} (hE : EXi X cL_wants res S) (hF : f_L_wants S p1 p2 = some res) : J X 0 [(0, .int p1), (1, .int p2), (2, .ref (al 0)), (3, .ref (al 1))] [] S := by
  rw [f_L_wants] at hF
  refine j_iconst h (v := 0) (by decide) dL_wants_0 ?_
  refine j_istore h hnL [(4, .int (0 : Int32)), (0, .int p1), (1, .int p2), (2, .ref (al 0)), (3, .ref (al 1))] (by decide) rfl dL_wants_1 ?_
  refine j_iconst h (v := 0) (by decide) dL_wants_3 ?_
  refine j_istore h hnL [(5, .int (0 : Int32)), (4, .int (0 : Int32)), (0, .int p1), (1, .int p2), (2, .ref (al 0)), (3, .ref (al 1))] (by decide) rfl dL_wants_4 ?_
  exact j_sub [2, 3, 4, 5, 1, 0] rfl (k_L_wants_6 h hL hnL hE fuel _ _ hF)
theorem c_L_wants (l : Launch) (D : va_G) (cI cZ cV : ClassId) {B : VS → va_W} {al : Nat → Nat} (hL : IsLaw cI B al) (S : VS) (p1 : Int32) (p2 : Int32) {r : Int32} (hF : f_L_wants S p1 p2 = some r) : CTi l D (jtys cI cZ cV) yL_wants cL_wants 6 (some .int) rmL_wants B [.int p1, .int p2, .ref (al 0), .ref (al 1)] S r S := by
  refine CTi.of [(0, .int p1), (1, .int p2), (2, .ref (al 0)), (3, .ref (al 1))] rfl (Nat.le_of_ble_eq_true rfl) (by decide) ⟨rfl, rfl⟩ (fun X e1 e2 e3 e4 e5 e6 e7 h hE => ?_)
  subst e1; subst e2; subst e3; subst e4; subst e5; subst e6
  exact k_L_wants h hL e7 hE hF
abbrev rmL_hour : Room := { frames := 2, cells := 0, slots := 0, locals := 48 }
theorem cw_L_hour : CWs yL_hour cL_hour 14 none 5 := ⟨q2_169, q1_0, q2_170, ⟨by decide +kernel, by decide +kernel, by decide +kernel⟩⟩
set_option maxHeartbeats 4000000 in
set_option maxRecDepth 100000 in
theorem k_L_hour_570 {X : JX VS} {al : Nat → Nat} (h : OK X RL cL_hour rmL_hour) (hL : IsLaw X.cI X.B al) (hnL : X.nL = 14) {res : VS} {S : VS} {x5 : Int32} {x9 : Int32} {x10 : Int32} {x11 : Int32} {K399 : Int32 → Int32 → VS → Option (VS)} (hK399 : ∀ (x10 : Int32) (x11 : Int32) (S : VS), K399 x10 x11 S = some res → J X 399 [(0, .ref (al 0)), (3, .ref (al 4)), (5, .int x5), (9, .int x9), (10, .int x10), (11, .int x11)] [] S) (hE : EXv X cL_hour res) (hF : f_L_hour_570 K399 S x5 x9 x10 x11 = some res) : J X 570 [(0, .ref (al 0)), (3, .ref (al 4)), (5, .int x5), (9, .int x9), (10, .int x10), (11, .int x11)] [] S := by
  rw [f_L_hour_570] at hF
  refine j_iincL hF (fun x_36 ex_36 hF => ?_)
  refine j_iinc h hnL 5 [(11, .int x_36), (0, .ref (al 0)), (3, .ref (al 4)), (5, .int x5), (9, .int x9), (10, .int x10)] rfl ex_36 (by decide) (by decide) rfl dL_hour_570 ?_
  refine j_goto h 399 (by decide) dL_hour_573 ?_
  exact j_sub [1, 2, 3, 4, 5, 0] rfl (hK399 _ _ _ hF)
set_option maxHeartbeats 4000000 in
set_option maxRecDepth 100000 in
theorem k_L_hour_520 {X : JX VS} {al : Nat → Nat} (h : OK X RL cL_hour rmL_hour) (hL : IsLaw X.cI X.B al) (hnL : X.nL = 14) {res : VS} {S : VS} {x5 : Int32} {x9 : Int32} {x10 : Int32} {x11 : Int32} {x12 : Int32} {x13 : Int32} {K399 : Int32 → Int32 → VS → Option (VS)} (hK399 : ∀ (x10 : Int32) (x11 : Int32) (S : VS), K399 x10 x11 S = some res → J X 399 [(0, .ref (al 0)), (3, .ref (al 4)), (5, .int x5), (9, .int x9), (10, .int x10), (11, .int x11)] [] S) (hE : EXv X cL_hour res) (hF : f_L_hour_520 K399 S x5 x9 x10 x11 x12 x13 = some res) : J X 520 [(0, .ref (al 0)), (3, .ref (al 4)), (5, .int x5), (9, .int x9), (10, .int x10), (11, .int x11), (12, .int x12), (13, .int x13)] [] S := by
  rw [f_L_hour_520] at hF
  refine j_iload h 4 rfl dL_hour_520 ?_
  refine j_iload h 7 rfl dL_hour_522 ?_
  refine j_isub h dL_hour_524 ?_
  refine j_let hF (fun x_27 hF => ?_)
  refine j_istore h hnL [(10, .int x_27), (0, .ref (al 0)), (3, .ref (al 4)), (5, .int x5), (9, .int x9), (11, .int x11), (12, .int x12), (13, .int x13)] (by decide) rfl dL_hour_525 ?_
  refine j_aload_n h 2 rfl rfl dL_hour_527 ?_
  refine j_iload h 6 rfl dL_hour_528 ?_
  refine j_iconst h (v := 3) (by decide) dL_hour_530 ?_
  refine j_iadd h dL_hour_531 ?_
  refine j_dup2 h rfl rfl dL_hour_532 ?_
  obtain ⟨hb_28, hF⟩ := bnd_row hF
  refine ja_iald h (get := fun v => v) (put := fun _ v => v) (hL 4 (by decide)) hb_28 dL_hour_533 ?_
  refine j_iload h 7 rfl dL_hour_534 ?_
  refine j_aload_n h 2 rfl rfl dL_hour_536 ?_
  refine j_iload h 6 rfl dL_hour_537 ?_
  refine j_iconst h (v := 2) (by decide) dL_hour_539 ?_
  refine j_iadd h dL_hour_540 ?_
  obtain ⟨hb_29, hF⟩ := bnd_row hF
  refine ja_iald h (get := fun v => v) (put := fun _ v => v) (hL 4 (by decide)) hb_29 dL_hour_541 ?_
  refine j_imul h dL_hour_542 ?_
  refine j_bipush h (v := 100) (by decide) dL_hour_543 ?_
  refine j_idiv h (by decide) dL_hour_545 ?_
  refine j_iadd h dL_hour_546 ?_
  obtain ⟨hb_30, hF⟩ := bnd_row hF
  refine ja_iast h (get := fun v => v) (put := fun _ v => v) (hL 4 (by decide)) hb_30 dL_hour_547 ?_
  refine j_letS hF (fun S_31 hF => ?_)
  refine j_aload_n h 1 rfl rfl dL_hour_548 ?_
  refine j_bipush h (v := 10) (by decide) dL_hour_549 ?_
  refine j_dup2 h rfl rfl dL_hour_551 ?_
  obtain ⟨hb_32, hF⟩ := bnd_row hF
  refine ja_iald h (get := fun v => v) (put := fun _ v => v) (hL 0 (by decide)) hb_32 dL_hour_552 ?_
  refine j_iload h 7 rfl dL_hour_553 ?_
  refine j_iload h 7 rfl dL_hour_555 ?_
  refine j_aload_n h 2 rfl rfl dL_hour_557 ?_
  refine j_iload h 6 rfl dL_hour_558 ?_
  refine j_iconst h (v := 2) (by decide) dL_hour_560 ?_
  refine j_iadd h dL_hour_561 ?_
  obtain ⟨hb_33, hF⟩ := bnd_row hF
  refine ja_iald h (get := fun v => v) (put := fun _ v => v) (hL 4 (by decide)) hb_33 dL_hour_562 ?_
  refine j_imul h dL_hour_563 ?_
  refine j_bipush h (v := 100) (by decide) dL_hour_564 ?_
  refine j_idiv h (by decide) dL_hour_566 ?_
  refine j_isub h dL_hour_567 ?_
  refine j_iadd h dL_hour_568 ?_
  obtain ⟨hb_34, hF⟩ := bnd_row hF
  refine ja_iast h (get := fun v => v) (put := fun _ v => v) (hL 0 (by decide)) hb_34 dL_hour_569 ?_
  refine j_letS hF (fun S_35 hF => ?_)
  exact j_sub [1, 2, 3, 4, 0, 5] rfl (k_L_hour_570 h hL hnL hK399 hE hF)
set_option maxHeartbeats 4000000 in
set_option maxRecDepth 100000 in
theorem k_L_hour_468 {X : JX VS} {al : Nat → Nat} (h : OK X RL cL_hour rmL_hour) (hL : IsLaw X.cI X.B al) (hnL : X.nL = 14) {res : VS} {S : VS} {x5 : Int32} {x9 : Int32} {x10 : Int32} {x11 : Int32} {x12 : Int32} {K399 : Int32 → Int32 → VS → Option (VS)} (hK399 : ∀ (x10 : Int32) (x11 : Int32) (S : VS), K399 x10 x11 S = some res → J X 399 [(0, .ref (al 0)), (3, .ref (al 4)), (5, .int x5), (9, .int x9), (10, .int x10), (11, .int x11)] [] S) (hE : EXv X cL_hour res) : ∀ (n : Nat) (x13 : Int32), f_L_hour_468 K399 S x5 x9 x10 x11 x12 n x13 = some res → J X 468 [(0, .ref (al 0)), (3, .ref (al 4)), (5, .int x5), (9, .int x9), (10, .int x10), (11, .int x11), (12, .int x12), (13, .int x13)] [] S := by
  intro n
  induction n with
  | zero =>
    intro x13 hF
    rw [f_L_hour_468] at hF
    cases hF
  | succ n ih =>
    intro x13 hF
    rw [f_L_hour_468] at hF
    refine j_iload h 7 rfl dL_hour_468 ?_
    refine j_iload h 4 rfl dL_hour_470 ?_
    refine j_icmp_ge h 520 (by decide) dL_hour_472 hF (fun hF => ?_) (fun hF => ?_)
    · exact j_sub [0, 1, 2, 3, 4, 5, 6, 7] rfl (k_L_hour_520 h hL hnL hK399 hE hF)
    · refine j_iload h 7 rfl dL_hour_475 ?_
      refine j_aload_n h 1 rfl rfl dL_hour_477 ?_
      refine j_iload h 6 rfl dL_hour_478 ?_
      refine j_iconst h (v := 1) (by decide) dL_hour_480 ?_
      refine j_iadd h dL_hour_481 ?_
      obtain ⟨hb_37, hF⟩ := bnd_row hF
      refine ja_iald h (get := fun v => v) (put := fun _ v => v) (hL 4 (by decide)) hb_37 dL_hour_482 ?_
      refine j_icmp_ge h 520 (by decide) dL_hour_483 hF (fun hF => ?_) (fun hF => ?_)
      · exact j_sub [0, 1, 2, 3, 4, 5, 6, 7] rfl (k_L_hour_520 h hL hnL hK399 hE hF)
      · refine j_aload_n h 1 rfl rfl dL_hour_486 ?_
        refine j_iload h 6 rfl dL_hour_487 ?_
        refine j_iconst h (v := 3) (by decide) dL_hour_489 ?_
        refine j_iadd h dL_hour_490 ?_
        obtain ⟨hb_38, hF⟩ := bnd_row hF
        refine ja_iald h (get := fun v => v) (put := fun _ v => v) (hL 4 (by decide)) hb_38 dL_hour_491 ?_
        refine j_iload h 7 rfl dL_hour_492 ?_
        refine j_iconst h (v := 1) (by decide) dL_hour_494 ?_
        refine j_iadd h dL_hour_495 ?_
        refine j_aload_n h 1 rfl rfl dL_hour_496 ?_
        refine j_iload h 6 rfl dL_hour_497 ?_
        refine j_iconst h (v := 2) (by decide) dL_hour_499 ?_
        refine j_iadd h dL_hour_500 ?_
        obtain ⟨hb_39, hF⟩ := bnd_row hF
        refine ja_iald h (get := fun v => v) (put := fun _ v => v) (hL 4 (by decide)) hb_39 dL_hour_501 ?_
        refine j_imul h dL_hour_502 ?_
        refine j_bipush h (v := 100) (by decide) dL_hour_503 ?_
        refine j_idiv h (by decide) dL_hour_505 ?_
        refine j_iadd h dL_hour_506 ?_
        refine j_aload_n h 1 rfl rfl dL_hour_507 ?_
        refine j_iload h 6 rfl dL_hour_508 ?_
        obtain ⟨hb_40, hF⟩ := bnd_row hF
        refine ja_iald h (get := fun v => v) (put := fun _ v => v) (hL 4 (by decide)) hb_40 dL_hour_510 ?_
        refine j_icmp_gt h 520 (by decide) dL_hour_511 hF (fun hF => ?_) (fun hF => ?_)
        · exact j_sub [0, 1, 2, 3, 4, 5, 6, 7] rfl (k_L_hour_520 h hL hnL hK399 hE hF)
        · refine j_iincL hF (fun x_41 ex_41 hF => ?_)
          refine j_iinc h hnL 7 [(13, .int x_41), (0, .ref (al 0)), (3, .ref (al 4)), (5, .int x5), (9, .int x9), (10, .int x10), (11, .int x11), (12, .int x12)] rfl ex_41 (by decide) (by decide) rfl dL_hour_514 ?_
          refine j_goto h 468 (by decide) dL_hour_517 ?_
          exact j_sub [1, 2, 3, 4, 5, 6, 7, 0] rfl (ih _ hF)
set_option maxHeartbeats 4000000 in
set_option maxRecDepth 100000 in
theorem k_L_hour_442 {X : JX VS} {al : Nat → Nat} (h : OK X RL cL_hour rmL_hour) (hL : IsLaw X.cI X.B al) (hnL : X.nL = 14) {res : VS} {S : VS} {x5 : Int32} {x9 : Int32} {x10 : Int32} {x11 : Int32} {x12 : Int32} {s0 : Int32} {K399 : Int32 → Int32 → VS → Option (VS)} (hK399 : ∀ (x10 : Int32) (x11 : Int32) (S : VS), K399 x10 x11 S = some res → J X 399 [(0, .ref (al 0)), (3, .ref (al 4)), (5, .int x5), (9, .int x9), (10, .int x10), (11, .int x11)] [] S) (hE : EXv X cL_hour res) (hF : f_L_hour_442 K399 S x5 x9 x10 x11 x12 s0 = some res) : J X 442 [(0, .ref (al 0)), (3, .ref (al 4)), (5, .int x5), (9, .int x9), (10, .int x10), (11, .int x11), (12, .int x12)] [.int s0] S := by
  rw [f_L_hour_442] at hF
  refine j_istore h hnL [(13, .int s0), (0, .ref (al 0)), (3, .ref (al 4)), (5, .int x5), (9, .int x9), (10, .int x10), (11, .int x11), (12, .int x12)] (by decide) rfl dL_hour_442 ?_
  refine j_aload_n h 2 rfl rfl dL_hour_444 ?_
  refine j_iload h 7 rfl dL_hour_445 ?_
  refine j_iconst h (v := 3) (by decide) dL_hour_447 ?_
  refine j_iadd h dL_hour_448 ?_
  refine j_dup2 h rfl rfl dL_hour_449 ?_
  obtain ⟨hb_43, hF⟩ := bnd_row hF
  refine ja_iald h (get := fun v => v) (put := fun _ v => v) (hL 4 (by decide)) hb_43 dL_hour_450 ?_
  refine j_iload h 0 rfl dL_hour_451 ?_
  refine j_isub h dL_hour_453 ?_
  obtain ⟨hb_44, hF⟩ := bnd_row hF
  refine ja_iast h (get := fun v => v) (put := fun _ v => v) (hL 4 (by decide)) hb_44 dL_hour_454 ?_
  refine j_letS hF (fun S_45 hF => ?_)
  refine j_iload h 5 rfl dL_hour_455 ?_
  refine j_iload h 0 rfl dL_hour_457 ?_
  refine j_iadd h dL_hour_459 ?_
  refine j_let hF (fun x_46 hF => ?_)
  refine j_istore h hnL [(10, .int x_46), (13, .int s0), (0, .ref (al 0)), (3, .ref (al 4)), (5, .int x5), (9, .int x9), (11, .int x11), (12, .int x12)] (by decide) rfl dL_hour_460 ?_
  refine j_goto h 570 (by decide) dL_hour_462 ?_
  exact j_sub [2, 3, 4, 5, 0, 6] rfl (k_L_hour_570 h hL hnL hK399 hE hF)
set_option maxHeartbeats 4000000 in
set_option maxRecDepth 100000 in
theorem k_L_hour_399 {X : JX VS} {al : Nat → Nat} (h : OK X RL cL_hour rmL_hour) (hL : IsLaw X.cI X.B al) (hnL : X.nL = 14) {res : VS} {x5 : Int32} {x9 : Int32} (hE : EXv X cL_hour res) : ∀ (n : Nat) (x10 : Int32) (x11 : Int32) (S : VS), f_L_hour_399 x5 x9 n x10 x11 S = some res → J X 399 [(0, .ref (al 0)), (3, .ref (al 4)), (5, .int x5), (9, .int x9), (10, .int x10), (11, .int x11)] [] S := by
  intro n
  induction n with
  | zero =>
    intro x10 x11 S hF
    rw [f_L_hour_399] at hF
    cases hF
  | succ n ih =>
    intro x10 x11 S hF
    rw [f_L_hour_399] at hF
    refine j_iload h 5 rfl dL_hour_399 ?_
    refine j_iconst h (v := 2) (by decide) dL_hour_401 ?_
    refine j_icmp_ge h 576 (by decide) dL_hour_402 hF (fun hF => ?_) (fun hF => ?_)
    · refine j_aload_n h 0 rfl rfl dL_hour_576 ?_
      refine j_bipush h (v := 8) (by decide) dL_hour_577 ?_
      refine j_dup2 h rfl rfl dL_hour_579 ?_
      obtain ⟨hb_14, hF⟩ := bnd_row hF
      refine ja_iald h (get := fun v => v) (put := fun _ v => v) (hL 0 (by decide)) hb_14 dL_hour_580 ?_
      refine j_iload h 2 rfl dL_hour_581 ?_
      refine j_iadd h dL_hour_583 ?_
      obtain ⟨hb_15, hF⟩ := bnd_row hF
      refine ja_iast h (get := fun v => v) (put := fun _ v => v) (hL 0 (by decide)) hb_15 dL_hour_584 ?_
      refine j_letS hF (fun S_16 hF => ?_)
      refine j_aload_n h 0 rfl rfl dL_hour_585 ?_
      refine j_bipush h (v := 9) (by decide) dL_hour_586 ?_
      refine j_dup2 h rfl rfl dL_hour_588 ?_
      obtain ⟨hb_17, hF⟩ := bnd_row hF
      refine ja_iald h (get := fun v => v) (put := fun _ v => v) (hL 0 (by decide)) hb_17 dL_hour_589 ?_
      refine j_iload h 3 rfl dL_hour_590 ?_
      refine j_iadd h dL_hour_592 ?_
      obtain ⟨hb_18, hF⟩ := bnd_row hF
      refine ja_iast h (get := fun v => v) (put := fun _ v => v) (hL 0 (by decide)) hb_18 dL_hour_593 ?_
      refine j_letS hF (fun S_19 hF => ?_)
      refine j_aload_n h 0 rfl rfl dL_hour_594 ?_
      refine j_bipush h (v := 11) (by decide) dL_hour_595 ?_
      refine j_dup2 h rfl rfl dL_hour_597 ?_
      obtain ⟨hb_20, hF⟩ := bnd_row hF
      refine ja_iald h (get := fun v => v) (put := fun _ v => v) (hL 0 (by decide)) hb_20 dL_hour_598 ?_
      refine j_iload h 4 rfl dL_hour_599 ?_
      refine j_iadd h dL_hour_601 ?_
      obtain ⟨hb_21, hF⟩ := bnd_row hF
      refine ja_iast h (get := fun v => v) (put := fun _ v => v) (hL 0 (by decide)) hb_21 dL_hour_602 ?_
      refine j_letS hF (fun S_22 hF => ?_)
      refine j_aload_n h 0 rfl rfl dL_hour_603 ?_
      refine j_iconst h (v := 2) (by decide) dL_hour_604 ?_
      refine j_dup2 h rfl rfl dL_hour_605 ?_
      obtain ⟨hb_23, hF⟩ := bnd_row hF
      refine ja_iald h (get := fun v => v) (put := fun _ v => v) (hL 0 (by decide)) hb_23 dL_hour_606 ?_
      refine j_iconst h (v := 1) (by decide) dL_hour_607 ?_
      refine j_iadd h dL_hour_608 ?_
      obtain ⟨hb_24, hF⟩ := bnd_row hF
      refine ja_iast h (get := fun v => v) (put := fun _ v => v) (hL 0 (by decide)) hb_24 dL_hour_609 ?_
      refine j_letS hF (fun S_25 hF => ?_)
      cases hF
      exact hE _ _ dL_hour_610
    · refine j_iconst h (v := 4) (by decide) dL_hour_405 ?_
      refine j_iload h 5 rfl dL_hour_406 ?_
      refine j_imul h dL_hour_408 ?_
      refine j_let hF (fun x_26 hF => ?_)
      refine j_istore h hnL [(12, .int x_26), (0, .ref (al 0)), (3, .ref (al 4)), (5, .int x5), (9, .int x9), (10, .int x10), (11, .int x11)] (by decide) rfl dL_hour_409 ?_
      refine j_iload h 4 rfl dL_hour_411 ?_
      refine j_iload h 3 rfl dL_hour_413 ?_
      refine j_icmp_le h 465 (by decide) dL_hour_415 hF (fun hF => ?_) (fun hF => ?_)
      · refine j_iconst h (v := 0) (by decide) dL_hour_465 ?_
        refine j_istore h hnL [(13, .int (0 : Int32)), (12, .int x_26), (0, .ref (al 0)), (3, .ref (al 4)), (5, .int x5), (9, .int x9), (10, .int x10), (11, .int x11)] (by decide) rfl dL_hour_466 ?_
        exact j_sub [2, 3, 4, 5, 6, 7, 1, 0] rfl (k_L_hour_468 h hL hnL ih hE fuel _ hF)
      · refine j_iload h 6 rfl dL_hour_418 ?_
        refine j_aload_n h 2 rfl rfl dL_hour_420 ?_
        obtain ⟨r_42, hr_42, hF⟩ := bind_row hF
        refine j_callSi h (st := []) (S' := S) (c_L_give X.l X.D X.cI X.cZ X.cV hL S x11 hr_42) rfl rfl q2_171 cw_L_give rfl ⟨rfl, rfl, Nat.le_of_ble_eq_true rfl, Nat.le_of_ble_eq_true rfl⟩ _ rfl (Nat.le_of_ble_eq_true rfl) dL_hour_421 ?_
        refine j_iload h 5 rfl dL_hour_424 ?_
        refine j_ineg h dL_hour_426 ?_
        refine j_icmp_ge h 439 (by decide) dL_hour_427 hF (fun hF => ?_) (fun hF => ?_)
        · refine j_iload h 5 rfl dL_hour_439 ?_
          refine j_ineg h dL_hour_441 ?_
          exact j_sub [1, 2, 3, 4, 5, 6, 0] rfl (k_L_hour_442 h hL hnL ih hE hF)
        · refine j_iload h 6 rfl dL_hour_430 ?_
          refine j_aload_n h 2 rfl rfl dL_hour_432 ?_
          obtain ⟨r_47, hr_47, hF⟩ := bind_row hF
          refine j_callSi h (st := []) (S' := S) (c_L_give X.l X.D X.cI X.cZ X.cV hL S x11 hr_47) rfl rfl q2_171 cw_L_give rfl ⟨rfl, rfl, Nat.le_of_ble_eq_true rfl, Nat.le_of_ble_eq_true rfl⟩ _ rfl (Nat.le_of_ble_eq_true rfl) dL_hour_433 ?_
          refine j_goto h 442 (by decide) dL_hour_436 ?_
          exact j_sub [1, 2, 3, 4, 5, 6, 0] rfl (k_L_hour_442 h hL hnL ih hE hF)
set_option maxHeartbeats 4000000 in
set_option maxRecDepth 100000 in
theorem k_L_hour_343 {X : JX VS} {al : Nat → Nat} (h : OK X RL cL_hour rmL_hour) (hL : IsLaw X.cI X.B al) (hnL : X.nL = 14) {res : VS} {x5 : Int32} {x9 : Int32} (hE : EXv X cL_hour res) : ∀ (n : Nat) (x10 : Int32) (S : VS), f_L_hour_343 x5 x9 n x10 S = some res → J X 343 [(0, .ref (al 0)), (1, .ref (al 1)), (2, .ref (al 2)), (3, .ref (al 4)), (5, .int x5), (9, .int x9), (10, .int x10)] [] S := by
  intro n
  induction n with
  | zero =>
    intro x10 S hF
    rw [f_L_hour_343] at hF
    cases hF
  | succ n ih =>
    intro x10 S hF
    rw [f_L_hour_343] at hF
    refine j_iload h 6 rfl dL_hour_343 ?_
    refine j_aload_n h 0 rfl rfl dL_hour_345 ?_
    refine j_iconst h (v := 0) (by decide) dL_hour_346 ?_
    obtain ⟨hb_12, hF⟩ := bnd_row hF
    refine ja_iald h (get := fun v => v) (put := fun _ v => v) (hL 0 (by decide)) hb_12 dL_hour_347 ?_
    refine j_icmp_ge h 389 (by decide) dL_hour_348 hF (fun hF => ?_) (fun hF => ?_)
    · refine j_iload h 4 rfl dL_hour_389 ?_
      refine j_iload h 5 rfl dL_hour_391 ?_
      refine j_isub h dL_hour_393 ?_
      refine j_let hF (fun x_13 hF => ?_)
      refine j_istore h hnL [(10, .int x_13), (0, .ref (al 0)), (1, .ref (al 1)), (2, .ref (al 2)), (3, .ref (al 4)), (5, .int x5), (9, .int x9)] (by decide) rfl dL_hour_394 ?_
      refine j_iconst h (v := 0) (by decide) dL_hour_396 ?_
      refine j_istore h hnL [(11, .int (0 : Int32)), (10, .int x_13), (0, .ref (al 0)), (1, .ref (al 1)), (2, .ref (al 2)), (3, .ref (al 4)), (5, .int x5), (9, .int x9)] (by decide) rfl dL_hour_397 ?_
      exact j_sub [2, 5, 6, 7, 1, 0] rfl (k_L_hour_399 h hL hnL hE fuel _ _ _ hF)
    · refine j_aload_n h 1 rfl rfl dL_hour_351 ?_
      refine j_bipush h (v := 6) (by decide) dL_hour_352 ?_
      refine j_iload h 6 rfl dL_hour_354 ?_
      refine j_imul h dL_hour_356 ?_
      refine j_iconst h (v := 4) (by decide) dL_hour_357 ?_
      refine j_iadd h dL_hour_358 ?_
      refine j_dup2 h rfl rfl dL_hour_359 ?_
      obtain ⟨hb_48, hF⟩ := bnd_row hF
      refine ja_iald h (get := fun v => v) (put := fun _ v => v) (hL 1 (by decide)) hb_48 dL_hour_360 ?_
      refine j_aload_n h 2 rfl rfl dL_hour_361 ?_
      refine j_iload h 6 rfl dL_hour_362 ?_
      obtain ⟨hb_49, hF⟩ := bnd_row hF
      refine ja_iald h (get := fun v => v) (put := fun _ v => v) (hL 2 (by decide)) hb_49 dL_hour_364 ?_
      refine j_isub h dL_hour_365 ?_
      obtain ⟨hb_50, hF⟩ := bnd_row hF
      refine ja_iast h (get := fun v => v) (put := fun _ v => v) (hL 1 (by decide)) hb_50 dL_hour_366 ?_
      refine j_letS hF (fun S_51 hF => ?_)
      refine j_aload_n h 1 rfl rfl dL_hour_367 ?_
      refine j_bipush h (v := 6) (by decide) dL_hour_368 ?_
      refine j_iload h 6 rfl dL_hour_370 ?_
      refine j_imul h dL_hour_372 ?_
      refine j_iconst h (v := 5) (by decide) dL_hour_373 ?_
      refine j_iadd h dL_hour_374 ?_
      refine j_dup2 h rfl rfl dL_hour_375 ?_
      obtain ⟨hb_52, hF⟩ := bnd_row hF
      refine ja_iald h (get := fun v => v) (put := fun _ v => v) (hL 1 (by decide)) hb_52 dL_hour_376 ?_
      refine j_aload_n h 2 rfl rfl dL_hour_377 ?_
      refine j_iload h 6 rfl dL_hour_378 ?_
      obtain ⟨hb_53, hF⟩ := bnd_row hF
      refine ja_iald h (get := fun v => v) (put := fun _ v => v) (hL 2 (by decide)) hb_53 dL_hour_380 ?_
      refine j_iadd h dL_hour_381 ?_
      obtain ⟨hb_54, hF⟩ := bnd_row hF
      refine ja_iast h (get := fun v => v) (put := fun _ v => v) (hL 1 (by decide)) hb_54 dL_hour_382 ?_
      refine j_letS hF (fun S_55 hF => ?_)
      refine j_iincL hF (fun x_56 ex_56 hF => ?_)
      refine j_iinc h hnL 6 [(10, .int x_56), (0, .ref (al 0)), (1, .ref (al 1)), (2, .ref (al 2)), (3, .ref (al 4)), (5, .int x5), (9, .int x9)] rfl ex_56 (by decide) (by decide) rfl dL_hour_383 ?_
      refine j_goto h 343 (by decide) dL_hour_386 ?_
      exact j_sub [1, 2, 3, 4, 5, 6, 0] rfl (ih _ _ hF)
set_option maxHeartbeats 4000000 in
set_option maxRecDepth 100000 in
theorem k_L_hour_321 {X : JX VS} {al : Nat → Nat} (h : OK X RL cL_hour rmL_hour) (hL : IsLaw X.cI X.B al) (hnL : X.nL = 14) {res : VS} {S : VS} {x5 : Int32} {x6 : Int32} {x7 : Int32} {x8 : Int32} {x9 : Int32} {x10 : Int32} {K152 : Int32 → Int32 → VS → Option (VS)} (hK152 : ∀ (x8 : Int32) (x10 : Int32) (S : VS), K152 x8 x10 S = some res → J X 152 [(0, .ref (al 0)), (1, .ref (al 1)), (2, .ref (al 2)), (3, .ref (al 4)), (5, .int x5), (6, .int x6), (7, .int x7), (8, .int x8), (9, .int x9), (10, .int x10)] [] S) (hE : EXv X cL_hour res) (hF : f_L_hour_321 K152 S x5 x6 x7 x8 x9 x10 = some res) : J X 321 [(0, .ref (al 0)), (1, .ref (al 1)), (2, .ref (al 2)), (3, .ref (al 4)), (5, .int x5), (6, .int x6), (7, .int x7), (8, .int x8), (9, .int x9), (10, .int x10)] [] S := by
  rw [f_L_hour_321] at hF
  refine j_iincL hF (fun x_68 ex_68 hF => ?_)
  refine j_iinc h hnL 9 [(10, .int x_68), (0, .ref (al 0)), (1, .ref (al 1)), (2, .ref (al 2)), (3, .ref (al 4)), (5, .int x5), (6, .int x6), (7, .int x7), (8, .int x8), (9, .int x9)] rfl ex_68 (by decide) (by decide) rfl dL_hour_321 ?_
  refine j_goto h 152 (by decide) dL_hour_324 ?_
  exact j_sub [1, 2, 3, 4, 5, 6, 7, 8, 9, 0] rfl (hK152 _ _ _ hF)
set_option maxHeartbeats 4000000 in
set_option maxRecDepth 100000 in
theorem k_L_hour_320 {X : JX VS} {al : Nat → Nat} (h : OK X RL cL_hour rmL_hour) (hL : IsLaw X.cI X.B al) (hnL : X.nL = 14) {res : VS} {S : VS} {x5 : Int32} {x6 : Int32} {x7 : Int32} {x8 : Int32} {x9 : Int32} {x10 : Int32} {s0 : Int32} {s1 : Int32} {K152 : Int32 → Int32 → VS → Option (VS)} (hK152 : ∀ (x8 : Int32) (x10 : Int32) (S : VS), K152 x8 x10 S = some res → J X 152 [(0, .ref (al 0)), (1, .ref (al 1)), (2, .ref (al 2)), (3, .ref (al 4)), (5, .int x5), (6, .int x6), (7, .int x7), (8, .int x8), (9, .int x9), (10, .int x10)] [] S) (hE : EXv X cL_hour res) (hF : f_L_hour_320 K152 S x5 x6 x7 x8 x9 x10 s0 s1 = some res) : J X 320 [(0, .ref (al 0)), (1, .ref (al 1)), (2, .ref (al 2)), (3, .ref (al 4)), (5, .int x5), (6, .int x6), (7, .int x7), (8, .int x8), (9, .int x9), (10, .int x10)] [.int s0, .int s1, .ref (al 2)] S := by
  rw [f_L_hour_320] at hF
  obtain ⟨hb_66, hF⟩ := bnd_row hF
  refine ja_iast h (get := fun v => v) (put := fun _ v => v) (hL 2 (by decide)) hb_66 dL_hour_320 ?_
  refine j_letS hF (fun S_67 hF => ?_)
  exact j_sub [0, 1, 2, 3, 4, 5, 6, 7, 8, 9] rfl (k_L_hour_321 h hL hnL hK152 hE hF)
set_option maxHeartbeats 4000000 in
set_option maxRecDepth 100000 in
theorem k_L_hour_229 {X : JX VS} {al : Nat → Nat} (h : OK X RL cL_hour rmL_hour) (hL : IsLaw X.cI X.B al) (hnL : X.nL = 14) {res : VS} {S : VS} {x5 : Int32} {x6 : Int32} {x7 : Int32} {x8 : Int32} {x9 : Int32} {x10 : Int32} {s0 : Int32} {K152 : Int32 → Int32 → VS → Option (VS)} (hK152 : ∀ (x8 : Int32) (x10 : Int32) (S : VS), K152 x8 x10 S = some res → J X 152 [(0, .ref (al 0)), (1, .ref (al 1)), (2, .ref (al 2)), (3, .ref (al 4)), (5, .int x5), (6, .int x6), (7, .int x7), (8, .int x8), (9, .int x9), (10, .int x10)] [] S) (hE : EXv X cL_hour res) (hF : f_L_hour_229 K152 S x5 x6 x7 x8 x9 x10 s0 = some res) : J X 229 [(0, .ref (al 0)), (1, .ref (al 1)), (2, .ref (al 2)), (3, .ref (al 4)), (5, .int x5), (6, .int x6), (7, .int x7), (8, .int x8), (9, .int x9), (10, .int x10)] [.int s0] S := by
  rw [f_L_hour_229] at hF
  refine j_istore h hnL [(12, .int s0), (0, .ref (al 0)), (1, .ref (al 1)), (2, .ref (al 2)), (3, .ref (al 4)), (5, .int x5), (6, .int x6), (7, .int x7), (8, .int x8), (9, .int x9), (10, .int x10)] (by decide) rfl dL_hour_229 ?_
  refine j_iload h 8 rfl dL_hour_231 ?_
  refine j_iload h 0 rfl dL_hour_233 ?_
  refine j_isub h dL_hour_235 ?_
  refine j_let hF (fun x_61 hF => ?_)
  refine j_istore h hnL [(8, .int x_61), (12, .int s0), (0, .ref (al 0)), (1, .ref (al 1)), (2, .ref (al 2)), (3, .ref (al 4)), (5, .int x5), (6, .int x6), (7, .int x7), (9, .int x9), (10, .int x10)] (by decide) rfl dL_hour_236 ?_
  refine j_aload_n h 4 rfl rfl dL_hour_238 ?_
  refine j_iload h 10 rfl dL_hour_239 ?_
  refine j_iload h 1 rfl dL_hour_241 ?_
  obtain ⟨hb_62, hF⟩ := bnd_row hF
  refine ja_iast h (get := fun v => v) (put := fun _ v => v) (hL 2 (by decide)) hb_62 dL_hour_243 ?_
  refine j_letS hF (fun S_63 hF => ?_)
  refine j_aload_n h 3 rfl rfl dL_hour_244 ?_
  refine j_bipush h (v := 6) (by decide) dL_hour_245 ?_
  refine j_iload h 10 rfl dL_hour_247 ?_
  refine j_imul h dL_hour_249 ?_
  refine j_iconst h (v := 1) (by decide) dL_hour_250 ?_
  refine j_iadd h dL_hour_251 ?_
  obtain ⟨hb_64, hF⟩ := bnd_row hF
  refine ja_iald h (get := fun v => v) (put := fun _ v => v) (hL 1 (by decide)) hb_64 dL_hour_252 ?_
  refine j_let hF (fun x_65 hF => ?_)
  refine j_istore h hnL [(13, .int x_65), (8, .int x_61), (12, .int s0), (0, .ref (al 0)), (1, .ref (al 1)), (2, .ref (al 2)), (3, .ref (al 4)), (5, .int x5), (6, .int x6), (7, .int x7), (9, .int x9), (10, .int x10)] (by decide) rfl dL_hour_253 ?_
  refine j_aload_n h 5 rfl rfl dL_hour_255 ?_
  refine j_bipush h (v := 8) (by decide) dL_hour_256 ?_
  refine j_iload h 11 rfl dL_hour_258 ?_
  refine j_iadd h dL_hour_260 ?_
  refine j_iload h 2 rfl dL_hour_261 ?_
  refine j_iload h 0 rfl dL_hour_263 ?_
  refine j_icmp_ne h 272 (by decide) dL_hour_265 hF (fun hF => ?_) (fun hF => ?_)
  · refine j_iconst h (v := 0) (by decide) dL_hour_268 ?_
    refine j_goto h 320 (by decide) dL_hour_269 ?_
    exact j_sub [3, 4, 5, 6, 7, 8, 9, 1, 10, 11] rfl (k_L_hour_320 h hL hnL hK152 hE hF)
  · refine j_aload_n h 4 rfl rfl dL_hour_272 ?_
    refine j_bipush h (v := 6) (by decide) dL_hour_273 ?_
    refine j_iload h 11 rfl dL_hour_275 ?_
    refine j_imul h dL_hour_277 ?_
    refine j_iconst h (v := 3) (by decide) dL_hour_278 ?_
    refine j_iadd h dL_hour_279 ?_
    obtain ⟨hb_69, hF⟩ := bnd_row hF
    refine ja_iald h (get := fun v => v) (put := fun _ v => v) (hL 1 (by decide)) hb_69 dL_hour_280 ?_
    refine j_if_ne h 288 (by decide) dL_hour_281 hF (fun hF => ?_) (fun hF => ?_)
    · refine j_iconst h (v := 1) (by decide) dL_hour_284 ?_
      refine j_goto h 320 (by decide) dL_hour_285 ?_
      exact j_sub [3, 4, 5, 6, 7, 8, 9, 1, 10, 11] rfl (k_L_hour_320 h hL hnL hK152 hE hF)
    · refine j_iload h 11 rfl dL_hour_288 ?_
      refine j_aload_n h 3 rfl rfl dL_hour_290 ?_
      refine j_aload_n h 4 rfl rfl dL_hour_291 ?_
      obtain ⟨r_70, hr_70, hF⟩ := bind_row hF
      refine j_callSi h (st := [.int ((8 : Int32) + x10), .ref (al 2)]) (S' := S_63) (c_L_draw X.l X.D X.cI X.cZ X.cV hL S_63 x10 hr_70) rfl rfl q2_177 cw_L_draw rfl ⟨rfl, rfl, Nat.le_of_ble_eq_true rfl, Nat.le_of_ble_eq_true rfl⟩ _ rfl (Nat.le_of_ble_eq_true rfl) dL_hour_292 ?_
      refine j_iload h 0 rfl dL_hour_295 ?_
      refine j_icmp_ge h 304 (by decide) dL_hour_297 hF (fun hF => ?_) (fun hF => ?_)
      · refine j_iload h 9 rfl dL_hour_304 ?_
        refine j_iload h 10 rfl dL_hour_306 ?_
        refine j_ishr h dL_hour_308 ?_
        refine j_iconst h (v := 1) (by decide) dL_hour_309 ?_
        refine j_iand h dL_hour_310 ?_
        refine j_iconst h (v := 1) (by decide) dL_hour_311 ?_
        refine j_icmp_ne h 319 (by decide) dL_hour_312 hF (fun hF => ?_) (fun hF => ?_)
        · refine j_iconst h (v := 3) (by decide) dL_hour_315 ?_
          refine j_goto h 320 (by decide) dL_hour_316 ?_
          exact j_sub [3, 4, 5, 6, 7, 8, 9, 1, 10, 11] rfl (k_L_hour_320 h hL hnL hK152 hE hF)
        · refine j_iconst h (v := 4) (by decide) dL_hour_319 ?_
          exact j_sub [3, 4, 5, 6, 7, 8, 9, 1, 10, 11] rfl (k_L_hour_320 h hL hnL hK152 hE hF)
      · refine j_iconst h (v := 2) (by decide) dL_hour_300 ?_
        refine j_goto h 320 (by decide) dL_hour_301 ?_
        exact j_sub [3, 4, 5, 6, 7, 8, 9, 1, 10, 11] rfl (k_L_hour_320 h hL hnL hK152 hE hF)
set_option maxHeartbeats 4000000 in
set_option maxRecDepth 100000 in
theorem k_L_hour_194 {X : JX VS} {al : Nat → Nat} (h : OK X RL cL_hour rmL_hour) (hL : IsLaw X.cI X.B al) (hnL : X.nL = 14) {res : VS} {S : VS} {x5 : Int32} {x6 : Int32} {x7 : Int32} {x8 : Int32} {x9 : Int32} {x10 : Int32} {s0 : Int32} {K152 : Int32 → Int32 → VS → Option (VS)} (hK152 : ∀ (x8 : Int32) (x10 : Int32) (S : VS), K152 x8 x10 S = some res → J X 152 [(0, .ref (al 0)), (1, .ref (al 1)), (2, .ref (al 2)), (3, .ref (al 4)), (5, .int x5), (6, .int x6), (7, .int x7), (8, .int x8), (9, .int x9), (10, .int x10)] [] S) (hE : EXv X cL_hour res) (hF : f_L_hour_194 K152 S x5 x6 x7 x8 x9 x10 s0 = some res) : J X 194 [(0, .ref (al 0)), (1, .ref (al 1)), (2, .ref (al 2)), (3, .ref (al 4)), (5, .int x5), (6, .int x6), (7, .int x7), (8, .int x8), (9, .int x9), (10, .int x10)] [.int s0] S := by
  rw [f_L_hour_194] at hF
  refine j_istore h hnL [(11, .int s0), (0, .ref (al 0)), (1, .ref (al 1)), (2, .ref (al 2)), (3, .ref (al 4)), (5, .int x5), (6, .int x6), (7, .int x7), (8, .int x8), (9, .int x9), (10, .int x10)] (by decide) rfl dL_hour_194 ?_
  refine j_iload h 8 rfl dL_hour_196 ?_
  refine j_iload h 0 rfl dL_hour_198 ?_
  refine j_icmp_lt h 208 (by decide) dL_hour_200 hF (fun hF => ?_) (fun hF => ?_)
  · refine j_bipush h (v := 100) (by decide) dL_hour_208 ?_
    refine j_iload h 8 rfl dL_hour_210 ?_
    refine j_imul h dL_hour_212 ?_
    refine j_iload h 0 rfl dL_hour_213 ?_
    refine j_aload_n h 1 rfl rfl dL_hour_215 ?_
    refine j_bipush h (v := 7) (by decide) dL_hour_216 ?_
    obtain ⟨hb_60, hF⟩ := bnd_row hF
    refine ja_iald h (get := fun v => v) (put := fun _ v => v) (hL 0 (by decide)) hb_60 dL_hour_218 ?_
    refine j_imul h dL_hour_219 ?_
    refine j_icmp_ge h 227 (by decide) dL_hour_220 hF (fun hF => ?_) (fun hF => ?_)
    · refine j_iload h 8 rfl dL_hour_227 ?_
      exact j_sub [1, 2, 3, 4, 5, 6, 7, 8, 9, 10] rfl (k_L_hour_229 h hL hnL hK152 hE hF)
    · refine j_iconst h (v := 0) (by decide) dL_hour_223 ?_
      refine j_goto h 229 (by decide) dL_hour_224 ?_
      exact j_sub [1, 2, 3, 4, 5, 6, 7, 8, 9, 10] rfl (k_L_hour_229 h hL hnL hK152 hE hF)
  · refine j_iload h 0 rfl dL_hour_203 ?_
    refine j_goto h 229 (by decide) dL_hour_205 ?_
    exact j_sub [1, 2, 3, 4, 5, 6, 7, 8, 9, 10] rfl (k_L_hour_229 h hL hnL hK152 hE hF)
set_option maxHeartbeats 4000000 in
set_option maxRecDepth 100000 in
theorem k_L_hour_152 {X : JX VS} {al : Nat → Nat} (h : OK X RL cL_hour rmL_hour) (hL : IsLaw X.cI X.B al) (hnL : X.nL = 14) {res : VS} {x5 : Int32} {x6 : Int32} {x7 : Int32} {x9 : Int32} {K143 : Int32 → Int32 → VS → Option (VS)} (hK143 : ∀ (x8 : Int32) (x9 : Int32) (S : VS), K143 x8 x9 S = some res → J X 143 [(0, .ref (al 0)), (1, .ref (al 1)), (2, .ref (al 2)), (3, .ref (al 4)), (5, .int x5), (6, .int x6), (7, .int x7), (8, .int x8), (9, .int x9)] [] S) (hE : EXv X cL_hour res) : ∀ (n : Nat) (x8 : Int32) (x10 : Int32) (S : VS), f_L_hour_152 K143 x5 x6 x7 x9 n x8 x10 S = some res → J X 152 [(0, .ref (al 0)), (1, .ref (al 1)), (2, .ref (al 2)), (3, .ref (al 4)), (5, .int x5), (6, .int x6), (7, .int x7), (8, .int x8), (9, .int x9), (10, .int x10)] [] S := by
  intro n
  induction n with
  | zero =>
    intro x8 x10 S hF
    rw [f_L_hour_152] at hF
    cases hF
  | succ n ih =>
    intro x8 x10 S hF
    rw [f_L_hour_152] at hF
    refine j_iload h 9 rfl dL_hour_152 ?_
    refine j_aload_n h 0 rfl rfl dL_hour_154 ?_
    refine j_iconst h (v := 0) (by decide) dL_hour_155 ?_
    obtain ⟨hb_57, hF⟩ := bnd_row hF
    refine ja_iald h (get := fun v => v) (put := fun _ v => v) (hL 0 (by decide)) hb_57 dL_hour_156 ?_
    refine j_icmp_ge h 327 (by decide) dL_hour_157 hF (fun hF => ?_) (fun hF => ?_)
    · refine j_iincL hF (fun x_58 ex_58 hF => ?_)
      refine j_iinc h hnL 8 [(9, .int x_58), (0, .ref (al 0)), (1, .ref (al 1)), (2, .ref (al 2)), (3, .ref (al 4)), (5, .int x5), (6, .int x6), (7, .int x7), (8, .int x8), (10, .int x10)] rfl ex_58 (by decide) (by decide) rfl dL_hour_327 ?_
      refine j_goto h 143 (by decide) dL_hour_330 ?_
      exact j_sub [1, 2, 3, 4, 5, 6, 7, 8, 0] rfl (hK143 _ _ _ hF)
    · refine j_aload_n h 1 rfl rfl dL_hour_160 ?_
      refine j_bipush h (v := 6) (by decide) dL_hour_161 ?_
      refine j_iload h 9 rfl dL_hour_163 ?_
      refine j_imul h dL_hour_165 ?_
      obtain ⟨hb_59, hF⟩ := bnd_row hF
      refine ja_iald h (get := fun v => v) (put := fun _ v => v) (hL 1 (by decide)) hb_59 dL_hour_166 ?_
      refine j_iload h 8 rfl dL_hour_167 ?_
      refine j_icmp_ne h 321 (by decide) dL_hour_169 hF (fun hF => ?_) (fun hF => ?_)
      · refine j_iload h 6 rfl dL_hour_172 ?_
        refine j_iload h 8 rfl dL_hour_174 ?_
        refine j_ishr h dL_hour_176 ?_
        refine j_iconst h (v := 1) (by decide) dL_hour_177 ?_
        refine j_iand h dL_hour_178 ?_
        refine j_iconst h (v := 1) (by decide) dL_hour_179 ?_
        refine j_icmp_ne h 187 (by decide) dL_hour_180 hF (fun hF => ?_) (fun hF => ?_)
        · refine j_iconst h (v := 0) (by decide) dL_hour_183 ?_
          refine j_goto h 194 (by decide) dL_hour_184 ?_
          exact j_sub [0, 1, 2, 3, 4, 5, 6, 7, 8, 9] rfl (k_L_hour_194 h hL hnL ih hE hF)
        · refine j_iload h 9 rfl dL_hour_187 ?_
          refine j_aload_n h 0 rfl rfl dL_hour_189 ?_
          refine j_aload_n h 1 rfl rfl dL_hour_190 ?_
          obtain ⟨r_71, hr_71, hF⟩ := bind_row hF
          refine j_callSi h (st := []) (S' := S) (c_L_draw X.l X.D X.cI X.cZ X.cV hL S x10 hr_71) rfl rfl q2_177 cw_L_draw rfl ⟨rfl, rfl, Nat.le_of_ble_eq_true rfl, Nat.le_of_ble_eq_true rfl⟩ _ rfl (Nat.le_of_ble_eq_true rfl) dL_hour_191 ?_
          exact j_sub [0, 1, 2, 3, 4, 5, 6, 7, 8, 9] rfl (k_L_hour_194 h hL hnL ih hE hF)
      · exact j_sub [0, 1, 2, 3, 4, 5, 6, 7, 8, 9] rfl (k_L_hour_321 h hL hnL ih hE hF)
set_option maxHeartbeats 4000000 in
set_option maxRecDepth 100000 in
theorem k_L_hour_143 {X : JX VS} {al : Nat → Nat} (h : OK X RL cL_hour rmL_hour) (hL : IsLaw X.cI X.B al) (hnL : X.nL = 14) {res : VS} {x5 : Int32} {x6 : Int32} {x7 : Int32} (hE : EXv X cL_hour res) : ∀ (n : Nat) (x8 : Int32) (x9 : Int32) (S : VS), f_L_hour_143 x5 x6 x7 n x8 x9 S = some res → J X 143 [(0, .ref (al 0)), (1, .ref (al 1)), (2, .ref (al 2)), (3, .ref (al 4)), (5, .int x5), (6, .int x6), (7, .int x7), (8, .int x8), (9, .int x9)] [] S := by
  intro n
  induction n with
  | zero =>
    intro x8 x9 S hF
    rw [f_L_hour_143] at hF
    cases hF
  | succ n ih =>
    intro x8 x9 S hF
    rw [f_L_hour_143] at hF
    refine j_iload h 8 rfl dL_hour_143 ?_
    refine j_iconst h (v := 3) (by decide) dL_hour_145 ?_
    refine j_icmp_ge h 333 (by decide) dL_hour_146 hF (fun hF => ?_) (fun hF => ?_)
    · refine j_iload h 5 rfl dL_hour_333 ?_
      refine j_iload h 7 rfl dL_hour_335 ?_
      refine j_isub h dL_hour_337 ?_
      refine j_let hF (fun x_11 hF => ?_)
      refine j_istore h hnL [(9, .int x_11), (0, .ref (al 0)), (1, .ref (al 1)), (2, .ref (al 2)), (3, .ref (al 4)), (5, .int x5), (6, .int x6), (7, .int x7), (8, .int x8)] (by decide) rfl dL_hour_338 ?_
      refine j_iconst h (v := 0) (by decide) dL_hour_340 ?_
      refine j_istore h hnL [(10, .int (0 : Int32)), (9, .int x_11), (0, .ref (al 0)), (1, .ref (al 1)), (2, .ref (al 2)), (3, .ref (al 4)), (5, .int x5), (6, .int x6), (7, .int x7), (8, .int x8)] (by decide) rfl dL_hour_341 ?_
      exact j_sub [2, 3, 4, 5, 6, 1, 0] rfl (k_L_hour_343 h hL hnL hE fuel _ _ hF)
    · refine j_iconst h (v := 0) (by decide) dL_hour_149 ?_
      refine j_istore h hnL [(10, .int (0 : Int32)), (0, .ref (al 0)), (1, .ref (al 1)), (2, .ref (al 2)), (3, .ref (al 4)), (5, .int x5), (6, .int x6), (7, .int x7), (8, .int x8), (9, .int x9)] (by decide) rfl dL_hour_150 ?_
      exact j_sub [1, 2, 3, 4, 5, 6, 7, 8, 9, 0] rfl (k_L_hour_152 h hL hnL ih hE fuel _ _ _ hF)
set_option maxHeartbeats 4000000 in
set_option maxRecDepth 100000 in
theorem k_L_hour_101 {X : JX VS} {al : Nat → Nat} (h : OK X RL cL_hour rmL_hour) (hL : IsLaw X.cI X.B al) (hnL : X.nL = 14) {res : VS} {x5 : Int32} {x6 : Int32} {x7 : Int32} (hE : EXv X cL_hour res) : ∀ (n : Nat) (x8 : Int32) (S : VS), f_L_hour_101 x5 x6 x7 n x8 S = some res → J X 101 [(0, .ref (al 0)), (1, .ref (al 1)), (2, .ref (al 2)), (3, .ref (al 4)), (5, .int x5), (6, .int x6), (7, .int x7), (8, .int x8)] [] S := by
  intro n
  induction n with
  | zero =>
    intro x8 S hF
    rw [f_L_hour_101] at hF
    cases hF
  | succ n ih =>
    intro x8 S hF
    rw [f_L_hour_101] at hF
    refine j_iload h 7 rfl dL_hour_101 ?_
    refine j_iconst h (v := 3) (by decide) dL_hour_103 ?_
    refine j_icmp_ge h 130 (by decide) dL_hour_104 hF (fun hF => ?_) (fun hF => ?_)
    · refine j_aload_n h 0 rfl rfl dL_hour_130 ?_
      refine j_bipush h (v := 19) (by decide) dL_hour_131 ?_
      refine j_iload h 6 rfl dL_hour_133 ?_
      obtain ⟨hb_9, hF⟩ := bnd_row hF
      refine ja_iast h (get := fun v => v) (put := fun _ v => v) (hL 0 (by decide)) hb_9 dL_hour_135 ?_
      refine j_letS hF (fun S_10 hF => ?_)
      refine j_iload h 5 rfl dL_hour_136 ?_
      refine j_istore h hnL [(8, .int x6), (0, .ref (al 0)), (1, .ref (al 1)), (2, .ref (al 2)), (3, .ref (al 4)), (5, .int x5), (6, .int x6), (7, .int x7)] (by decide) rfl dL_hour_138 ?_
      refine j_iconst h (v := 0) (by decide) dL_hour_140 ?_
      refine j_istore h hnL [(9, .int (0 : Int32)), (8, .int x6), (0, .ref (al 0)), (1, .ref (al 1)), (2, .ref (al 2)), (3, .ref (al 4)), (5, .int x5), (6, .int x6), (7, .int x7)] (by decide) rfl dL_hour_141 ?_
      exact j_sub [2, 3, 4, 5, 6, 7, 8, 1, 0] rfl (k_L_hour_143 h hL hnL hE fuel _ _ _ hF)
    · refine j_aload_n h 0 rfl rfl dL_hour_107 ?_
      refine j_bipush h (v := 16) (by decide) dL_hour_108 ?_
      refine j_iload h 7 rfl dL_hour_110 ?_
      refine j_iadd h dL_hour_112 ?_
      refine j_dup2 h rfl rfl dL_hour_113 ?_
      obtain ⟨hb_72, hF⟩ := bnd_row hF
      refine ja_iald h (get := fun v => v) (put := fun _ v => v) (hL 0 (by decide)) hb_72 dL_hour_114 ?_
      refine j_iload h 6 rfl dL_hour_115 ?_
      refine j_iload h 7 rfl dL_hour_117 ?_
      refine j_ishr h dL_hour_119 ?_
      refine j_iconst h (v := 1) (by decide) dL_hour_120 ?_
      refine j_iand h dL_hour_121 ?_
      refine j_iadd h dL_hour_122 ?_
      obtain ⟨hb_73, hF⟩ := bnd_row hF
      refine ja_iast h (get := fun v => v) (put := fun _ v => v) (hL 0 (by decide)) hb_73 dL_hour_123 ?_
      refine j_letS hF (fun S_74 hF => ?_)
      refine j_iincL hF (fun x_75 ex_75 hF => ?_)
      refine j_iinc h hnL 7 [(8, .int x_75), (0, .ref (al 0)), (1, .ref (al 1)), (2, .ref (al 2)), (3, .ref (al 4)), (5, .int x5), (6, .int x6), (7, .int x7)] rfl ex_75 (by decide) (by decide) rfl dL_hour_124 ?_
      refine j_goto h 101 (by decide) dL_hour_127 ?_
      exact j_sub [1, 2, 3, 4, 5, 6, 7, 0] rfl (ih _ _ hF)
set_option maxHeartbeats 4000000 in
set_option maxRecDepth 100000 in
theorem k_L_hour_98 {X : JX VS} {al : Nat → Nat} (h : OK X RL cL_hour rmL_hour) (hL : IsLaw X.cI X.B al) (hnL : X.nL = 14) {res : VS} {S : VS} {x5 : Int32} {x6 : Int32} {x7 : Int32} (hE : EXv X cL_hour res) (hF : f_L_hour_98 S x5 x6 x7 = some res) : J X 98 [(0, .ref (al 0)), (1, .ref (al 1)), (2, .ref (al 2)), (3, .ref (al 4)), (5, .int x5), (6, .int x6), (7, .int x7)] [] S := by
  rw [f_L_hour_98] at hF
  refine j_iconst h (v := 1) (by decide) dL_hour_98 ?_
  refine j_istore h hnL [(8, .int (1 : Int32)), (0, .ref (al 0)), (1, .ref (al 1)), (2, .ref (al 2)), (3, .ref (al 4)), (5, .int x5), (6, .int x6), (7, .int x7)] (by decide) rfl dL_hour_99 ?_
  exact j_sub [1, 2, 3, 4, 5, 6, 7, 0] rfl (k_L_hour_101 h hL hnL hE fuel _ _ hF)
set_option maxHeartbeats 4000000 in
set_option maxRecDepth 100000 in
theorem k_L_hour_91 {X : JX VS} {al : Nat → Nat} (h : OK X RL cL_hour rmL_hour) (hL : IsLaw X.cI X.B al) (hnL : X.nL = 14) {res : VS} {S : VS} {x5 : Int32} {x6 : Int32} {x7 : Int32} {x8 : Int32} {s0 : Int32} {s1 : Int32} {K35 : Int32 → Int32 → VS → Option (VS)} (hK35 : ∀ (x7 : Int32) (x8 : Int32) (S : VS), K35 x7 x8 S = some res → J X 35 [(0, .ref (al 0)), (1, .ref (al 1)), (2, .ref (al 2)), (3, .ref (al 4)), (5, .int x5), (6, .int x6), (7, .int x7), (8, .int x8)] [] S) (hE : EXv X cL_hour res) (hF : f_L_hour_91 K35 S x5 x6 x7 x8 s0 s1 = some res) : J X 91 [(0, .ref (al 0)), (1, .ref (al 1)), (2, .ref (al 2)), (3, .ref (al 4)), (5, .int x5), (6, .int x6), (7, .int x7), (8, .int x8)] [.int s0, .int s1, .ref (al 0)] S := by
  rw [f_L_hour_91] at hF
  obtain ⟨hb_80, hF⟩ := bnd_row hF
  refine ja_iast h (get := fun v => v) (put := fun _ v => v) (hL 0 (by decide)) hb_80 dL_hour_91 ?_
  refine j_letS hF (fun S_81 hF => ?_)
  refine j_iincL hF (fun x_82 ex_82 hF => ?_)
  refine j_iinc h hnL 7 [(8, .int x_82), (0, .ref (al 0)), (1, .ref (al 1)), (2, .ref (al 2)), (3, .ref (al 4)), (5, .int x5), (6, .int x6), (7, .int x7)] rfl ex_82 (by decide) (by decide) rfl dL_hour_92 ?_
  refine j_goto h 35 (by decide) dL_hour_95 ?_
  exact j_sub [1, 2, 3, 4, 5, 6, 7, 0] rfl (hK35 _ _ _ hF)
set_option maxHeartbeats 4000000 in
set_option maxRecDepth 100000 in
theorem k_L_hour_77 {X : JX VS} {al : Nat → Nat} (h : OK X RL cL_hour rmL_hour) (hL : IsLaw X.cI X.B al) (hnL : X.nL = 14) {res : VS} {S : VS} {x5 : Int32} {x6 : Int32} {x7 : Int32} {x8 : Int32} {K35 : Int32 → Int32 → VS → Option (VS)} (hK35 : ∀ (x7 : Int32) (x8 : Int32) (S : VS), K35 x7 x8 S = some res → J X 35 [(0, .ref (al 0)), (1, .ref (al 1)), (2, .ref (al 2)), (3, .ref (al 4)), (5, .int x5), (6, .int x6), (7, .int x7), (8, .int x8)] [] S) (hE : EXv X cL_hour res) (hF : f_L_hour_77 K35 S x5 x6 x7 x8 = some res) : J X 77 [(0, .ref (al 0)), (1, .ref (al 1)), (2, .ref (al 2)), (3, .ref (al 4)), (5, .int x5), (6, .int x6), (7, .int x7), (8, .int x8)] [] S := by
  rw [f_L_hour_77] at hF
  refine j_aload_n h 0 rfl rfl dL_hour_77 ?_
  refine j_iconst h (v := 3) (by decide) dL_hour_78 ?_
  refine j_aload_n h 0 rfl rfl dL_hour_79 ?_
  refine j_iconst h (v := 3) (by decide) dL_hour_80 ?_
  obtain ⟨hb_79, hF⟩ := bnd_row hF
  refine ja_iald h (get := fun v => v) (put := fun _ v => v) (hL 0 (by decide)) hb_79 dL_hour_81 ?_
  refine j_iconst h (v := 1) (by decide) dL_hour_82 ?_
  refine j_icmp_ne h 90 (by decide) dL_hour_83 hF (fun hF => ?_) (fun hF => ?_)
  · refine j_iconst h (v := 2) (by decide) dL_hour_86 ?_
    refine j_goto h 91 (by decide) dL_hour_87 ?_
    exact j_sub [0, 1, 2, 3, 4, 5, 6, 7] rfl (k_L_hour_91 h hL hnL hK35 hE hF)
  · refine j_iconst h (v := 1) (by decide) dL_hour_90 ?_
    exact j_sub [0, 1, 2, 3, 4, 5, 6, 7] rfl (k_L_hour_91 h hL hnL hK35 hE hF)
set_option maxHeartbeats 4000000 in
set_option maxRecDepth 100000 in
theorem k_L_hour_35 {X : JX VS} {al : Nat → Nat} (h : OK X RL cL_hour rmL_hour) (hL : IsLaw X.cI X.B al) (hnL : X.nL = 14) {res : VS} {x5 : Int32} {x6 : Int32} (hE : EXv X cL_hour res) : ∀ (n : Nat) (x7 : Int32) (x8 : Int32) (S : VS), f_L_hour_35 x5 x6 n x7 x8 S = some res → J X 35 [(0, .ref (al 0)), (1, .ref (al 1)), (2, .ref (al 2)), (3, .ref (al 4)), (5, .int x5), (6, .int x6), (7, .int x7), (8, .int x8)] [] S := by
  intro n
  induction n with
  | zero =>
    intro x7 x8 S hF
    rw [f_L_hour_35] at hF
    cases hF
  | succ n ih =>
    intro x7 x8 S hF
    rw [f_L_hour_35] at hF
    refine j_iload h 7 rfl dL_hour_35 ?_
    refine j_iconst h (v := 2) (by decide) dL_hour_37 ?_
    refine j_icmp_ge h 98 (by decide) dL_hour_38 hF (fun hF => ?_) (fun hF => ?_)
    · exact j_sub [0, 1, 2, 3, 4, 5, 6] rfl (k_L_hour_98 h hL hnL hE hF)
    · refine j_iconst h (v := -1) (by decide) dL_hour_41 ?_
      refine j_iload h 6 rfl dL_hour_42 ?_
      refine j_aload_n h 0 rfl rfl dL_hour_44 ?_
      refine j_aload_n h 1 rfl rfl dL_hour_45 ?_
      obtain ⟨r_76, hr_76, hF⟩ := bind_row hF
      refine j_callSi h (st := []) (S' := S) (c_L_wants X.l X.D X.cI X.cZ X.cV hL S (-1 : Int32) x7 hr_76) rfl rfl q2_174 cw_L_wants rfl ⟨rfl, rfl, Nat.le_of_ble_eq_true rfl, Nat.le_of_ble_eq_true rfl⟩ _ rfl (Nat.le_of_ble_eq_true rfl) dL_hour_46 ?_
      refine j_iload h 5 rfl dL_hour_49 ?_
      refine j_icmp_le h 98 (by decide) dL_hour_51 hF (fun hF => ?_) (fun hF => ?_)
      · exact j_sub [0, 1, 2, 3, 4, 5, 6] rfl (k_L_hour_98 h hL hnL hE hF)
      · refine j_aload_n h 0 rfl rfl dL_hour_54 ?_
        refine j_iconst h (v := 3) (by decide) dL_hour_55 ?_
        obtain ⟨hb_77, hF⟩ := bnd_row hF
        refine ja_iald h (get := fun v => v) (put := fun _ v => v) (hL 0 (by decide)) hb_77 dL_hour_56 ?_
        refine j_iload h 6 rfl dL_hour_57 ?_
        refine j_aload_n h 0 rfl rfl dL_hour_59 ?_
        refine j_aload_n h 1 rfl rfl dL_hour_60 ?_
        obtain ⟨r_78, hr_78, hF⟩ := bind_row hF
        refine j_callSi h (st := []) (S' := S) (c_L_wants X.l X.D X.cI X.cZ X.cV hL S (rd S 0 (3 : Int32)) x7 hr_78) rfl rfl q2_174 cw_L_wants rfl ⟨rfl, rfl, Nat.le_of_ble_eq_true rfl, Nat.le_of_ble_eq_true rfl⟩ _ rfl (Nat.le_of_ble_eq_true rfl) dL_hour_61 ?_
        refine j_if_le h 77 (by decide) dL_hour_64 hF (fun hF => ?_) (fun hF => ?_)
        · exact j_sub [0, 1, 2, 3, 4, 5, 6, 7] rfl (k_L_hour_77 h hL hnL ih hE hF)
        · refine j_iload h 6 rfl dL_hour_67 ?_
          refine j_iconst h (v := 1) (by decide) dL_hour_69 ?_
          refine j_aload_n h 0 rfl rfl dL_hour_70 ?_
          refine j_iconst h (v := 3) (by decide) dL_hour_71 ?_
          obtain ⟨hb_83, hF⟩ := bnd_row hF
          refine ja_iald h (get := fun v => v) (put := fun _ v => v) (hL 0 (by decide)) hb_83 dL_hour_72 ?_
          refine j_ishl h dL_hour_73 ?_
          refine j_ior h dL_hour_74 ?_
          refine j_let hF (fun x_84 hF => ?_)
          refine j_istore h hnL [(7, .int x_84), (0, .ref (al 0)), (1, .ref (al 1)), (2, .ref (al 2)), (3, .ref (al 4)), (5, .int x5), (6, .int x6), (8, .int x8)] (by decide) rfl dL_hour_75 ?_
          exact j_sub [1, 2, 3, 4, 5, 6, 0, 7] rfl (k_L_hour_77 h hL hnL ih hE hF)
set_option maxHeartbeats 4000000 in
set_option maxRecDepth 100000 in
theorem k_L_hour {X : JX VS} {al : Nat → Nat} (h : OK X RL cL_hour rmL_hour) (hL : IsLaw X.cI X.B al) (hnL : X.nL = 14) {res : VS} {S : VS} (hE : EXv X cL_hour res) (hF : f_L_hour S = some res) : J X 0 [(0, .ref (al 0)), (1, .ref (al 1)), (2, .ref (al 2)), (3, .ref (al 4)), (4, .ref (al 5))] [] S := by
  rw [f_L_hour] at hF
  refine j_aload h 4 rfl dL_hour_0 ?_
  refine j_aload_n h 0 rfl rfl dL_hour_2 ?_
  refine j_iconst h (v := 2) (by decide) dL_hour_3 ?_
  obtain ⟨hb_1, hF⟩ := bnd_row hF
  refine ja_iald h (get := fun v => v) (put := fun _ v => v) (hL 0 (by decide)) hb_1 dL_hour_4 ?_
  refine j_aload_n h 0 rfl rfl dL_hour_5 ?_
  refine j_bipush h (v := 15) (by decide) dL_hour_6 ?_
  obtain ⟨hb_2, hF⟩ := bnd_row hF
  refine ja_iald h (get := fun v => v) (put := fun _ v => v) (hL 0 (by decide)) hb_2 dL_hour_8 ?_
  obtain ⟨hb_3, hF⟩ := bnd_row hF
  refine j_irem h (nz_v hb_3) dL_hour_9 ?_
  obtain ⟨hb_4, hF⟩ := bnd_row hF
  refine ja_iald h (get := fun v => v) (put := fun _ v => v) (hL 5 (by decide)) hb_4 dL_hour_10 ?_
  refine j_let hF (fun x_5 hF => ?_)
  refine j_istore h hnL [(5, .int x_5), (0, .ref (al 0)), (1, .ref (al 1)), (2, .ref (al 2)), (3, .ref (al 4)), (4, .ref (al 5))] (by decide) rfl dL_hour_11 ?_
  refine j_iload h 0 rfl dL_hour_13 ?_
  refine j_iconst h (v := 0) (by decide) dL_hour_15 ?_
  refine j_aload_n h 4 rfl rfl dL_hour_16 ?_
  obtain ⟨r_6, hr_6, hF⟩ := bind_row hF
  refine j_callSi h (st := [.int x_5]) (S' := S) (c_L_give X.l X.D X.cI X.cZ X.cV hL S (0 : Int32) hr_6) rfl rfl q2_171 cw_L_give rfl ⟨rfl, rfl, Nat.le_of_ble_eq_true rfl, Nat.le_of_ble_eq_true rfl⟩ _ rfl (Nat.le_of_ble_eq_true rfl) dL_hour_17 ?_
  refine j_iadd h dL_hour_20 ?_
  refine j_iconst h (v := 1) (by decide) dL_hour_21 ?_
  refine j_aload_n h 4 rfl rfl dL_hour_22 ?_
  obtain ⟨r_7, hr_7, hF⟩ := bind_row hF
  refine j_callSi h (st := [.int (x_5 + r_6)]) (S' := S) (c_L_give X.l X.D X.cI X.cZ X.cV hL S (1 : Int32) hr_7) rfl rfl q2_171 cw_L_give rfl ⟨rfl, rfl, Nat.le_of_ble_eq_true rfl, Nat.le_of_ble_eq_true rfl⟩ _ rfl (Nat.le_of_ble_eq_true rfl) dL_hour_23 ?_
  refine j_iadd h dL_hour_26 ?_
  refine j_let hF (fun x_8 hF => ?_)
  refine j_istore h hnL [(6, .int x_8), (5, .int x_5), (0, .ref (al 0)), (1, .ref (al 1)), (2, .ref (al 2)), (3, .ref (al 4)), (4, .ref (al 5))] (by decide) rfl dL_hour_27 ?_
  refine j_iconst h (v := 0) (by decide) dL_hour_29 ?_
  refine j_istore h hnL [(7, .int (0 : Int32)), (6, .int x_8), (5, .int x_5), (0, .ref (al 0)), (1, .ref (al 1)), (2, .ref (al 2)), (3, .ref (al 4)), (4, .ref (al 5))] (by decide) rfl dL_hour_30 ?_
  refine j_iconst h (v := 0) (by decide) dL_hour_32 ?_
  refine j_istore h hnL [(8, .int (0 : Int32)), (7, .int (0 : Int32)), (6, .int x_8), (5, .int x_5), (0, .ref (al 0)), (1, .ref (al 1)), (2, .ref (al 2)), (3, .ref (al 4)), (4, .ref (al 5))] (by decide) rfl dL_hour_33 ?_
  exact j_sub [4, 5, 6, 7, 3, 2, 1, 0] rfl (k_L_hour_35 h hL hnL hE fuel _ _ _ hF)
theorem c_L_hour (l : Launch) (D : va_G) (cI cZ cV : ClassId) {B : VS → va_W} {al : Nat → Nat} (hL : IsLaw cI B al) (S : VS) {r : VS} (hF : f_L_hour S = some r) : CTv l D (jtys cI cZ cV) yL_hour cL_hour 14 none rmL_hour B [.ref (al 0), .ref (al 1), .ref (al 2), .ref (al 4), .ref (al 5)] S r := by
  refine CTv.of [(0, .ref (al 0)), (1, .ref (al 1)), (2, .ref (al 2)), (3, .ref (al 4)), (4, .ref (al 5))] rfl (Nat.le_of_ble_eq_true rfl) (by decide) ⟨rfl, rfl⟩ (fun X e1 e2 e3 e4 e5 e6 e7 h hE => ?_)
  subst e1; subst e2; subst e3; subst e4; subst e5; subst e6
  exact k_L_hour h hL e7 hE hF
abbrev rmL_owes : Room := { frames := 0, cells := 0, slots := 0, locals := 0 }
theorem cw_L_owes : CWs yL_owes cL_owes 6 (some .int) 4 := ⟨q2_109, q1_0, q2_110, ⟨by decide +kernel, by decide +kernel, by decide +kernel⟩⟩
set_option maxHeartbeats 4000000 in
set_option maxRecDepth 100000 in
theorem k_L_owes_39 {X : JX VS} {al : Nat → Nat} (h : OK X RL cL_owes rmL_owes) (hL : IsLaw X.cI X.B al) (hnL : X.nL = 6) {res : Int32} {S : VS} {x0 : Int32} {x1 : Int32} {x4 : Int32} {x5 : Int32} {K6 : Int32 → Int32 → Option (Int32)} (hK6 : ∀ (x4 : Int32) (x5 : Int32), K6 x4 x5 = some res → J X 6 [(0, .int x0), (1, .int x1), (2, .ref (al 0)), (3, .ref (al 3)), (4, .int x4), (5, .int x5)] [] S) (hE : EXi X cL_owes res S) (hF : f_L_owes_39 K6 S x0 x1 x4 x5 = some res) : J X 39 [(0, .int x0), (1, .int x1), (2, .ref (al 0)), (3, .ref (al 3)), (4, .int x4), (5, .int x5)] [] S := by
  rw [f_L_owes_39] at hF
  refine j_iincL hF (fun x_5 ex_5 hF => ?_)
  refine j_iinc h hnL 5 [(5, .int x_5), (0, .int x0), (1, .int x1), (2, .ref (al 0)), (3, .ref (al 3)), (4, .int x4)] rfl ex_5 (by decide) (by decide) rfl dL_owes_39 ?_
  refine j_goto h 6 (by decide) dL_owes_42 ?_
  exact j_sub [1, 2, 3, 4, 5, 0] rfl (hK6 _ _ hF)
set_option maxHeartbeats 4000000 in
set_option maxRecDepth 100000 in
theorem k_L_owes_6 {X : JX VS} {al : Nat → Nat} (h : OK X RL cL_owes rmL_owes) (hL : IsLaw X.cI X.B al) (hnL : X.nL = 6) {res : Int32} {S : VS} {x0 : Int32} {x1 : Int32} (hE : EXi X cL_owes res S) : ∀ (n : Nat) (x4 : Int32) (x5 : Int32), f_L_owes_6 S x0 x1 n x4 x5 = some res → J X 6 [(0, .int x0), (1, .int x1), (2, .ref (al 0)), (3, .ref (al 3)), (4, .int x4), (5, .int x5)] [] S := by
  intro n
  induction n with
  | zero =>
    intro x4 x5 hF
    rw [f_L_owes_6] at hF
    cases hF
  | succ n ih =>
    intro x4 x5 hF
    rw [f_L_owes_6] at hF
    refine j_iload h 5 rfl dL_owes_6 ?_
    refine j_aload_n h 2 rfl rfl dL_owes_8 ?_
    refine j_iconst h (v := 1) (by decide) dL_owes_9 ?_
    obtain ⟨hb_1, hF⟩ := bnd_row hF
    refine ja_iald h (get := fun v => v) (put := fun _ v => v) (hL 0 (by decide)) hb_1 dL_owes_10 ?_
    refine j_icmp_ge h 45 (by decide) dL_owes_11 hF (fun hF => ?_) (fun hF => ?_)
    · refine j_iload h 4 rfl dL_owes_45 ?_
      cases hF
      exact hE _ _ dL_owes_47
    · refine j_aload_n h 3 rfl rfl dL_owes_14 ?_
      refine j_iconst h (v := 3) (by decide) dL_owes_15 ?_
      refine j_iload h 5 rfl dL_owes_16 ?_
      refine j_imul h dL_owes_18 ?_
      refine j_iload_n h 1 rfl rfl dL_owes_19 ?_
      refine j_iadd h dL_owes_20 ?_
      obtain ⟨hb_2, hF⟩ := bnd_row hF
      refine ja_iald h (get := fun v => v) (put := fun _ v => v) (hL 3 (by decide)) hb_2 dL_owes_21 ?_
      refine j_iload_n h 0 rfl rfl dL_owes_22 ?_
      refine j_icmp_ne h 39 (by decide) dL_owes_23 hF (fun hF => ?_) (fun hF => ?_)
      · refine j_iload h 4 rfl dL_owes_26 ?_
        refine j_aload_n h 3 rfl rfl dL_owes_28 ?_
        refine j_iconst h (v := 3) (by decide) dL_owes_29 ?_
        refine j_iload h 5 rfl dL_owes_30 ?_
        refine j_imul h dL_owes_32 ?_
        refine j_iconst h (v := 2) (by decide) dL_owes_33 ?_
        refine j_iadd h dL_owes_34 ?_
        obtain ⟨hb_3, hF⟩ := bnd_row hF
        refine ja_iald h (get := fun v => v) (put := fun _ v => v) (hL 3 (by decide)) hb_3 dL_owes_35 ?_
        refine j_iadd h dL_owes_36 ?_
        refine j_let hF (fun x_4 hF => ?_)
        refine j_istore h hnL [(4, .int x_4), (0, .int x0), (1, .int x1), (2, .ref (al 0)), (3, .ref (al 3)), (5, .int x5)] (by decide) rfl dL_owes_37 ?_
        exact j_sub [1, 2, 3, 4, 0, 5] rfl (k_L_owes_39 h hL hnL ih hE hF)
      · exact j_sub [0, 1, 2, 3, 4, 5] rfl (k_L_owes_39 h hL hnL ih hE hF)
set_option maxHeartbeats 4000000 in
set_option maxRecDepth 100000 in
theorem k_L_owes {X : JX VS} {al : Nat → Nat} (h : OK X RL cL_owes rmL_owes) (hL : IsLaw X.cI X.B al) (hnL : X.nL = 6) {res : Int32} {S : VS} {p1 : Int32} {p2 : Int32} (hE : EXi X cL_owes res S) (hF : f_L_owes S p1 p2 = some res) : J X 0 [(0, .int p1), (1, .int p2), (2, .ref (al 0)), (3, .ref (al 3))] [] S := by
  rw [f_L_owes] at hF
  refine j_iconst h (v := 0) (by decide) dL_owes_0 ?_
  refine j_istore h hnL [(4, .int (0 : Int32)), (0, .int p1), (1, .int p2), (2, .ref (al 0)), (3, .ref (al 3))] (by decide) rfl dL_owes_1 ?_
  refine j_iconst h (v := 0) (by decide) dL_owes_3 ?_
  refine j_istore h hnL [(5, .int (0 : Int32)), (4, .int (0 : Int32)), (0, .int p1), (1, .int p2), (2, .ref (al 0)), (3, .ref (al 3))] (by decide) rfl dL_owes_4 ?_
  exact j_sub [2, 3, 4, 5, 1, 0] rfl (k_L_owes_6 h hL hnL hE fuel _ _ hF)
theorem c_L_owes (l : Launch) (D : va_G) (cI cZ cV : ClassId) {B : VS → va_W} {al : Nat → Nat} (hL : IsLaw cI B al) (S : VS) (p1 : Int32) (p2 : Int32) {r : Int32} (hF : f_L_owes S p1 p2 = some r) : CTi l D (jtys cI cZ cV) yL_owes cL_owes 6 (some .int) rmL_owes B [.int p1, .int p2, .ref (al 0), .ref (al 3)] S r S := by
  refine CTi.of [(0, .int p1), (1, .int p2), (2, .ref (al 0)), (3, .ref (al 3))] rfl (Nat.le_of_ble_eq_true rfl) (by decide) ⟨rfl, rfl⟩ (fun X e1 e2 e3 e4 e5 e6 e7 h hE => ?_)
  subst e1; subst e2; subst e3; subst e4; subst e5; subst e6
  exact k_L_owes h hL e7 hE hF
abbrev rmL_drop : Room := { frames := 0, cells := 0, slots := 0, locals := 0 }
theorem cw_L_drop : CWs yL_drop cL_drop 4 none 2 := ⟨q2_112, q1_0, q2_113, ⟨by decide +kernel, by decide +kernel, by decide +kernel⟩⟩
set_option maxHeartbeats 4000000 in
set_option maxRecDepth 100000 in
theorem k_L_drop_54 {X : JX VS} {al : Nat → Nat} (h : OK X RL cL_drop rmL_drop) (hL : IsLaw X.cI X.B al) (hnL : X.nL = 4) {res : VS} {S : VS} {x2 : Int32} {K6 : Int32 → VS → Option (VS)} (hK6 : ∀ (x2 : Int32) (S : VS), K6 x2 S = some res → J X 6 [(0, .ref (al 0)), (1, .ref (al 3)), (2, .int x2)] [] S) (hE : EXv X cL_drop res) (hF : f_L_drop_54 K6 S x2 = some res) : J X 54 [(0, .ref (al 0)), (1, .ref (al 3)), (2, .int x2)] [] S := by
  rw [f_L_drop_54] at hF
  refine j_iincL hF (fun x_9 ex_9 hF => ?_)
  refine j_iinc h hnL 2 [(2, .int x_9), (0, .ref (al 0)), (1, .ref (al 3))] rfl ex_9 (by decide) (by decide) rfl dL_drop_54 ?_
  refine j_goto h 6 (by decide) dL_drop_57 ?_
  exact j_sub [1, 2, 0] rfl (hK6 _ _ hF)
set_option maxHeartbeats 4000000 in
set_option maxRecDepth 100000 in
theorem k_L_drop_31 {X : JX VS} {al : Nat → Nat} (h : OK X RL cL_drop rmL_drop) (hL : IsLaw X.cI X.B al) (hnL : X.nL = 4) {res : VS} {x2 : Int32} {K6 : Int32 → VS → Option (VS)} (hK6 : ∀ (x2 : Int32) (S : VS), K6 x2 S = some res → J X 6 [(0, .ref (al 0)), (1, .ref (al 3)), (2, .int x2)] [] S) (hE : EXv X cL_drop res) : ∀ (n : Nat) (x3 : Int32) (S : VS), f_L_drop_31 K6 x2 n x3 S = some res → J X 31 [(0, .ref (al 0)), (1, .ref (al 3)), (2, .int x2), (3, .int x3)] [] S := by
  intro n
  induction n with
  | zero =>
    intro x3 S hF
    rw [f_L_drop_31] at hF
    cases hF
  | succ n ih =>
    intro x3 S hF
    rw [f_L_drop_31] at hF
    refine j_iload_n h 3 rfl rfl dL_drop_31 ?_
    refine j_iconst h (v := 3) (by decide) dL_drop_32 ?_
    refine j_aload_n h 0 rfl rfl dL_drop_33 ?_
    refine j_iconst h (v := 1) (by decide) dL_drop_34 ?_
    obtain ⟨hb_8, hF⟩ := bnd_row hF
    refine ja_iald h (get := fun v => v) (put := fun _ v => v) (hL 0 (by decide)) hb_8 dL_drop_35 ?_
    refine j_imul h dL_drop_36 ?_
    refine j_icmp_ge h 54 (by decide) dL_drop_37 hF (fun hF => ?_) (fun hF => ?_)
    · exact j_sub [0, 1, 2] rfl (k_L_drop_54 h hL hnL hK6 hE hF)
    · refine j_aload_n h 1 rfl rfl dL_drop_40 ?_
      refine j_iload_n h 3 rfl rfl dL_drop_41 ?_
      refine j_aload_n h 1 rfl rfl dL_drop_42 ?_
      refine j_iload_n h 3 rfl rfl dL_drop_43 ?_
      refine j_iconst h (v := 3) (by decide) dL_drop_44 ?_
      refine j_iadd h dL_drop_45 ?_
      obtain ⟨hb_10, hF⟩ := bnd_row hF
      refine ja_iald h (get := fun v => v) (put := fun _ v => v) (hL 3 (by decide)) hb_10 dL_drop_46 ?_
      obtain ⟨hb_11, hF⟩ := bnd_row hF
      refine ja_iast h (get := fun v => v) (put := fun _ v => v) (hL 3 (by decide)) hb_11 dL_drop_47 ?_
      refine j_letS hF (fun S_12 hF => ?_)
      refine j_iincL hF (fun x_13 ex_13 hF => ?_)
      refine j_iinc h hnL 3 [(3, .int x_13), (0, .ref (al 0)), (1, .ref (al 3)), (2, .int x2)] rfl ex_13 (by decide) (by decide) rfl dL_drop_48 ?_
      refine j_goto h 31 (by decide) dL_drop_51 ?_
      exact j_sub [1, 2, 3, 0] rfl (ih _ _ hF)
set_option maxHeartbeats 4000000 in
set_option maxRecDepth 100000 in
theorem k_L_drop_6 {X : JX VS} {al : Nat → Nat} (h : OK X RL cL_drop rmL_drop) (hL : IsLaw X.cI X.B al) (hnL : X.nL = 4) {res : VS} (hE : EXv X cL_drop res) : ∀ (n : Nat) (x2 : Int32) (S : VS), f_L_drop_6 n x2 S = some res → J X 6 [(0, .ref (al 0)), (1, .ref (al 3)), (2, .int x2)] [] S := by
  intro n
  induction n with
  | zero =>
    intro x2 S hF
    rw [f_L_drop_6] at hF
    cases hF
  | succ n ih =>
    intro x2 S hF
    rw [f_L_drop_6] at hF
    refine j_iload_n h 2 rfl rfl dL_drop_6 ?_
    refine j_if_lt h 60 (by decide) dL_drop_7 hF (fun hF => ?_) (fun hF => ?_)
    · cases hF
      exact hE _ _ dL_drop_60
    · refine j_aload_n h 1 rfl rfl dL_drop_10 ?_
      refine j_iconst h (v := 3) (by decide) dL_drop_11 ?_
      refine j_iload_n h 2 rfl rfl dL_drop_12 ?_
      refine j_imul h dL_drop_13 ?_
      refine j_iconst h (v := 2) (by decide) dL_drop_14 ?_
      refine j_iadd h dL_drop_15 ?_
      obtain ⟨hb_3, hF⟩ := bnd_row hF
      refine ja_iald h (get := fun v => v) (put := fun _ v => v) (hL 3 (by decide)) hb_3 dL_drop_16 ?_
      refine j_if_ne h 54 (by decide) dL_drop_17 hF (fun hF => ?_) (fun hF => ?_)
      · refine j_aload_n h 0 rfl rfl dL_drop_20 ?_
        refine j_iconst h (v := 1) (by decide) dL_drop_21 ?_
        refine j_dup2 h rfl rfl dL_drop_22 ?_
        obtain ⟨hb_4, hF⟩ := bnd_row hF
        refine ja_iald h (get := fun v => v) (put := fun _ v => v) (hL 0 (by decide)) hb_4 dL_drop_23 ?_
        refine j_iconst h (v := 1) (by decide) dL_drop_24 ?_
        refine j_isub h dL_drop_25 ?_
        obtain ⟨hb_5, hF⟩ := bnd_row hF
        refine ja_iast h (get := fun v => v) (put := fun _ v => v) (hL 0 (by decide)) hb_5 dL_drop_26 ?_
        refine j_letS hF (fun S_6 hF => ?_)
        refine j_iconst h (v := 3) (by decide) dL_drop_27 ?_
        refine j_iload_n h 2 rfl rfl dL_drop_28 ?_
        refine j_imul h dL_drop_29 ?_
        refine j_let hF (fun x_7 hF => ?_)
        refine j_istore_n h hnL [(3, .int x_7), (0, .ref (al 0)), (1, .ref (al 3)), (2, .int x2)] rfl (by decide) rfl dL_drop_30 ?_
        exact j_sub [1, 2, 3, 0] rfl (k_L_drop_31 h hL hnL ih hE fuel _ _ hF)
      · exact j_sub [0, 1, 2] rfl (k_L_drop_54 h hL hnL ih hE hF)
set_option maxHeartbeats 4000000 in
set_option maxRecDepth 100000 in
theorem k_L_drop {X : JX VS} {al : Nat → Nat} (h : OK X RL cL_drop rmL_drop) (hL : IsLaw X.cI X.B al) (hnL : X.nL = 4) {res : VS} {S : VS} (hE : EXv X cL_drop res) (hF : f_L_drop S = some res) : J X 0 [(0, .ref (al 0)), (1, .ref (al 3))] [] S := by
  rw [f_L_drop] at hF
  refine j_aload_n h 0 rfl rfl dL_drop_0 ?_
  refine j_iconst h (v := 1) (by decide) dL_drop_1 ?_
  obtain ⟨hb_1, hF⟩ := bnd_row hF
  refine ja_iald h (get := fun v => v) (put := fun _ v => v) (hL 0 (by decide)) hb_1 dL_drop_2 ?_
  refine j_iconst h (v := 1) (by decide) dL_drop_3 ?_
  refine j_isub h dL_drop_4 ?_
  refine j_let hF (fun x_2 hF => ?_)
  refine j_istore_n h hnL [(2, .int x_2), (0, .ref (al 0)), (1, .ref (al 3))] rfl (by decide) rfl dL_drop_5 ?_
  exact j_sub [1, 2, 0] rfl (k_L_drop_6 h hL hnL hE fuel _ _ hF)
theorem c_L_drop (l : Launch) (D : va_G) (cI cZ cV : ClassId) {B : VS → va_W} {al : Nat → Nat} (hL : IsLaw cI B al) (S : VS) {r : VS} (hF : f_L_drop S = some r) : CTv l D (jtys cI cZ cV) yL_drop cL_drop 4 none rmL_drop B [.ref (al 0), .ref (al 3)] S r := by
  refine CTv.of [(0, .ref (al 0)), (1, .ref (al 3))] rfl (Nat.le_of_ble_eq_true rfl) (by decide) ⟨rfl, rfl⟩ (fun X e1 e2 e3 e4 e5 e6 e7 h hE => ?_)
  subst e1; subst e2; subst e3; subst e4; subst e5; subst e6
  exact k_L_drop h hL e7 hE hF
abbrev rmL_token : Room := { frames := 1, cells := 0, slots := 0, locals := 25 }
theorem cw_L_token : CWs yL_token cL_token 10 none 5 := ⟨q2_106, q1_0, q2_107, ⟨by decide +kernel, by decide +kernel, by decide +kernel⟩⟩
set_option maxHeartbeats 4000000 in
set_option maxRecDepth 100000 in
theorem k_L_token_190 {X : JX VS} {al : Nat → Nat} (h : OK X RL cL_token rmL_token) (hL : IsLaw X.cI X.B al) (hnL : X.nL = 10) {res : VS} {S : VS} {x0 : Int32} {x1 : Int32} {x6 : Int32} {x7 : Int32} {x8 : Int32} {K102 : Int32 → Int32 → VS → Option (VS)} (hK102 : ∀ (x7 : Int32) (x8 : Int32) (S : VS), K102 x7 x8 S = some res → J X 102 [(0, .int x0), (1, .int x1), (2, .ref (al 0)), (3, .ref (al 1)), (4, .ref (al 3)), (6, .int x6), (7, .int x7), (8, .int x8)] [] S) (hE : EXv X cL_token res) (hF : f_L_token_190 K102 S x0 x1 x6 x7 x8 = some res) : J X 190 [(0, .int x0), (1, .int x1), (2, .ref (al 0)), (3, .ref (al 1)), (4, .ref (al 3)), (6, .int x6), (7, .int x7), (8, .int x8)] [] S := by
  rw [f_L_token_190] at hF
  refine j_iincL hF (fun x_31 ex_31 hF => ?_)
  refine j_iinc h hnL 7 [(8, .int x_31), (0, .int x0), (1, .int x1), (2, .ref (al 0)), (3, .ref (al 1)), (4, .ref (al 3)), (6, .int x6), (7, .int x7)] rfl ex_31 (by decide) (by decide) rfl dL_token_190 ?_
  refine j_goto h 102 (by decide) dL_token_193 ?_
  exact j_sub [1, 2, 3, 4, 5, 6, 7, 0] rfl (hK102 _ _ _ hF)
set_option maxHeartbeats 4000000 in
set_option maxRecDepth 100000 in
theorem k_L_token_148 {X : JX VS} {al : Nat → Nat} (h : OK X RL cL_token rmL_token) (hL : IsLaw X.cI X.B al) (hnL : X.nL = 10) {res : VS} {S : VS} {x0 : Int32} {x1 : Int32} {x6 : Int32} {x7 : Int32} {x8 : Int32} {s0 : Int32} {K102 : Int32 → Int32 → VS → Option (VS)} (hK102 : ∀ (x7 : Int32) (x8 : Int32) (S : VS), K102 x7 x8 S = some res → J X 102 [(0, .int x0), (1, .int x1), (2, .ref (al 0)), (3, .ref (al 1)), (4, .ref (al 3)), (6, .int x6), (7, .int x7), (8, .int x8)] [] S) (hE : EXv X cL_token res) (hF : f_L_token_148 K102 S x0 x1 x6 x7 x8 s0 = some res) : J X 148 [(0, .int x0), (1, .int x1), (2, .ref (al 0)), (3, .ref (al 1)), (4, .ref (al 3)), (6, .int x6), (7, .int x7), (8, .int x8)] [.int s0] S := by
  rw [f_L_token_148] at hF
  refine j_istore h hnL [(9, .int s0), (0, .int x0), (1, .int x1), (2, .ref (al 0)), (3, .ref (al 1)), (4, .ref (al 3)), (6, .int x6), (7, .int x7), (8, .int x8)] (by decide) rfl dL_token_148 ?_
  refine j_aload h 5 rfl dL_token_150 ?_
  refine j_iconst h (v := 3) (by decide) dL_token_152 ?_
  refine j_iload h 8 rfl dL_token_153 ?_
  refine j_imul h dL_token_155 ?_
  refine j_iconst h (v := 2) (by decide) dL_token_156 ?_
  refine j_iadd h dL_token_157 ?_
  refine j_dup2 h rfl rfl dL_token_158 ?_
  obtain ⟨hb_23, hF⟩ := bnd_row hF
  refine ja_iald h (get := fun v => v) (put := fun _ v => v) (hL 3 (by decide)) hb_23 dL_token_159 ?_
  refine j_iload h 0 rfl dL_token_160 ?_
  refine j_isub h dL_token_162 ?_
  obtain ⟨hb_24, hF⟩ := bnd_row hF
  refine ja_iast h (get := fun v => v) (put := fun _ v => v) (hL 3 (by decide)) hb_24 dL_token_163 ?_
  refine j_letS hF (fun S_25 hF => ?_)
  refine j_aload_n h 4 rfl rfl dL_token_164 ?_
  refine j_bipush h (v := 6) (by decide) dL_token_165 ?_
  refine j_aload h 5 rfl dL_token_167 ?_
  refine j_iconst h (v := 3) (by decide) dL_token_169 ?_
  refine j_iload h 8 rfl dL_token_170 ?_
  refine j_imul h dL_token_172 ?_
  obtain ⟨hb_26, hF⟩ := bnd_row hF
  refine ja_iald h (get := fun v => v) (put := fun _ v => v) (hL 3 (by decide)) hb_26 dL_token_173 ?_
  refine j_imul h dL_token_174 ?_
  refine j_iconst h (v := 4) (by decide) dL_token_175 ?_
  refine j_iadd h dL_token_176 ?_
  refine j_dup2 h rfl rfl dL_token_177 ?_
  obtain ⟨hb_27, hF⟩ := bnd_row hF
  refine ja_iald h (get := fun v => v) (put := fun _ v => v) (hL 1 (by decide)) hb_27 dL_token_178 ?_
  refine j_iload h 0 rfl dL_token_179 ?_
  refine j_iadd h dL_token_181 ?_
  obtain ⟨hb_28, hF⟩ := bnd_row hF
  refine ja_iast h (get := fun v => v) (put := fun _ v => v) (hL 1 (by decide)) hb_28 dL_token_182 ?_
  refine j_letS hF (fun S_29 hF => ?_)
  refine j_iload h 7 rfl dL_token_183 ?_
  refine j_iload h 0 rfl dL_token_185 ?_
  refine j_isub h dL_token_187 ?_
  refine j_let hF (fun x_30 hF => ?_)
  refine j_istore h hnL [(7, .int x_30), (9, .int s0), (0, .int x0), (1, .int x1), (2, .ref (al 0)), (3, .ref (al 1)), (4, .ref (al 3)), (6, .int x6), (8, .int x8)] (by decide) rfl dL_token_188 ?_
  exact j_sub [2, 3, 4, 5, 6, 7, 0, 8] rfl (k_L_token_190 h hL hnL hK102 hE hF)
set_option maxHeartbeats 4000000 in
set_option maxRecDepth 100000 in
theorem k_L_token_102 {X : JX VS} {al : Nat → Nat} (h : OK X RL cL_token rmL_token) (hL : IsLaw X.cI X.B al) (hnL : X.nL = 10) {res : VS} {x0 : Int32} {x1 : Int32} {x6 : Int32} (hE : EXv X cL_token res) : ∀ (n : Nat) (x7 : Int32) (x8 : Int32) (S : VS), f_L_token_102 x0 x1 x6 n x7 x8 S = some res → J X 102 [(0, .int x0), (1, .int x1), (2, .ref (al 0)), (3, .ref (al 1)), (4, .ref (al 3)), (6, .int x6), (7, .int x7), (8, .int x8)] [] S := by
  intro n
  induction n with
  | zero =>
    intro x7 x8 S hF
    rw [f_L_token_102] at hF
    cases hF
  | succ n ih =>
    intro x7 x8 S hF
    rw [f_L_token_102] at hF
    refine j_iload h 6 rfl dL_token_102 ?_
    refine j_if_le h 196 (by decide) dL_token_104 hF (fun hF => ?_) (fun hF => ?_)
    · refine j_aload_n h 2 rfl rfl dL_token_196 ?_
      refine j_aload h 4 rfl dL_token_197 ?_
      obtain ⟨r_14, hr_14, hF⟩ := bind_row hF
      refine j_callSv h (st := []) (S' := r_14) (c_L_drop X.l X.D X.cI X.cZ X.cV hL S hr_14) rfl rfl q2_111 cw_L_drop rfl ⟨rfl, rfl, Nat.le_of_ble_eq_true rfl, Nat.le_of_ble_eq_true rfl⟩ _ rfl (Nat.le_of_ble_eq_true rfl) dL_token_199 ?_
      refine j_aload_n h 2 rfl rfl dL_token_202 ?_
      refine j_bipush h (v := 13) (by decide) dL_token_203 ?_
      refine j_dup2 h rfl rfl dL_token_205 ?_
      obtain ⟨hb_15, hF⟩ := bnd_row hF
      refine ja_iald h (get := fun v => v) (put := fun _ v => v) (hL 0 (by decide)) hb_15 dL_token_206 ?_
      refine j_iload_n h 1 rfl rfl dL_token_207 ?_
      refine j_iadd h dL_token_208 ?_
      obtain ⟨hb_16, hF⟩ := bnd_row hF
      refine ja_iast h (get := fun v => v) (put := fun _ v => v) (hL 0 (by decide)) hb_16 dL_token_209 ?_
      refine j_letS hF (fun S_17 hF => ?_)
      refine j_aload_n h 2 rfl rfl dL_token_210 ?_
      refine j_bipush h (v := 14) (by decide) dL_token_211 ?_
      refine j_dup2 h rfl rfl dL_token_213 ?_
      obtain ⟨hb_18, hF⟩ := bnd_row hF
      refine ja_iald h (get := fun v => v) (put := fun _ v => v) (hL 0 (by decide)) hb_18 dL_token_214 ?_
      refine j_iload h 5 rfl dL_token_215 ?_
      refine j_iadd h dL_token_217 ?_
      obtain ⟨hb_19, hF⟩ := bnd_row hF
      refine ja_iast h (get := fun v => v) (put := fun _ v => v) (hL 0 (by decide)) hb_19 dL_token_218 ?_
      refine j_letS hF (fun S_20 hF => ?_)
      cases hF
      exact hE _ _ dL_token_219
    · refine j_aload h 4 rfl dL_token_107 ?_
      refine j_iconst h (v := 3) (by decide) dL_token_109 ?_
      refine j_iload h 7 rfl dL_token_110 ?_
      refine j_imul h dL_token_112 ?_
      refine j_iconst h (v := 1) (by decide) dL_token_113 ?_
      refine j_iadd h dL_token_114 ?_
      obtain ⟨hb_21, hF⟩ := bnd_row hF
      refine ja_iald h (get := fun v => v) (put := fun _ v => v) (hL 3 (by decide)) hb_21 dL_token_115 ?_
      refine j_iload_n h 0 rfl rfl dL_token_116 ?_
      refine j_icmp_ne h 190 (by decide) dL_token_117 hF (fun hF => ?_) (fun hF => ?_)
      · refine j_iload h 6 rfl dL_token_120 ?_
        refine j_aload h 4 rfl dL_token_122 ?_
        refine j_iconst h (v := 3) (by decide) dL_token_124 ?_
        refine j_iload h 7 rfl dL_token_125 ?_
        refine j_imul h dL_token_127 ?_
        refine j_iconst h (v := 2) (by decide) dL_token_128 ?_
        refine j_iadd h dL_token_129 ?_
        obtain ⟨hb_22, hF⟩ := bnd_row hF
        refine ja_iald h (get := fun v => v) (put := fun _ v => v) (hL 3 (by decide)) hb_22 dL_token_130 ?_
        refine j_icmp_le h 146 (by decide) dL_token_131 hF (fun hF => ?_) (fun hF => ?_)
        · refine j_iload h 6 rfl dL_token_146 ?_
          exact j_sub [0, 1, 2, 3, 4, 5, 6, 7] rfl (k_L_token_148 h hL hnL ih hE hF)
        · refine j_aload h 4 rfl dL_token_134 ?_
          refine j_iconst h (v := 3) (by decide) dL_token_136 ?_
          refine j_iload h 7 rfl dL_token_137 ?_
          refine j_imul h dL_token_139 ?_
          refine j_iconst h (v := 2) (by decide) dL_token_140 ?_
          refine j_iadd h dL_token_141 ?_
          obtain ⟨hb_32, hF⟩ := bnd_row hF
          refine ja_iald h (get := fun v => v) (put := fun _ v => v) (hL 3 (by decide)) hb_32 dL_token_142 ?_
          refine j_goto h 148 (by decide) dL_token_143 ?_
          exact j_sub [0, 1, 2, 3, 4, 5, 6, 7] rfl (k_L_token_148 h hL hnL ih hE hF)
      · exact j_sub [0, 1, 2, 3, 4, 5, 6, 7] rfl (k_L_token_190 h hL hnL ih hE hF)
set_option maxHeartbeats 4000000 in
set_option maxRecDepth 100000 in
theorem k_L_token_83 {X : JX VS} {al : Nat → Nat} (h : OK X RL cL_token rmL_token) (hL : IsLaw X.cI X.B al) (hnL : X.nL = 10) {res : VS} {S : VS} {x0 : Int32} {x1 : Int32} {x5 : Int32} {x6 : Int32} {x7 : Int32} (hE : EXv X cL_token res) (hF : f_L_token_83 S x0 x1 x5 x6 x7 = some res) : J X 83 [(0, .int x0), (1, .int x1), (2, .ref (al 0)), (3, .ref (al 1)), (4, .ref (al 3)), (5, .int x5), (6, .int x6), (7, .int x7)] [] S := by
  rw [f_L_token_83] at hF
  refine j_aload_n h 3 rfl rfl dL_token_83 ?_
  refine j_iload h 5 rfl dL_token_84 ?_
  refine j_iconst h (v := 4) (by decide) dL_token_86 ?_
  refine j_iadd h dL_token_87 ?_
  refine j_dup2 h rfl rfl dL_token_88 ?_
  obtain ⟨hb_11, hF⟩ := bnd_row hF
  refine ja_iald h (get := fun v => v) (put := fun _ v => v) (hL 1 (by decide)) hb_11 dL_token_89 ?_
  refine j_iload_n h 1 rfl rfl dL_token_90 ?_
  refine j_iload h 6 rfl dL_token_91 ?_
  refine j_isub h dL_token_93 ?_
  refine j_iload h 7 rfl dL_token_94 ?_
  refine j_isub h dL_token_96 ?_
  refine j_iadd h dL_token_97 ?_
  obtain ⟨hb_12, hF⟩ := bnd_row hF
  refine ja_iast h (get := fun v => v) (put := fun _ v => v) (hL 1 (by decide)) hb_12 dL_token_98 ?_
  refine j_letS hF (fun S_13 hF => ?_)
  refine j_iconst h (v := 0) (by decide) dL_token_99 ?_
  refine j_istore h hnL [(8, .int (0 : Int32)), (0, .int x0), (1, .int x1), (2, .ref (al 0)), (3, .ref (al 1)), (4, .ref (al 3)), (5, .int x5), (6, .int x6), (7, .int x7)] (by decide) rfl dL_token_100 ?_
  exact j_sub [1, 2, 3, 4, 5, 7, 8, 0] rfl (k_L_token_102 h hL hnL hE fuel _ _ _ hF)
set_option maxHeartbeats 4000000 in
set_option maxRecDepth 100000 in
theorem k_L_token_35 {X : JX VS} {al : Nat → Nat} (h : OK X RL cL_token rmL_token) (hL : IsLaw X.cI X.B al) (hnL : X.nL = 10) {res : VS} {S : VS} {x0 : Int32} {x1 : Int32} {x5 : Int32} {x6 : Int32} (hE : EXv X cL_token res) (hF : f_L_token_35 S x0 x1 x5 x6 = some res) : J X 35 [(0, .int x0), (1, .int x1), (2, .ref (al 0)), (3, .ref (al 1)), (4, .ref (al 3)), (5, .int x5), (6, .int x6)] [] S := by
  rw [f_L_token_35] at hF
  refine j_aload_n h 3 rfl rfl dL_token_35 ?_
  refine j_iload h 5 rfl dL_token_36 ?_
  refine j_iconst h (v := 2) (by decide) dL_token_38 ?_
  refine j_iadd h dL_token_39 ?_
  refine j_dup2 h rfl rfl dL_token_40 ?_
  obtain ⟨hb_5, hF⟩ := bnd_row hF
  refine ja_iald h (get := fun v => v) (put := fun _ v => v) (hL 1 (by decide)) hb_5 dL_token_41 ?_
  refine j_iload h 6 rfl dL_token_42 ?_
  refine j_isub h dL_token_44 ?_
  obtain ⟨hb_6, hF⟩ := bnd_row hF
  refine ja_iast h (get := fun v => v) (put := fun _ v => v) (hL 1 (by decide)) hb_6 dL_token_45 ?_
  refine j_letS hF (fun S_7 hF => ?_)
  refine j_iload_n h 1 rfl rfl dL_token_46 ?_
  refine j_iload h 6 rfl dL_token_47 ?_
  refine j_isub h dL_token_49 ?_
  refine j_aload_n h 2 rfl rfl dL_token_50 ?_
  refine j_bipush h (v := 6) (by decide) dL_token_51 ?_
  obtain ⟨hb_8, hF⟩ := bnd_row hF
  refine ja_iald h (get := fun v => v) (put := fun _ v => v) (hL 0 (by decide)) hb_8 dL_token_53 ?_
  refine j_imul h dL_token_54 ?_
  refine j_bipush h (v := 100) (by decide) dL_token_55 ?_
  refine j_idiv h (by decide) dL_token_57 ?_
  refine j_let hF (fun x_9 hF => ?_)
  refine j_istore h hnL [(7, .int x_9), (0, .int x0), (1, .int x1), (2, .ref (al 0)), (3, .ref (al 1)), (4, .ref (al 3)), (5, .int x5), (6, .int x6)] (by decide) rfl dL_token_58 ?_
  refine j_iload h 0 rfl dL_token_60 ?_
  refine j_iload_n h 1 rfl rfl dL_token_62 ?_
  refine j_iconst h (v := 1) (by decide) dL_token_63 ?_
  refine j_aload_n h 3 rfl rfl dL_token_64 ?_
  refine j_aload h 5 rfl dL_token_65 ?_
  obtain ⟨r_10, hr_10, hF⟩ := bind_row hF
  refine j_callSi h (st := [.int x_9]) (S' := S_7) (c_L_owes X.l X.D X.cI X.cZ X.cV hL S_7 x0 (1 : Int32) hr_10) rfl rfl q2_108 cw_L_owes rfl ⟨rfl, rfl, Nat.le_of_ble_eq_true rfl, Nat.le_of_ble_eq_true rfl⟩ _ rfl (Nat.le_of_ble_eq_true rfl) dL_token_67 ?_
  refine j_icmp_le h 83 (by decide) dL_token_70 hF (fun hF => ?_) (fun hF => ?_)
  · exact j_sub [1, 2, 3, 4, 5, 6, 7, 0] rfl (k_L_token_83 h hL hnL hE hF)
  · refine j_iload_n h 1 rfl rfl dL_token_73 ?_
    refine j_iconst h (v := 1) (by decide) dL_token_74 ?_
    refine j_aload_n h 3 rfl rfl dL_token_75 ?_
    refine j_aload h 5 rfl dL_token_76 ?_
    obtain ⟨r_33, hr_33, hF⟩ := bind_row hF
    refine j_callSi h (st := []) (S' := S_7) (c_L_owes X.l X.D X.cI X.cZ X.cV hL S_7 x0 (1 : Int32) hr_33) rfl rfl q2_108 cw_L_owes rfl ⟨rfl, rfl, Nat.le_of_ble_eq_true rfl, Nat.le_of_ble_eq_true rfl⟩ _ rfl (Nat.le_of_ble_eq_true rfl) dL_token_78 ?_
    refine j_istore h hnL [(7, .int r_33), (0, .int x0), (1, .int x1), (2, .ref (al 0)), (3, .ref (al 1)), (4, .ref (al 3)), (5, .int x5), (6, .int x6)] (by decide) rfl dL_token_81 ?_
    exact j_sub [1, 2, 3, 4, 5, 6, 7, 0] rfl (k_L_token_83 h hL hnL hE hF)
set_option maxHeartbeats 4000000 in
set_option maxRecDepth 100000 in
theorem k_L_token {X : JX VS} {al : Nat → Nat} (h : OK X RL cL_token rmL_token) (hL : IsLaw X.cI X.B al) (hnL : X.nL = 10) {res : VS} {S : VS} {p1 : Int32} {p2 : Int32} (hE : EXv X cL_token res) (hF : f_L_token S p1 p2 = some res) : J X 0 [(0, .int p1), (1, .int p2), (2, .ref (al 0)), (3, .ref (al 1)), (4, .ref (al 3))] [] S := by
  rw [f_L_token] at hF
  refine j_bipush h (v := 6) (by decide) dL_token_0 ?_
  refine j_iload_n h 0 rfl rfl dL_token_2 ?_
  refine j_imul h dL_token_3 ?_
  refine j_let hF (fun x_1 hF => ?_)
  refine j_istore h hnL [(5, .int x_1), (0, .int p1), (1, .int p2), (2, .ref (al 0)), (3, .ref (al 1)), (4, .ref (al 3))] (by decide) rfl dL_token_4 ?_
  refine j_iload_n h 2 rfl rfl dL_token_6 ?_
  refine j_aload_n h 3 rfl rfl dL_token_7 ?_
  refine j_iconst h (v := 5) (by decide) dL_token_8 ?_
  obtain ⟨hb_2, hF⟩ := bnd_row hF
  refine ja_iald h (get := fun v => v) (put := fun _ v => v) (hL 0 (by decide)) hb_2 dL_token_9 ?_
  refine j_imul h dL_token_10 ?_
  refine j_bipush h (v := 100) (by decide) dL_token_11 ?_
  refine j_idiv h (by decide) dL_token_13 ?_
  refine j_let hF (fun x_3 hF => ?_)
  refine j_istore h hnL [(6, .int x_3), (5, .int x_1), (0, .int p1), (1, .int p2), (2, .ref (al 0)), (3, .ref (al 1)), (4, .ref (al 3))] (by decide) rfl dL_token_14 ?_
  refine j_iload h 0 rfl dL_token_16 ?_
  refine j_aload_n h 5 rfl rfl dL_token_18 ?_
  refine j_iload h 1 rfl dL_token_19 ?_
  refine j_iconst h (v := 2) (by decide) dL_token_21 ?_
  refine j_iadd h dL_token_22 ?_
  obtain ⟨hb_4, hF⟩ := bnd_row hF
  refine ja_iald h (get := fun v => v) (put := fun _ v => v) (hL 1 (by decide)) hb_4 dL_token_23 ?_
  refine j_icmp_le h 35 (by decide) dL_token_24 hF (fun hF => ?_) (fun hF => ?_)
  · exact j_sub [2, 3, 4, 5, 6, 1, 0] rfl (k_L_token_35 h hL hnL hE hF)
  · refine j_aload_n h 5 rfl rfl dL_token_27 ?_
    refine j_iload h 1 rfl dL_token_28 ?_
    refine j_iconst h (v := 2) (by decide) dL_token_30 ?_
    refine j_iadd h dL_token_31 ?_
    obtain ⟨hb_34, hF⟩ := bnd_row hF
    refine ja_iald h (get := fun v => v) (put := fun _ v => v) (hL 1 (by decide)) hb_34 dL_token_32 ?_
    refine j_let hF (fun x_35 hF => ?_)
    refine j_istore h hnL [(6, .int x_35), (5, .int x_1), (0, .int p1), (1, .int p2), (2, .ref (al 0)), (3, .ref (al 1)), (4, .ref (al 3))] (by decide) rfl dL_token_33 ?_
    exact j_sub [2, 3, 4, 5, 6, 1, 0] rfl (k_L_token_35 h hL hnL hE hF)
theorem c_L_token (l : Launch) (D : va_G) (cI cZ cV : ClassId) {B : VS → va_W} {al : Nat → Nat} (hL : IsLaw cI B al) (S : VS) (p1 : Int32) (p2 : Int32) {r : VS} (hF : f_L_token S p1 p2 = some r) : CTv l D (jtys cI cZ cV) yL_token cL_token 10 none rmL_token B [.int p1, .int p2, .ref (al 0), .ref (al 1), .ref (al 3)] S r := by
  refine CTv.of [(0, .int p1), (1, .int p2), (2, .ref (al 0)), (3, .ref (al 1)), (4, .ref (al 3))] rfl (Nat.le_of_ble_eq_true rfl) (by decide) ⟨rfl, rfl⟩ (fun X e1 e2 e3 e4 e5 e6 e7 h hE => ?_)
  subst e1; subst e2; subst e3; subst e4; subst e5; subst e6
  exact k_L_token h hL e7 hE hF
abbrev rmL_fresh : Room := { frames := 0, cells := 0, slots := 0, locals := 0 }
theorem cw_L_fresh : CWs yL_fresh cL_fresh 4 none 3 := ⟨q1_227, q1_0, q1_228, ⟨by decide +kernel, by decide +kernel, by decide +kernel⟩⟩
set_option maxHeartbeats 4000000 in
set_option maxRecDepth 100000 in
theorem k_L_fresh_37 {X : JX VS} {al : Nat → Nat} (h : OK X RL cL_fresh rmL_fresh) (hL : IsLaw X.cI X.B al) (hnL : X.nL = 4) {res : VS} (hE : EXv X cL_fresh res) : ∀ (n : Nat) (x3 : Int32) (S : VS), f_L_fresh_37 n x3 S = some res → J X 37 [(1, .ref (al 4)), (3, .int x3)] [] S := by
  intro n
  induction n with
  | zero =>
    intro x3 S hF
    rw [f_L_fresh_37] at hF
    cases hF
  | succ n ih =>
    intro x3 S hF
    rw [f_L_fresh_37] at hF
    refine j_iload_n h 1 rfl rfl dL_fresh_37 ?_
    refine j_iconst h (v := 2) (by decide) dL_fresh_38 ?_
    refine j_icmp_ge h 66 (by decide) dL_fresh_39 hF (fun hF => ?_) (fun hF => ?_)
    · cases hF
      exact hE _ _ dL_fresh_66
    · refine j_aload_n h 0 rfl rfl dL_fresh_42 ?_
      refine j_iconst h (v := 4) (by decide) dL_fresh_43 ?_
      refine j_iload_n h 1 rfl rfl dL_fresh_44 ?_
      refine j_imul h dL_fresh_45 ?_
      refine j_iconst h (v := 1) (by decide) dL_fresh_46 ?_
      refine j_iadd h dL_fresh_47 ?_
      refine j_bipush h (v := 20) (by decide) dL_fresh_48 ?_
      obtain ⟨hb_15, hF⟩ := bnd_row hF
      refine ja_iast h (get := fun v => v) (put := fun _ v => v) (hL 4 (by decide)) hb_15 dL_fresh_50 ?_
      refine j_letS hF (fun S_16 hF => ?_)
      refine j_aload_n h 0 rfl rfl dL_fresh_51 ?_
      refine j_iconst h (v := 4) (by decide) dL_fresh_52 ?_
      refine j_iload_n h 1 rfl rfl dL_fresh_53 ?_
      refine j_imul h dL_fresh_54 ?_
      refine j_iconst h (v := 2) (by decide) dL_fresh_55 ?_
      refine j_iadd h dL_fresh_56 ?_
      refine j_bipush h (v := 90) (by decide) dL_fresh_57 ?_
      obtain ⟨hb_17, hF⟩ := bnd_row hF
      refine ja_iast h (get := fun v => v) (put := fun _ v => v) (hL 4 (by decide)) hb_17 dL_fresh_59 ?_
      refine j_letS hF (fun S_18 hF => ?_)
      refine j_iincL hF (fun x_19 ex_19 hF => ?_)
      refine j_iinc h hnL 1 [(3, .int x_19), (1, .ref (al 4))] rfl ex_19 (by decide) (by decide) rfl dL_fresh_60 ?_
      refine j_goto h 37 (by decide) dL_fresh_63 ?_
      exact j_sub [1, 0] rfl (ih _ _ hF)
set_option maxHeartbeats 4000000 in
set_option maxRecDepth 100000 in
theorem k_L_fresh {X : JX VS} {al : Nat → Nat} (h : OK X RL cL_fresh rmL_fresh) (hL : IsLaw X.cI X.B al) (hnL : X.nL = 4) {res : VS} {S : VS} (hE : EXv X cL_fresh res) (hF : f_L_fresh S = some res) : J X 0 [(0, .ref (al 0)), (1, .ref (al 4)), (2, .ref (al 5))] [] S := by
  rw [f_L_fresh] at hF
  refine j_aload_n h 0 rfl rfl dL_fresh_0 ?_
  refine j_iconst h (v := 3) (by decide) dL_fresh_1 ?_
  refine j_iconst h (v := 1) (by decide) dL_fresh_2 ?_
  obtain ⟨hb_1, hF⟩ := bnd_row hF
  refine ja_iast h (get := fun v => v) (put := fun _ v => v) (hL 0 (by decide)) hb_1 dL_fresh_3 ?_
  refine j_letS hF (fun S_2 hF => ?_)
  refine j_aload_n h 0 rfl rfl dL_fresh_4 ?_
  refine j_iconst h (v := 4) (by decide) dL_fresh_5 ?_
  refine j_iconst h (v := 5) (by decide) dL_fresh_6 ?_
  obtain ⟨hb_3, hF⟩ := bnd_row hF
  refine ja_iast h (get := fun v => v) (put := fun _ v => v) (hL 0 (by decide)) hb_3 dL_fresh_7 ?_
  refine j_letS hF (fun S_4 hF => ?_)
  refine j_aload_n h 0 rfl rfl dL_fresh_8 ?_
  refine j_iconst h (v := 5) (by decide) dL_fresh_9 ?_
  refine j_bipush h (v := 40) (by decide) dL_fresh_10 ?_
  obtain ⟨hb_5, hF⟩ := bnd_row hF
  refine ja_iast h (get := fun v => v) (put := fun _ v => v) (hL 0 (by decide)) hb_5 dL_fresh_12 ?_
  refine j_letS hF (fun S_6 hF => ?_)
  refine j_aload_n h 0 rfl rfl dL_fresh_13 ?_
  refine j_bipush h (v := 6) (by decide) dL_fresh_14 ?_
  refine j_bipush h (v := 50) (by decide) dL_fresh_16 ?_
  obtain ⟨hb_7, hF⟩ := bnd_row hF
  refine ja_iast h (get := fun v => v) (put := fun _ v => v) (hL 0 (by decide)) hb_7 dL_fresh_18 ?_
  refine j_letS hF (fun S_8 hF => ?_)
  refine j_aload_n h 0 rfl rfl dL_fresh_19 ?_
  refine j_bipush h (v := 7) (by decide) dL_fresh_20 ?_
  refine j_bipush h (v := 50) (by decide) dL_fresh_22 ?_
  obtain ⟨hb_9, hF⟩ := bnd_row hF
  refine ja_iast h (get := fun v => v) (put := fun _ v => v) (hL 0 (by decide)) hb_9 dL_fresh_24 ?_
  refine j_letS hF (fun S_10 hF => ?_)
  refine j_aload_n h 0 rfl rfl dL_fresh_25 ?_
  refine j_bipush h (v := 15) (by decide) dL_fresh_26 ?_
  refine j_iconst h (v := 1) (by decide) dL_fresh_28 ?_
  obtain ⟨hb_11, hF⟩ := bnd_row hF
  refine ja_iast h (get := fun v => v) (put := fun _ v => v) (hL 0 (by decide)) hb_11 dL_fresh_29 ?_
  refine j_letS hF (fun S_12 hF => ?_)
  refine j_aload_n h 2 rfl rfl dL_fresh_30 ?_
  refine j_iconst h (v := 0) (by decide) dL_fresh_31 ?_
  refine j_bipush h (v := 20) (by decide) dL_fresh_32 ?_
  obtain ⟨hb_13, hF⟩ := bnd_row hF
  refine ja_iast h (get := fun v => v) (put := fun _ v => v) (hL 5 (by decide)) hb_13 dL_fresh_34 ?_
  refine j_letS hF (fun S_14 hF => ?_)
  refine j_iconst h (v := 0) (by decide) dL_fresh_35 ?_
  refine j_istore_n h hnL [(3, .int (0 : Int32)), (0, .ref (al 0)), (1, .ref (al 4)), (2, .ref (al 5))] rfl (by decide) rfl dL_fresh_36 ?_
  exact j_sub [2, 0] rfl (k_L_fresh_37 h hL hnL hE fuel _ _ hF)
theorem c_L_fresh (l : Launch) (D : va_G) (cI cZ cV : ClassId) {B : VS → va_W} {al : Nat → Nat} (hL : IsLaw cI B al) (S : VS) {r : VS} (hF : f_L_fresh S = some r) : CTv l D (jtys cI cZ cV) yL_fresh cL_fresh 4 none rmL_fresh B [.ref (al 0), .ref (al 4), .ref (al 5)] S r := by
  refine CTv.of [(0, .ref (al 0)), (1, .ref (al 4)), (2, .ref (al 5))] rfl (Nat.le_of_ble_eq_true rfl) (by decide) ⟨rfl, rfl⟩ (fun X e1 e2 e3 e4 e5 e6 e7 h hE => ?_)
  subst e1; subst e2; subst e3; subst e4; subst e5; subst e6
  exact k_L_fresh h hL e7 hE hF
abbrev rmL_house : Room := { frames := 5, cells := 0, slots := 0, locals := 112 }
theorem cw_L_house : CWs yL_house cL_house 8 (some .boolean) 6 := ⟨q1_230, q1_0, q1_231, ⟨by decide +kernel, by decide +kernel, by decide +kernel⟩⟩
set_option maxHeartbeats 4000000 in
set_option maxRecDepth 100000 in
theorem k_L_house_88 {X : JX LQ} {AD : Nat → Nat → Nat} {al : Nat → Nat} (h : OK X RL cL_house rmL_house) (hQ : IsLP X.cI X.cZ X.cV X.B AD al) (hnL : X.nL = 8) {res : Int32 × LQ} {S : LQ} {x6 : Int32} {s0 : Int32} {s1 : Int32} {s2 : Int32} (hE : EXz X cL_house res.1 res.2) (hF : f_L_house_88 S x6 s0 s1 s2 = some res) : J X 88 [(0, .ref (AD 12 7)), (4, .ref (al 1)), (5, .ref (al 2)), (6, .int x6)] [.int s0, .int s1, .int s2, .ref (al 1)] S := by
  rw [f_L_house_88] at hF
  obtain ⟨r_10, hr_10, hF⟩ := bind_row hF
  refine j_callSi h (st := [.int s2, .ref (al 1)]) (S' := S) (c_L_at X.l X.D X.cI X.cZ X.cV (B := X.B) S s1 s0 hr_10) rfl rfl q1_223 cw_L_at rfl ⟨rfl, rfl, Nat.le_of_ble_eq_true rfl, Nat.le_of_ble_eq_true rfl⟩ _ rfl (Nat.le_of_ble_eq_true rfl) dL_house_88 ?_
  obtain ⟨hb_11, hF⟩ := bnd_row hF
  refine ja_iast h (get := fun S => S.2) (put := fun S v => (S.1, v)) (hQ.2 1 (by decide)) hb_11 dL_house_91 ?_
  refine j_letS hF (fun S_12 hF => ?_)
  refine j_aload h 1 rfl dL_house_92 ?_
  refine j_bipush h (v := 6) (by decide) dL_house_94 ?_
  refine j_iload h 3 rfl dL_house_96 ?_
  refine j_imul h dL_house_98 ?_
  refine j_iconst h (v := 3) (by decide) dL_house_99 ?_
  refine j_iadd h dL_house_100 ?_
  refine j_iconst h (v := 1) (by decide) dL_house_101 ?_
  obtain ⟨hb_13, hF⟩ := bnd_row hF
  refine ja_iast h (get := fun S => S.2) (put := fun S v => (S.1, v)) (hQ.2 1 (by decide)) hb_13 dL_house_102 ?_
  refine j_letS hF (fun S_14 hF => ?_)
  refine j_aload h 2 rfl dL_house_103 ?_
  refine j_iload h 3 rfl dL_house_105 ?_
  refine j_iconst h (v := 0) (by decide) dL_house_107 ?_
  obtain ⟨hb_15, hF⟩ := bnd_row hF
  refine ja_iast h (get := fun S => S.2) (put := fun S v => (S.1, v)) (hQ.2 2 (by decide)) hb_15 dL_house_108 ?_
  refine j_letS hF (fun S_16 hF => ?_)
  refine j_aload h 2 rfl dL_house_109 ?_
  refine j_bipush h (v := 8) (by decide) dL_house_111 ?_
  refine j_iload h 3 rfl dL_house_113 ?_
  refine j_iadd h dL_house_115 ?_
  refine j_iconst h (v := 0) (by decide) dL_house_116 ?_
  obtain ⟨hb_17, hF⟩ := bnd_row hF
  refine ja_iast h (get := fun S => S.2) (put := fun S v => (S.1, v)) (hQ.2 2 (by decide)) hb_17 dL_house_117 ?_
  refine j_letS hF (fun S_18 hF => ?_)
  refine j_aload_n h 0 rfl rfl dL_house_118 ?_
  refine j_aload h 1 rfl dL_house_119 ?_
  refine j_bipush h (v := 6) (by decide) dL_house_121 ?_
  refine j_iload h 3 rfl dL_house_123 ?_
  refine j_imul h dL_house_125 ?_
  obtain ⟨hb_19, hF⟩ := bnd_row hF
  refine ja_iald h (get := fun S => S.2) (put := fun S v => (S.1, v)) (hQ.2 1 (by decide)) hb_19 dL_house_126 ?_
  refine j_aload h 1 rfl dL_house_127 ?_
  refine j_bipush h (v := 6) (by decide) dL_house_129 ?_
  refine j_iload h 3 rfl dL_house_131 ?_
  refine j_imul h dL_house_133 ?_
  refine j_iconst h (v := 1) (by decide) dL_house_134 ?_
  refine j_iadd h dL_house_135 ?_
  obtain ⟨hb_20, hF⟩ := bnd_row hF
  refine ja_iald h (get := fun S => S.2) (put := fun S v => (S.1, v)) (hQ.2 1 (by decide)) hb_20 dL_house_136 ?_
  obtain ⟨r_21, hr_21, hF⟩ := bind_row hF
  refine j_callVi h (st := []) (S' := (r_21.2, S_18.2)) (c_X6_addHouse X.l X.D X.cI X.cZ X.cV (hQ.1 S_18.2) S_18.1 (rd S_18.2 1 ((6 : Int32) * x6)) (rd S_18.2 1 (((6 : Int32) * x6) + (1 : Int32))) hr_21) rfl rfl q1_232 cw_X6_addHouse hQ.o rfl rfl rfl ⟨rfl, rfl, Nat.le_of_ble_eq_true rfl, Nat.le_of_ble_eq_true rfl⟩ _ rfl (Nat.le_of_ble_eq_true rfl) dL_house_137 ?_
  refine j_letS hF (fun S_22 hF => ?_)
  refine j_iload h 3 rfl dL_house_140 ?_
  refine j_icmp_ne h 149 (by decide) dL_house_142 hF (fun hF => ?_) (fun hF => ?_)
  · refine j_iconst h (v := 1) (by decide) dL_house_145 ?_
    refine j_goto h 150 (by decide) dL_house_146 ?_
    cases hF
    exact hE _ _ dL_house_150 (isB_v (y := (1 : Int32)) (by decide))
  · refine j_iconst h (v := 0) (by decide) dL_house_149 ?_
    cases hF
    exact hE _ _ dL_house_150 (isB_v (y := (0 : Int32)) (by decide))
set_option maxHeartbeats 4000000 in
set_option maxRecDepth 100000 in
theorem k_L_house_23 {X : JX LQ} {AD : Nat → Nat → Nat} {al : Nat → Nat} (h : OK X RL cL_house rmL_house) (hQ : IsLP X.cI X.cZ X.cV X.B AD al) (hnL : X.nL = 8) {res : Int32 × LQ} {x1 : Int32} {x2 : Int32} {x6 : Int32} (hE : EXz X cL_house res.1 res.2) : ∀ (n : Nat) (x7 : Int32) (S : LQ), f_L_house_23 x1 x2 x6 n x7 S = some res → J X 23 [(0, .ref (AD 12 7)), (1, .int x1), (2, .int x2), (4, .ref (al 1)), (5, .ref (al 2)), (6, .int x6), (7, .int x7)] [] S := by
  intro n
  induction n with
  | zero =>
    intro x7 S hF
    rw [f_L_house_23] at hF
    cases hF
  | succ n ih =>
    intro x7 S hF
    rw [f_L_house_23] at hF
    refine j_iload h 6 rfl dL_house_23 ?_
    refine j_bipush h (v := 6) (by decide) dL_house_25 ?_
    refine j_icmp_ge h 48 (by decide) dL_house_27 hF (fun hF => ?_) (fun hF => ?_)
    · refine j_aload h 3 rfl dL_house_48 ?_
      refine j_bipush h (v := 6) (by decide) dL_house_50 ?_
      refine j_iload h 5 rfl dL_house_52 ?_
      refine j_imul h dL_house_54 ?_
      refine j_iload_n h 1 rfl rfl dL_house_55 ?_
      refine j_iconst h (v := 3) (by decide) dL_house_56 ?_
      obtain ⟨r_6, hr_6, hF⟩ := bind_row hF
      refine j_callSi h (st := [.int ((6 : Int32) * x6), .ref (al 1)]) (S' := S) (c_L_at X.l X.D X.cI X.cZ X.cV (B := X.B) S x1 (3 : Int32) hr_6) rfl rfl q1_223 cw_L_at rfl ⟨rfl, rfl, Nat.le_of_ble_eq_true rfl, Nat.le_of_ble_eq_true rfl⟩ _ rfl (Nat.le_of_ble_eq_true rfl) dL_house_57 ?_
      obtain ⟨hb_7, hF⟩ := bnd_row hF
      refine ja_iast h (get := fun S => S.2) (put := fun S v => (S.1, v)) (hQ.2 1 (by decide)) hb_7 dL_house_60 ?_
      refine j_letS hF (fun S_8 hF => ?_)
      refine j_aload h 3 rfl dL_house_61 ?_
      refine j_bipush h (v := 6) (by decide) dL_house_63 ?_
      refine j_iload h 5 rfl dL_house_65 ?_
      refine j_imul h dL_house_67 ?_
      refine j_iconst h (v := 1) (by decide) dL_house_68 ?_
      refine j_iadd h dL_house_69 ?_
      refine j_iload_n h 2 rfl rfl dL_house_70 ?_
      refine j_iload_n h 1 rfl rfl dL_house_71 ?_
      refine j_iconst h (v := 5) (by decide) dL_house_72 ?_
      refine j_ishr h dL_house_73 ?_
      refine j_iconst h (v := 4) (by decide) dL_house_74 ?_
      obtain ⟨r_9, hr_9, hF⟩ := bind_row hF
      refine j_callSi h (st := [.int x2, .int (((6 : Int32) * x6) + (1 : Int32)), .ref (al 1)]) (S' := S_8) (c_L_at X.l X.D X.cI X.cZ X.cV (B := X.B) S_8 (x1 >>> ((5 : Int32) &&& 31)) (4 : Int32) hr_9) rfl rfl q1_223 cw_L_at rfl ⟨rfl, rfl, Nat.le_of_ble_eq_true rfl, Nat.le_of_ble_eq_true rfl⟩ _ rfl (Nat.le_of_ble_eq_true rfl) dL_house_75 ?_
      refine j_if_ne h 86 (by decide) dL_house_78 hF (fun hF => ?_) (fun hF => ?_)
      · refine j_bipush h (v := 51) (by decide) dL_house_81 ?_
        refine j_goto h 88 (by decide) dL_house_83 ?_
        exact j_sub [0, 3, 4, 5] rfl (k_L_house_88 h hQ hnL hE hF)
      · refine j_bipush h (v := 15) (by decide) dL_house_86 ?_
        exact j_sub [0, 3, 4, 5] rfl (k_L_house_88 h hQ hnL hE hF)
    · refine j_aload h 3 rfl dL_house_30 ?_
      refine j_bipush h (v := 6) (by decide) dL_house_32 ?_
      refine j_iload h 5 rfl dL_house_34 ?_
      refine j_imul h dL_house_36 ?_
      refine j_iload h 6 rfl dL_house_37 ?_
      refine j_iadd h dL_house_39 ?_
      refine j_iconst h (v := 0) (by decide) dL_house_40 ?_
      obtain ⟨hb_23, hF⟩ := bnd_row hF
      refine ja_iast h (get := fun S => S.2) (put := fun S v => (S.1, v)) (hQ.2 1 (by decide)) hb_23 dL_house_41 ?_
      refine j_letS hF (fun S_24 hF => ?_)
      refine j_iincL hF (fun x_25 ex_25 hF => ?_)
      refine j_iinc h hnL 6 [(7, .int x_25), (0, .ref (AD 12 7)), (1, .int x1), (2, .int x2), (4, .ref (al 1)), (5, .ref (al 2)), (6, .int x6)] rfl ex_25 (by decide) (by decide) rfl dL_house_42 ?_
      refine j_goto h 23 (by decide) dL_house_45 ?_
      exact j_sub [1, 2, 3, 4, 5, 6, 0] rfl (ih _ _ hF)
set_option maxHeartbeats 4000000 in
set_option maxRecDepth 100000 in
theorem k_L_house {X : JX LQ} {AD : Nat → Nat → Nat} {al : Nat → Nat} (h : OK X RL cL_house rmL_house) (hQ : IsLP X.cI X.cZ X.cV X.B AD al) (hnL : X.nL = 8) {res : Int32 × LQ} {S : LQ} {p2 : Int32} {p3 : Int32} (hE : EXz X cL_house res.1 res.2) (hF : f_L_house S p2 p3 = some res) : J X 0 [(0, .ref (AD 12 7)), (1, .int p2), (2, .int p3), (3, .ref (al 0)), (4, .ref (al 1)), (5, .ref (al 2))] [] S := by
  rw [f_L_house] at hF
  refine j_aload_n h 3 rfl rfl dL_house_0 ?_
  refine j_iconst h (v := 0) (by decide) dL_house_1 ?_
  obtain ⟨hb_1, hF⟩ := bnd_row hF
  refine ja_iald h (get := fun S => S.2) (put := fun S v => (S.1, v)) (hQ.2 0 (by decide)) hb_1 dL_house_2 ?_
  refine j_bipush h (v := 8) (by decide) dL_house_3 ?_
  refine j_icmp_ne h 10 (by decide) dL_house_5 hF (fun hF => ?_) (fun hF => ?_)
  · refine j_iconst h (v := 1) (by decide) dL_house_8 ?_
    cases hF
    exact hE _ _ dL_house_9 (isB_v (y := (1 : Int32)) (by decide))
  · refine j_aload_n h 3 rfl rfl dL_house_10 ?_
    refine j_iconst h (v := 0) (by decide) dL_house_11 ?_
    refine j_dup2 h rfl rfl dL_house_12 ?_
    obtain ⟨hb_2, hF⟩ := bnd_row hF
    refine ja_iald h (get := fun S => S.2) (put := fun S v => (S.1, v)) (hQ.2 0 (by decide)) hb_2 dL_house_13 ?_
    refine j_dup_x2 h rfl rfl rfl dL_house_14 ?_
    refine j_iconst h (v := 1) (by decide) dL_house_15 ?_
    refine j_iadd h dL_house_16 ?_
    obtain ⟨hb_3, hF⟩ := bnd_row hF
    refine ja_iast h (get := fun S => S.2) (put := fun S v => (S.1, v)) (hQ.2 0 (by decide)) hb_3 dL_house_17 ?_
    refine j_letS hF (fun S_4 hF => ?_)
    refine j_let hF (fun x_5 hF => ?_)
    refine j_istore h hnL [(6, .int x_5), (0, .ref (AD 12 7)), (1, .int p2), (2, .int p3), (3, .ref (al 0)), (4, .ref (al 1)), (5, .ref (al 2))] (by decide) rfl dL_house_18 ?_
    refine j_iconst h (v := 0) (by decide) dL_house_20 ?_
    refine j_istore h hnL [(7, .int (0 : Int32)), (6, .int x_5), (0, .ref (AD 12 7)), (1, .int p2), (2, .int p3), (3, .ref (al 0)), (4, .ref (al 1)), (5, .ref (al 2))] (by decide) rfl dL_house_21 ?_
    exact j_sub [2, 3, 4, 6, 7, 1, 0] rfl (k_L_house_23 h hQ hnL hE fuel _ _ hF)
theorem c_L_house (l : Launch) (D : va_G) (cI cZ cV : ClassId) {B : LQ → va_W} {AD : Nat → Nat → Nat} {al : Nat → Nat} (hQ : IsLP cI cZ cV B AD al) (S : LQ) (p2 : Int32) (p3 : Int32) {r : Int32 × LQ} (hF : f_L_house S p2 p3 = some r) : CTz l D (jtys cI cZ cV) yL_house cL_house 8 (some .boolean) rmL_house B [.ref (AD 12 7), .int p2, .int p3, .ref (al 0), .ref (al 1), .ref (al 2)] S r.1 r.2 := by
  refine CTz.of [(0, .ref (AD 12 7)), (1, .int p2), (2, .int p3), (3, .ref (al 0)), (4, .ref (al 1)), (5, .ref (al 2))] rfl (Nat.le_of_ble_eq_true rfl) (by decide) ⟨rfl, rfl⟩ (fun X e1 e2 e3 e4 e5 e6 e7 h hE => ?_)
  subst e1; subst e2; subst e3; subst e4; subst e5; subst e6
  exact k_L_house h hQ e7 hE hF
abbrev rmL_set : Room := { frames := 5, cells := 0, slots := 0, locals := 114 }
theorem cw_L_set : CWs yL_set cL_set 11 (some .boolean) 6 := ⟨q2_40, q1_0, q2_41, ⟨by decide +kernel, by decide +kernel, by decide +kernel⟩⟩
set_option maxHeartbeats 4000000 in
set_option maxRecDepth 100000 in
theorem k_L_set_186 {X : JX LQ} {AD : Nat → Nat → Nat} {al : Nat → Nat} {t : Nat → Nat} (h : OK X RL cL_set rmL_set) (hQ : IsLP X.cI X.cZ X.cV X.B AD al) (hSt : Stat t X.A X.s X.s.heap) (hnL : X.nL = 11) {res : Int32 × LQ} {S : LQ} {x7 : Int32} {x8 : Int32} {s0 : Int32} {s1 : Int32} {s2 : Int32} (hE : EXz X cL_set res.1 res.2) (hF : f_L_set_186 S x7 x8 s0 s1 s2 = some res) : J X 186 [(0, .ref (AD 12 7)), (3, .ref (al 0)), (7, .int x7), (8, .int x8)] [.int s0, .int s1, .int s2, .ref (al 0)] S := by
  rw [f_L_set_186] at hF
  obtain ⟨r_6, hr_6, hF⟩ := bind_row hF
  refine j_callSi h (st := [.int s2, .ref (al 0)]) (S' := S) (c_L_at X.l X.D X.cI X.cZ X.cV (B := X.B) S s1 s0 hr_6) rfl rfl q1_223 cw_L_at rfl ⟨rfl, rfl, Nat.le_of_ble_eq_true rfl, Nat.le_of_ble_eq_true rfl⟩ _ rfl (Nat.le_of_ble_eq_true rfl) dL_set_186 ?_
  obtain ⟨hb_7, hF⟩ := bnd_row hF
  refine ja_iast h (get := fun S => S.2) (put := fun S v => (S.1, v)) (hQ.2 0 (by decide)) hb_7 dL_set_189 ?_
  refine j_letS hF (fun S_8 hF => ?_)
  refine j_aload_n h 0 rfl rfl dL_set_190 ?_
  refine j_iload h 2 rfl dL_set_191 ?_
  refine j_aload_n h 1 rfl rfl dL_set_193 ?_
  refine j_iconst h (v := 4) (by decide) dL_set_194 ?_
  refine j_iload h 2 rfl dL_set_195 ?_
  refine j_iadd h dL_set_197 ?_
  obtain ⟨hb_9, hF⟩ := bnd_row hF
  refine ja_iald h (get := fun S => S.2) (put := fun S v => (S.1, v)) (hQ.2 0 (by decide)) hb_9 dL_set_198 ?_
  obtain ⟨r_10, hr_10, hF⟩ := bind_row hF
  refine j_callVis hSt h (st := []) (S' := (r_10.2, S_8.2)) (c_X6_set X.l X.D X.cI X.cZ X.cV (hQ.1 S_8.2) S_8.1 x7 (rd S_8.2 0 ((4 : Int32) + x7)) hr_10) rfl rfl q2_60 cw_X6_set hQ.o rfl rfl rfl ⟨rfl, rfl, Nat.le_of_ble_eq_true rfl, Nat.le_of_ble_eq_true rfl⟩ _ rfl (Nat.le_of_ble_eq_true rfl) dL_set_199 ?_
  refine j_letS hF (fun S_11 hF => ?_)
  refine j_iload h 3 rfl dL_set_202 ?_
  refine j_icmp_ne h 211 (by decide) dL_set_204 hF (fun hF => ?_) (fun hF => ?_)
  · refine j_iconst h (v := 1) (by decide) dL_set_207 ?_
    refine j_goto h 212 (by decide) dL_set_208 ?_
    cases hF
    exact hE _ _ dL_set_212 (isB_v (y := (1 : Int32)) (by decide))
  · refine j_iconst h (v := 0) (by decide) dL_set_211 ?_
    cases hF
    exact hE _ _ dL_set_212 (isB_v (y := (0 : Int32)) (by decide))
set_option maxHeartbeats 4000000 in
set_option maxRecDepth 100000 in
theorem k_L_set_341 {X : JX LQ} {AD : Nat → Nat → Nat} {al : Nat → Nat} {t : Nat → Nat} (h : OK X RL cL_set rmL_set) (hQ : IsLP X.cI X.cZ X.cV X.B AD al) (hSt : Stat t X.A X.s X.s.heap) (hnL : X.nL = 11) {res : Int32 × LQ} {S : LQ} {x7 : Int32} {x8 : Int32} {x9 : Int32} {x10 : Int32} (hE : EXz X cL_set res.1 res.2) (hF : f_L_set_341 S x7 x8 x9 x10 = some res) : J X 341 [(0, .ref (AD 12 7)), (5, .ref (al 4)), (7, .int x7), (8, .int x8), (9, .int x9), (10, .int x10)] [] S := by
  rw [f_L_set_341] at hF
  refine j_aload_n h 0 rfl rfl dL_set_341 ?_
  refine j_iload h 2 rfl dL_set_342 ?_
  refine j_iload h 3 rfl dL_set_344 ?_
  refine j_aload h 1 rfl dL_set_346 ?_
  refine j_iload h 4 rfl dL_set_348 ?_
  refine j_iload h 3 rfl dL_set_350 ?_
  refine j_iadd h dL_set_352 ?_
  obtain ⟨hb_22, hF⟩ := bnd_row hF
  refine ja_iald h (get := fun S => S.2) (put := fun S v => (S.1, v)) (hQ.2 4 (by decide)) hb_22 dL_set_353 ?_
  obtain ⟨r_23, hr_23, hF⟩ := bind_row hF
  refine j_callVis hSt h (st := []) (S' := (r_23.2, S.2)) (c_X6_setBattery X.l X.D X.cI X.cZ X.cV (hQ.1 S.2) S.1 x7 x8 (rd S.2 4 (x9 + x8)) hr_23) rfl rfl q2_69 cw_X6_setBattery hQ.o rfl rfl rfl ⟨rfl, rfl, Nat.le_of_ble_eq_true rfl, Nat.le_of_ble_eq_true rfl⟩ _ rfl (Nat.le_of_ble_eq_true rfl) dL_set_354 ?_
  refine j_letS hF (fun S_24 hF => ?_)
  refine j_iload h 5 rfl dL_set_357 ?_
  refine j_icmp_ne h 366 (by decide) dL_set_359 hF (fun hF => ?_) (fun hF => ?_)
  · refine j_iconst h (v := 1) (by decide) dL_set_362 ?_
    refine j_goto h 367 (by decide) dL_set_363 ?_
    cases hF
    exact hE _ _ dL_set_367 (isB_v (y := (1 : Int32)) (by decide))
  · refine j_iconst h (v := 0) (by decide) dL_set_366 ?_
    cases hF
    exact hE _ _ dL_set_367 (isB_v (y := (0 : Int32)) (by decide))
set_option maxHeartbeats 4000000 in
set_option maxRecDepth 100000 in
theorem k_L_set_293 {X : JX LQ} {AD : Nat → Nat → Nat} {al : Nat → Nat} {t : Nat → Nat} (h : OK X RL cL_set rmL_set) (hQ : IsLP X.cI X.cZ X.cV X.B AD al) (hSt : Stat t X.A X.s X.s.heap) (hnL : X.nL = 11) {res : Int32 × LQ} {S : LQ} {x7 : Int32} {x8 : Int32} {x9 : Int32} {x10 : Int32} {s0 : Int32} {s1 : Int32} (hE : EXz X cL_set res.1 res.2) (hF : f_L_set_293 S x7 x8 x9 x10 s0 s1 = some res) : J X 293 [(0, .ref (AD 12 7)), (3, .ref (al 0)), (5, .ref (al 4)), (7, .int x7), (8, .int x8), (9, .int x9), (10, .int x10)] [.int s0, .int s1, .ref (al 4)] S := by
  rw [f_L_set_293] at hF
  obtain ⟨hb_18, hF⟩ := bnd_row hF
  refine ja_iast h (get := fun S => S.2) (put := fun S v => (S.1, v)) (hQ.2 4 (by decide)) hb_18 dL_set_293 ?_
  refine j_letS hF (fun S_19 hF => ?_)
  refine j_aload h 2 rfl dL_set_294 ?_
  refine j_iload h 5 rfl dL_set_296 ?_
  refine j_iconst h (v := 3) (by decide) dL_set_298 ?_
  refine j_iadd h dL_set_299 ?_
  obtain ⟨hb_20, hF⟩ := bnd_row hF
  refine ja_iald h (get := fun S => S.2) (put := fun S v => (S.1, v)) (hQ.2 4 (by decide)) hb_20 dL_set_300 ?_
  refine j_aload h 2 rfl dL_set_301 ?_
  refine j_iload h 5 rfl dL_set_303 ?_
  obtain ⟨hb_21, hF⟩ := bnd_row hF
  refine ja_iald h (get := fun S => S.2) (put := fun S v => (S.1, v)) (hQ.2 4 (by decide)) hb_21 dL_set_305 ?_
  refine j_icmp_le h 341 (by decide) dL_set_306 hF (fun hF => ?_) (fun hF => ?_)
  · exact j_sub [0, 2, 3, 4, 5, 6] rfl (k_L_set_341 h hQ hSt hnL hE hF)
  · refine j_aload_n h 1 rfl rfl dL_set_309 ?_
    refine j_bipush h (v := 12) (by decide) dL_set_310 ?_
    refine j_dup2 h rfl rfl dL_set_312 ?_
    obtain ⟨hb_25, hF⟩ := bnd_row hF
    refine ja_iald h (get := fun S => S.2) (put := fun S v => (S.1, v)) (hQ.2 0 (by decide)) hb_25 dL_set_313 ?_
    refine j_aload h 2 rfl dL_set_314 ?_
    refine j_iload h 5 rfl dL_set_316 ?_
    refine j_iconst h (v := 3) (by decide) dL_set_318 ?_
    refine j_iadd h dL_set_319 ?_
    obtain ⟨hb_26, hF⟩ := bnd_row hF
    refine ja_iald h (get := fun S => S.2) (put := fun S v => (S.1, v)) (hQ.2 4 (by decide)) hb_26 dL_set_320 ?_
    refine j_aload h 2 rfl dL_set_321 ?_
    refine j_iload h 5 rfl dL_set_323 ?_
    obtain ⟨hb_27, hF⟩ := bnd_row hF
    refine ja_iald h (get := fun S => S.2) (put := fun S v => (S.1, v)) (hQ.2 4 (by decide)) hb_27 dL_set_325 ?_
    refine j_isub h dL_set_326 ?_
    refine j_iadd h dL_set_327 ?_
    obtain ⟨hb_28, hF⟩ := bnd_row hF
    refine ja_iast h (get := fun S => S.2) (put := fun S v => (S.1, v)) (hQ.2 0 (by decide)) hb_28 dL_set_328 ?_
    refine j_letS hF (fun S_29 hF => ?_)
    refine j_aload h 2 rfl dL_set_329 ?_
    refine j_iload h 5 rfl dL_set_331 ?_
    refine j_iconst h (v := 3) (by decide) dL_set_333 ?_
    refine j_iadd h dL_set_334 ?_
    refine j_aload h 2 rfl dL_set_335 ?_
    refine j_iload h 5 rfl dL_set_337 ?_
    obtain ⟨hb_30, hF⟩ := bnd_row hF
    refine ja_iald h (get := fun S => S.2) (put := fun S v => (S.1, v)) (hQ.2 4 (by decide)) hb_30 dL_set_339 ?_
    obtain ⟨hb_31, hF⟩ := bnd_row hF
    refine ja_iast h (get := fun S => S.2) (put := fun S v => (S.1, v)) (hQ.2 4 (by decide)) hb_31 dL_set_340 ?_
    refine j_letS hF (fun S_32 hF => ?_)
    exact j_sub [0, 2, 3, 4, 5, 6] rfl (k_L_set_341 h hQ hSt hnL hE hF)
set_option maxHeartbeats 4000000 in
set_option maxRecDepth 100000 in
theorem k_L_set_145 {X : JX LQ} {AD : Nat → Nat → Nat} {al : Nat → Nat} {t : Nat → Nat} (h : OK X RL cL_set rmL_set) (hQ : IsLP X.cI X.cZ X.cV X.B AD al) (hSt : Stat t X.A X.s X.s.heap) (hnL : X.nL = 11) {res : Int32 × LQ} {S : LQ} {x1 : Int32} {x2 : Int32} {x6 : Int32} (hE : EXz X cL_set res.1 res.2) (hF : f_L_set_145 S x1 x2 x6 = some res) : J X 145 [(0, .ref (AD 12 7)), (1, .int x1), (2, .int x2), (3, .ref (al 0)), (5, .ref (al 4)), (6, .int x6)] [] S := by
  rw [f_L_set_145] at hF
  refine j_iload h 5 rfl dL_set_145 ?_
  refine j_iconst h (v := 1) (by decide) dL_set_147 ?_
  refine j_icmp_ne h 213 (by decide) dL_set_148 hF (fun hF => ?_) (fun hF => ?_)
  · refine j_iload_n h 1 rfl rfl dL_set_151 ?_
    refine j_iconst h (v := 3) (by decide) dL_set_152 ?_
    refine j_ishr h dL_set_153 ?_
    refine j_iconst h (v := 4) (by decide) dL_set_154 ?_
    obtain ⟨r_3, hr_3, hF⟩ := bind_row hF
    refine j_callSi h (st := []) (S' := S) (c_L_at X.l X.D X.cI X.cZ X.cV (B := X.B) S (x1 >>> ((3 : Int32) &&& 31)) (4 : Int32) hr_3) rfl rfl q1_223 cw_L_at rfl ⟨rfl, rfl, Nat.le_of_ble_eq_true rfl, Nat.le_of_ble_eq_true rfl⟩ _ rfl (Nat.le_of_ble_eq_true rfl) dL_set_155 ?_
    refine j_istore h hnL [(7, .int r_3), (0, .ref (AD 12 7)), (1, .int x1), (2, .int x2), (3, .ref (al 0)), (5, .ref (al 4)), (6, .int x6)] (by decide) rfl dL_set_158 ?_
    refine j_aload_n h 4 rfl rfl dL_set_160 ?_
    refine j_iconst h (v := 4) (by decide) dL_set_161 ?_
    refine j_iload h 0 rfl dL_set_162 ?_
    refine j_iadd h dL_set_164 ?_
    obtain ⟨hb_4, hF⟩ := bnd_row hF
    refine ja_iald h (get := fun S => S.2) (put := fun S v => (S.1, v)) (hQ.2 0 (by decide)) hb_4 dL_set_165 ?_
    refine j_let hF (fun x_5 hF => ?_)
    refine j_istore h hnL [(8, .int x_5), (7, .int r_3), (0, .ref (AD 12 7)), (1, .int x1), (2, .int x2), (3, .ref (al 0)), (5, .ref (al 4)), (6, .int x6)] (by decide) rfl dL_set_166 ?_
    refine j_aload_n h 5 rfl rfl dL_set_168 ?_
    refine j_iconst h (v := 4) (by decide) dL_set_169 ?_
    refine j_iload h 1 rfl dL_set_170 ?_
    refine j_iadd h dL_set_172 ?_
    refine j_iload_n h 4 rfl rfl dL_set_173 ?_
    refine j_iload h 1 rfl dL_set_174 ?_
    refine j_if_ne h 184 (by decide) dL_set_176 hF (fun hF => ?_) (fun hF => ?_)
    · refine j_bipush h (v := 51) (by decide) dL_set_179 ?_
      refine j_goto h 186 (by decide) dL_set_181 ?_
      exact j_sub [2, 5, 1, 0] rfl (k_L_set_186 h hQ hSt hnL hE hF)
    · refine j_bipush h (v := 101) (by decide) dL_set_184 ?_
      exact j_sub [2, 5, 1, 0] rfl (k_L_set_186 h hQ hSt hnL hE hF)
  · refine j_iload_n h 1 rfl rfl dL_set_213 ?_
    refine j_iconst h (v := 3) (by decide) dL_set_214 ?_
    refine j_ishr h dL_set_215 ?_
    refine j_iconst h (v := 2) (by decide) dL_set_216 ?_
    obtain ⟨r_12, hr_12, hF⟩ := bind_row hF
    refine j_callSi h (st := []) (S' := S) (c_L_at X.l X.D X.cI X.cZ X.cV (B := X.B) S (x1 >>> ((3 : Int32) &&& 31)) (2 : Int32) hr_12) rfl rfl q1_223 cw_L_at rfl ⟨rfl, rfl, Nat.le_of_ble_eq_true rfl, Nat.le_of_ble_eq_true rfl⟩ _ rfl (Nat.le_of_ble_eq_true rfl) dL_set_217 ?_
    refine j_istore h hnL [(7, .int r_12), (0, .ref (AD 12 7)), (1, .int x1), (2, .int x2), (3, .ref (al 0)), (5, .ref (al 4)), (6, .int x6)] (by decide) rfl dL_set_220 ?_
    refine j_iload_n h 2 rfl rfl dL_set_222 ?_
    refine j_iconst h (v := 4) (by decide) dL_set_223 ?_
    refine j_ishr h dL_set_224 ?_
    refine j_iconst h (v := 3) (by decide) dL_set_225 ?_
    obtain ⟨r_13, hr_13, hF⟩ := bind_row hF
    refine j_callSi h (st := []) (S' := S) (c_L_at X.l X.D X.cI X.cZ X.cV (B := X.B) S (x1 >>> ((4 : Int32) &&& 31)) (3 : Int32) hr_13) rfl rfl q1_223 cw_L_at rfl ⟨rfl, rfl, Nat.le_of_ble_eq_true rfl, Nat.le_of_ble_eq_true rfl⟩ _ rfl (Nat.le_of_ble_eq_true rfl) dL_set_226 ?_
    refine j_istore h hnL [(8, .int r_13), (7, .int r_12), (0, .ref (AD 12 7)), (1, .int x1), (2, .int x2), (3, .ref (al 0)), (5, .ref (al 4)), (6, .int x6)] (by decide) rfl dL_set_229 ?_
    refine j_iconst h (v := 4) (by decide) dL_set_231 ?_
    refine j_iload h 1 rfl dL_set_232 ?_
    refine j_imul h dL_set_234 ?_
    refine j_let hF (fun x_14 hF => ?_)
    refine j_istore h hnL [(9, .int x_14), (8, .int r_13), (7, .int r_12), (0, .ref (AD 12 7)), (1, .int x1), (2, .int x2), (3, .ref (al 0)), (5, .ref (al 4)), (6, .int x6)] (by decide) rfl dL_set_235 ?_
    refine j_aload h 7 rfl dL_set_237 ?_
    refine j_iload h 0 rfl dL_set_239 ?_
    refine j_iload h 1 rfl dL_set_241 ?_
    refine j_iadd h dL_set_243 ?_
    obtain ⟨hb_15, hF⟩ := bnd_row hF
    refine ja_iald h (get := fun S => S.2) (put := fun S v => (S.1, v)) (hQ.2 4 (by decide)) hb_15 dL_set_244 ?_
    refine j_let hF (fun x_16 hF => ?_)
    refine j_istore h hnL [(10, .int x_16), (9, .int x_14), (8, .int r_13), (7, .int r_12), (0, .ref (AD 12 7)), (1, .int x1), (2, .int x2), (3, .ref (al 0)), (5, .ref (al 4)), (6, .int x6)] (by decide) rfl dL_set_245 ?_
    refine j_aload h 8 rfl dL_set_247 ?_
    refine j_iload h 1 rfl dL_set_249 ?_
    refine j_iload h 2 rfl dL_set_251 ?_
    refine j_iadd h dL_set_253 ?_
    refine j_iload h 2 rfl dL_set_254 ?_
    refine j_if_ne h 269 (by decide) dL_set_256 hF (fun hF => ?_) (fun hF => ?_)
    · refine j_iload_n h 6 rfl rfl dL_set_259 ?_
      refine j_sipush h (v := 200) (by decide) dL_set_260 ?_
      obtain ⟨r_17, hr_17, hF⟩ := bind_row hF
      refine j_callSi h (st := [.int (x_14 + r_13), .ref (al 4)]) (S' := S) (c_L_at X.l X.D X.cI X.cZ X.cV (B := X.B) S x2 (200 : Int32) hr_17) rfl rfl q1_223 cw_L_at rfl ⟨rfl, rfl, Nat.le_of_ble_eq_true rfl, Nat.le_of_ble_eq_true rfl⟩ _ rfl (Nat.le_of_ble_eq_true rfl) dL_set_263 ?_
      refine j_goto h 293 (by decide) dL_set_266 ?_
      exact j_sub [4, 7, 8, 3, 2, 1, 0] rfl (k_L_set_293 h hQ hSt hnL hE hF)
    · refine j_iload h 2 rfl dL_set_269 ?_
      refine j_iconst h (v := 1) (by decide) dL_set_271 ?_
      refine j_icmp_ne h 284 (by decide) dL_set_272 hF (fun hF => ?_) (fun hF => ?_)
      · refine j_iload_n h 6 rfl rfl dL_set_275 ?_
        refine j_bipush h (v := 60) (by decide) dL_set_276 ?_
        obtain ⟨r_33, hr_33, hF⟩ := bind_row hF
        refine j_callSi h (st := [.int (x_14 + r_13), .ref (al 4)]) (S' := S) (c_L_at X.l X.D X.cI X.cZ X.cV (B := X.B) S x2 (60 : Int32) hr_33) rfl rfl q1_223 cw_L_at rfl ⟨rfl, rfl, Nat.le_of_ble_eq_true rfl, Nat.le_of_ble_eq_true rfl⟩ _ rfl (Nat.le_of_ble_eq_true rfl) dL_set_278 ?_
        refine j_goto h 293 (by decide) dL_set_281 ?_
        exact j_sub [4, 7, 8, 3, 2, 1, 0] rfl (k_L_set_293 h hQ hSt hnL hE hF)
      · refine j_bipush h (v := 50) (by decide) dL_set_284 ?_
        refine j_iload_n h 6 rfl rfl dL_set_286 ?_
        refine j_bipush h (v := 51) (by decide) dL_set_287 ?_
        obtain ⟨r_34, hr_34, hF⟩ := bind_row hF
        refine j_callSi h (st := [.int (50 : Int32), .int (x_14 + r_13), .ref (al 4)]) (S' := S) (c_L_at X.l X.D X.cI X.cZ X.cV (B := X.B) S x2 (51 : Int32) hr_34) rfl rfl q1_223 cw_L_at rfl ⟨rfl, rfl, Nat.le_of_ble_eq_true rfl, Nat.le_of_ble_eq_true rfl⟩ _ rfl (Nat.le_of_ble_eq_true rfl) dL_set_289 ?_
        refine j_iadd h dL_set_292 ?_
        exact j_sub [4, 7, 8, 3, 2, 1, 0] rfl (k_L_set_293 h hQ hSt hnL hE hF)
set_option maxHeartbeats 4000000 in
set_option maxRecDepth 100000 in
theorem k_L_set_96 {X : JX LQ} {AD : Nat → Nat → Nat} {al : Nat → Nat} {t : Nat → Nat} (h : OK X RL cL_set rmL_set) (hQ : IsLP X.cI X.cZ X.cV X.B AD al) (hSt : Stat t X.A X.s X.s.heap) (hnL : X.nL = 11) {res : Int32 × LQ} {S : LQ} {x7 : Int32} {x8 : Int32} {s0 : Int32} (hE : EXz X cL_set res.1 res.2) (hF : f_L_set_96 S x7 x8 s0 = some res) : J X 96 [(0, .ref (AD 12 7)), (4, .ref (al 1)), (7, .int x7), (8, .int x8)] [.int s0] S := by
  rw [f_L_set_96] at hF
  refine j_istore h hnL [(9, .int s0), (0, .ref (AD 12 7)), (4, .ref (al 1)), (7, .int x7), (8, .int x8)] (by decide) rfl dL_set_96 ?_
  refine j_aload h 2 rfl dL_set_98 ?_
  refine j_bipush h (v := 6) (by decide) dL_set_100 ?_
  refine j_iload h 4 rfl dL_set_102 ?_
  refine j_imul h dL_set_104 ?_
  refine j_iload h 3 rfl dL_set_105 ?_
  refine j_iadd h dL_set_107 ?_
  obtain ⟨hb_39, hF⟩ := bnd_row hF
  refine ja_iald h (get := fun S => S.2) (put := fun S v => (S.1, v)) (hQ.2 1 (by decide)) hb_39 dL_set_108 ?_
  refine j_let hF (fun x_40 hF => ?_)
  refine j_istore h hnL [(10, .int x_40), (9, .int s0), (0, .ref (AD 12 7)), (4, .ref (al 1)), (7, .int x7), (8, .int x8)] (by decide) rfl dL_set_109 ?_
  refine j_aload h 3 rfl dL_set_111 ?_
  refine j_bipush h (v := 6) (by decide) dL_set_113 ?_
  refine j_iload h 5 rfl dL_set_115 ?_
  refine j_imul h dL_set_117 ?_
  refine j_iload h 4 rfl dL_set_118 ?_
  refine j_iadd h dL_set_120 ?_
  refine j_iload h 1 rfl dL_set_121 ?_
  obtain ⟨hb_41, hF⟩ := bnd_row hF
  refine ja_iast h (get := fun S => S.2) (put := fun S v => (S.1, v)) (hQ.2 1 (by decide)) hb_41 dL_set_123 ?_
  refine j_letS hF (fun S_42 hF => ?_)
  refine j_aload_n h 2 rfl rfl dL_set_124 ?_
  refine j_iload h 5 rfl dL_set_125 ?_
  refine j_iload h 4 rfl dL_set_127 ?_
  refine j_iload h 1 rfl dL_set_129 ?_
  obtain ⟨r_43, hr_43, hF⟩ := bind_row hF
  refine j_callVis hSt h (st := []) (S' := (r_43.2, S_42.2)) (c_X6_setHouse X.l X.D X.cI X.cZ X.cV (hQ.1 S_42.2) S_42.1 x8 x7 s0 hr_43) rfl rfl q2_42 cw_X6_setHouse hQ.o rfl rfl rfl ⟨rfl, rfl, Nat.le_of_ble_eq_true rfl, Nat.le_of_ble_eq_true rfl⟩ _ rfl (Nat.le_of_ble_eq_true rfl) dL_set_131 ?_
  refine j_letS hF (fun S_44 hF => ?_)
  refine j_iload h 0 rfl dL_set_134 ?_
  refine j_icmp_ne h 143 (by decide) dL_set_136 hF (fun hF => ?_) (fun hF => ?_)
  · refine j_iconst h (v := 1) (by decide) dL_set_139 ?_
    refine j_goto h 144 (by decide) dL_set_140 ?_
    cases hF
    exact hE _ _ dL_set_144 (isB_v (y := (1 : Int32)) (by decide))
  · refine j_iconst h (v := 0) (by decide) dL_set_143 ?_
    cases hF
    exact hE _ _ dL_set_144 (isB_v (y := (0 : Int32)) (by decide))
set_option maxHeartbeats 4000000 in
set_option maxRecDepth 100000 in
theorem k_L_set {X : JX LQ} {AD : Nat → Nat → Nat} {al : Nat → Nat} {t : Nat → Nat} (h : OK X RL cL_set rmL_set) (hQ : IsLP X.cI X.cZ X.cV X.B AD al) (hSt : Stat t X.A X.s X.s.heap) (hnL : X.nL = 11) {res : Int32 × LQ} {S : LQ} {p2 : Int32} {p3 : Int32} (hE : EXz X cL_set res.1 res.2) (hF : f_L_set S p2 p3 = some res) : J X 0 [(0, .ref (AD 12 7)), (1, .int p2), (2, .int p3), (3, .ref (al 0)), (4, .ref (al 1)), (5, .ref (al 4))] [] S := by
  rw [f_L_set] at hF
  refine j_iload_n h 1 rfl rfl dL_set_0 ?_
  refine j_iconst h (v := 3) (by decide) dL_set_1 ?_
  obtain ⟨r_1, hr_1, hF⟩ := bind_row hF
  refine j_callSi h (st := []) (S' := S) (c_L_at X.l X.D X.cI X.cZ X.cV (B := X.B) S p2 (3 : Int32) hr_1) rfl rfl q1_223 cw_L_at rfl ⟨rfl, rfl, Nat.le_of_ble_eq_true rfl, Nat.le_of_ble_eq_true rfl⟩ _ rfl (Nat.le_of_ble_eq_true rfl) dL_set_2 ?_
  refine j_istore h hnL [(6, .int r_1), (0, .ref (AD 12 7)), (1, .int p2), (2, .int p3), (3, .ref (al 0)), (4, .ref (al 1)), (5, .ref (al 4))] (by decide) rfl dL_set_5 ?_
  refine j_iload h 0 rfl dL_set_7 ?_
  refine j_if_ne h 145 (by decide) dL_set_9 hF (fun hF => ?_) (fun hF => ?_)
  · refine j_aload_n h 4 rfl rfl dL_set_12 ?_
    refine j_iconst h (v := 0) (by decide) dL_set_13 ?_
    obtain ⟨hb_2, hF⟩ := bnd_row hF
    refine ja_iald h (get := fun S => S.2) (put := fun S v => (S.1, v)) (hQ.2 0 (by decide)) hb_2 dL_set_14 ?_
    refine j_if_le h 145 (by decide) dL_set_15 hF (fun hF => ?_) (fun hF => ?_)
    · exact j_sub [1, 2, 3, 4, 6, 0] rfl (k_L_set_145 h hQ hSt hnL hE hF)
    · refine j_iload_n h 2 rfl rfl dL_set_18 ?_
      refine j_iconst h (v := 3) (by decide) dL_set_19 ?_
      refine j_ishr h dL_set_20 ?_
      refine j_iconst h (v := 4) (by decide) dL_set_21 ?_
      obtain ⟨r_35, hr_35, hF⟩ := bind_row hF
      refine j_callSi h (st := []) (S' := S) (c_L_at X.l X.D X.cI X.cZ X.cV (B := X.B) S (p2 >>> ((3 : Int32) &&& 31)) (4 : Int32) hr_35) rfl rfl q1_223 cw_L_at rfl ⟨rfl, rfl, Nat.le_of_ble_eq_true rfl, Nat.le_of_ble_eq_true rfl⟩ _ rfl (Nat.le_of_ble_eq_true rfl) dL_set_22 ?_
      refine j_istore h hnL [(7, .int r_35), (6, .int r_1), (0, .ref (AD 12 7)), (1, .int p2), (2, .int p3), (3, .ref (al 0)), (4, .ref (al 1)), (5, .ref (al 4))] (by decide) rfl dL_set_25 ?_
      refine j_iload_n h 3 rfl rfl dL_set_27 ?_
      refine j_bipush h (v := 6) (by decide) dL_set_28 ?_
      refine j_ishr h dL_set_30 ?_
      refine j_aload_n h 5 rfl rfl dL_set_31 ?_
      refine j_iconst h (v := 0) (by decide) dL_set_32 ?_
      obtain ⟨hb_36, hF⟩ := bnd_row hF
      refine ja_iald h (get := fun S => S.2) (put := fun S v => (S.1, v)) (hQ.2 0 (by decide)) hb_36 dL_set_33 ?_
      obtain ⟨r_37, hr_37, hF⟩ := bind_row hF
      refine j_callSi h (st := []) (S' := S) (c_L_at X.l X.D X.cI X.cZ X.cV (B := X.B) S (p2 >>> ((6 : Int32) &&& 31)) (rd S.2 0 (0 : Int32)) hr_37) rfl rfl q1_223 cw_L_at rfl ⟨rfl, rfl, Nat.le_of_ble_eq_true rfl, Nat.le_of_ble_eq_true rfl⟩ _ rfl (Nat.le_of_ble_eq_true rfl) dL_set_34 ?_
      refine j_istore h hnL [(8, .int r_37), (7, .int r_35), (6, .int r_1), (0, .ref (AD 12 7)), (1, .int p2), (2, .int p3), (3, .ref (al 0)), (4, .ref (al 1)), (5, .ref (al 4))] (by decide) rfl dL_set_37 ?_
      refine j_iload h 1 rfl dL_set_39 ?_
      refine j_if_ne h 52 (by decide) dL_set_41 hF (fun hF => ?_) (fun hF => ?_)
      · refine j_iload_n h 5 rfl rfl dL_set_44 ?_
        refine j_iconst h (v := 3) (by decide) dL_set_45 ?_
        obtain ⟨r_38, hr_38, hF⟩ := bind_row hF
        refine j_callSi h (st := []) (S' := S) (c_L_at X.l X.D X.cI X.cZ X.cV (B := X.B) S p3 (3 : Int32) hr_38) rfl rfl q1_223 cw_L_at rfl ⟨rfl, rfl, Nat.le_of_ble_eq_true rfl, Nat.le_of_ble_eq_true rfl⟩ _ rfl (Nat.le_of_ble_eq_true rfl) dL_set_46 ?_
        refine j_goto h 96 (by decide) dL_set_49 ?_
        exact j_sub [3, 7, 1, 0] rfl (k_L_set_96 h hQ hSt hnL hE hF)
      · refine j_iload h 1 rfl dL_set_52 ?_
        refine j_iconst h (v := 1) (by decide) dL_set_54 ?_
        refine j_icmp_ne h 67 (by decide) dL_set_55 hF (fun hF => ?_) (fun hF => ?_)
        · refine j_iload_n h 5 rfl rfl dL_set_58 ?_
          refine j_bipush h (v := 30) (by decide) dL_set_59 ?_
          obtain ⟨r_45, hr_45, hF⟩ := bind_row hF
          refine j_callSi h (st := []) (S' := S) (c_L_at X.l X.D X.cI X.cZ X.cV (B := X.B) S p3 (30 : Int32) hr_45) rfl rfl q1_223 cw_L_at rfl ⟨rfl, rfl, Nat.le_of_ble_eq_true rfl, Nat.le_of_ble_eq_true rfl⟩ _ rfl (Nat.le_of_ble_eq_true rfl) dL_set_61 ?_
          refine j_goto h 96 (by decide) dL_set_64 ?_
          exact j_sub [3, 7, 1, 0] rfl (k_L_set_96 h hQ hSt hnL hE hF)
        · refine j_iload h 1 rfl dL_set_67 ?_
          refine j_iconst h (v := 2) (by decide) dL_set_69 ?_
          refine j_icmp_ne h 83 (by decide) dL_set_70 hF (fun hF => ?_) (fun hF => ?_)
          · refine j_iload_n h 5 rfl rfl dL_set_73 ?_
            refine j_sipush h (v := 400) (by decide) dL_set_74 ?_
            obtain ⟨r_46, hr_46, hF⟩ := bind_row hF
            refine j_callSi h (st := []) (S' := S) (c_L_at X.l X.D X.cI X.cZ X.cV (B := X.B) S p3 (400 : Int32) hr_46) rfl rfl q1_223 cw_L_at rfl ⟨rfl, rfl, Nat.le_of_ble_eq_true rfl, Nat.le_of_ble_eq_true rfl⟩ _ rfl (Nat.le_of_ble_eq_true rfl) dL_set_77 ?_
            refine j_goto h 96 (by decide) dL_set_80 ?_
            exact j_sub [3, 7, 1, 0] rfl (k_L_set_96 h hQ hSt hnL hE hF)
          · refine j_iload_n h 5 rfl rfl dL_set_83 ?_
            refine j_iconst h (v := 3) (by decide) dL_set_84 ?_
            obtain ⟨r_47, hr_47, hF⟩ := bind_row hF
            refine j_callSi h (st := []) (S' := S) (c_L_at X.l X.D X.cI X.cZ X.cV (B := X.B) S p3 (3 : Int32) hr_47) rfl rfl q1_223 cw_L_at rfl ⟨rfl, rfl, Nat.le_of_ble_eq_true rfl, Nat.le_of_ble_eq_true rfl⟩ _ rfl (Nat.le_of_ble_eq_true rfl) dL_set_85 ?_
            refine j_if_ne h 95 (by decide) dL_set_88 hF (fun hF => ?_) (fun hF => ?_)
            · refine j_iconst h (v := 0) (by decide) dL_set_91 ?_
              refine j_goto h 96 (by decide) dL_set_92 ?_
              exact j_sub [3, 7, 1, 0] rfl (k_L_set_96 h hQ hSt hnL hE hF)
            · refine j_iconst h (v := 1) (by decide) dL_set_95 ?_
              exact j_sub [3, 7, 1, 0] rfl (k_L_set_96 h hQ hSt hnL hE hF)
  · exact j_sub [1, 2, 3, 4, 6, 0] rfl (k_L_set_145 h hQ hSt hnL hE hF)
theorem c_L_set (l : Launch) (D : va_G) (cI cZ cV : ClassId) {t : Nat → Nat} {B : LQ → va_W} {AD : Nat → Nat → Nat} {al : Nat → Nat} (hQ : IsLP cI cZ cV B AD al) (S : LQ) (p2 : Int32) (p3 : Int32) {r : Int32 × LQ} (hF : f_L_set S p2 p3 = some r) : CTzs t l D (jtys cI cZ cV) yL_set cL_set 11 (some .boolean) rmL_set B [.ref (AD 12 7), .int p2, .int p3, .ref (al 0), .ref (al 1), .ref (al 4)] S r.1 r.2 := by
  refine CTzs.of [(0, .ref (AD 12 7)), (1, .int p2), (2, .int p3), (3, .ref (al 0)), (4, .ref (al 1)), (5, .ref (al 4))] rfl (Nat.le_of_ble_eq_true rfl) (by decide) ⟨rfl, rfl⟩ (fun X e1 e2 e3 e4 e5 e6 e7 h hSt hE => ?_)
  subst e1; subst e2; subst e3; subst e4; subst e5; subst e6
  exact k_L_set h hQ hSt e7 hE hF
abbrev rmL_buy : Room := { frames := 5, cells := 0, slots := 0, locals := 114 }
theorem cw_L_buy : CWs yL_buy cL_buy 8 (some .boolean) 6 := ⟨q2_103, q1_0, q2_104, ⟨by decide +kernel, by decide +kernel, by decide +kernel⟩⟩
set_option maxHeartbeats 4000000 in
set_option maxRecDepth 100000 in
theorem k_L_buy_29 {X : JX LQ} {AD : Nat → Nat → Nat} {al : Nat → Nat} (h : OK X RL cL_buy rmL_buy) (hQ : IsLP X.cI X.cZ X.cV X.B AD al) (hnL : X.nL = 8) {res : Int32 × LQ} {S : LQ} {x6 : Int32} {s0 : Int32} {s1 : Int32} {s2 : Int32} (hE : EXz X cL_buy res.1 res.2) (hF : f_L_buy_29 S x6 s0 s1 s2 = some res) : J X 29 [(0, .ref (AD 12 7)), (3, .ref (al 0)), (4, .ref (al 1)), (5, .ref (al 3)), (6, .int x6)] [.int s0, .int s1, .int s2] S := by
  rw [f_L_buy_29] at hF
  obtain ⟨r_4, hr_4, hF⟩ := bind_row hF
  refine j_callSi h (st := [.int s2]) (S' := S) (c_L_at X.l X.D X.cI X.cZ X.cV (B := X.B) S s1 s0 hr_4) rfl rfl q1_223 cw_L_at rfl ⟨rfl, rfl, Nat.le_of_ble_eq_true rfl, Nat.le_of_ble_eq_true rfl⟩ _ rfl (Nat.le_of_ble_eq_true rfl) dL_buy_29 ?_
  refine j_iadd h dL_buy_32 ?_
  refine j_let hF (fun x_5 hF => ?_)
  refine j_istore h hnL [(7, .int x_5), (0, .ref (AD 12 7)), (3, .ref (al 0)), (4, .ref (al 1)), (5, .ref (al 3)), (6, .int x6)] (by decide) rfl dL_buy_33 ?_
  refine j_iload h 5 rfl dL_buy_35 ?_
  refine j_iload h 0 rfl dL_buy_37 ?_
  refine j_aload_n h 2 rfl rfl dL_buy_39 ?_
  refine j_aload h 3 rfl dL_buy_40 ?_
  refine j_aload h 4 rfl dL_buy_42 ?_
  obtain ⟨r_6, hr_6, hF⟩ := bind_row hF
  refine j_callSv h (st := []) (S' := (S.1, r_6)) (c_L_token X.l X.D X.cI X.cZ X.cV (hQ.2.down S.1) S.2 x6 x_5 hr_6) rfl rfl q2_105 cw_L_token rfl ⟨rfl, rfl, Nat.le_of_ble_eq_true rfl, Nat.le_of_ble_eq_true rfl⟩ _ rfl (Nat.le_of_ble_eq_true rfl) dL_buy_44 ?_
  refine j_letS hF (fun S_7 hF => ?_)
  refine j_aload_n h 1 rfl rfl dL_buy_47 ?_
  refine j_iload h 5 rfl dL_buy_48 ?_
  refine j_iload h 0 rfl dL_buy_50 ?_
  obtain ⟨r_8, hr_8, hF⟩ := bind_row hF
  refine j_callVi h (st := []) (S' := (r_8.2, S_7.2)) (c_X6_buy X.l X.D X.cI X.cZ X.cV (hQ.1 S_7.2) S_7.1 x6 x_5 hr_8) rfl rfl q2_114 cw_X6_buy hQ.o rfl rfl rfl ⟨rfl, rfl, Nat.le_of_ble_eq_true rfl, Nat.le_of_ble_eq_true rfl⟩ _ rfl (Nat.le_of_ble_eq_true rfl) dL_buy_52 ?_
  refine j_letS hF (fun S_9 hF => ?_)
  refine j_aload h 3 rfl dL_buy_55 ?_
  refine j_bipush h (v := 6) (by decide) dL_buy_57 ?_
  refine j_iload h 5 rfl dL_buy_59 ?_
  refine j_imul h dL_buy_61 ?_
  refine j_iconst h (v := 4) (by decide) dL_buy_62 ?_
  refine j_iadd h dL_buy_63 ?_
  obtain ⟨hb_10, hF⟩ := bnd_row hF
  refine ja_iald h (get := fun S => S.2) (put := fun S v => (S.1, v)) (hQ.2 1 (by decide)) hb_10 dL_buy_64 ?_
  refine j_icmp_ne h 72 (by decide) dL_buy_65 hF (fun hF => ?_) (fun hF => ?_)
  · refine j_iconst h (v := 1) (by decide) dL_buy_68 ?_
    refine j_goto h 73 (by decide) dL_buy_69 ?_
    cases hF
    exact hE _ _ dL_buy_73 (isB_v (y := (1 : Int32)) (by decide))
  · refine j_iconst h (v := 0) (by decide) dL_buy_72 ?_
    cases hF
    exact hE _ _ dL_buy_73 (isB_v (y := (0 : Int32)) (by decide))
set_option maxHeartbeats 4000000 in
set_option maxRecDepth 100000 in
theorem k_L_buy {X : JX LQ} {AD : Nat → Nat → Nat} {al : Nat → Nat} (h : OK X RL cL_buy rmL_buy) (hQ : IsLP X.cI X.cZ X.cV X.B AD al) (hnL : X.nL = 8) {res : Int32 × LQ} {S : LQ} {p2 : Int32} {p3 : Int32} (hE : EXz X cL_buy res.1 res.2) (hF : f_L_buy S p2 p3 = some res) : J X 0 [(0, .ref (AD 12 7)), (1, .int p2), (2, .int p3), (3, .ref (al 0)), (4, .ref (al 1)), (5, .ref (al 3))] [] S := by
  rw [f_L_buy] at hF
  refine j_iload_n h 1 rfl rfl dL_buy_0 ?_
  refine j_aload_n h 3 rfl rfl dL_buy_1 ?_
  refine j_iconst h (v := 0) (by decide) dL_buy_2 ?_
  obtain ⟨hb_1, hF⟩ := bnd_row hF
  refine ja_iald h (get := fun S => S.2) (put := fun S v => (S.1, v)) (hQ.2 0 (by decide)) hb_1 dL_buy_3 ?_
  obtain ⟨r_2, hr_2, hF⟩ := bind_row hF
  refine j_callSi h (st := []) (S' := S) (c_L_at X.l X.D X.cI X.cZ X.cV (B := X.B) S p2 (rd S.2 0 (0 : Int32)) hr_2) rfl rfl q1_223 cw_L_at rfl ⟨rfl, rfl, Nat.le_of_ble_eq_true rfl, Nat.le_of_ble_eq_true rfl⟩ _ rfl (Nat.le_of_ble_eq_true rfl) dL_buy_4 ?_
  refine j_istore h hnL [(6, .int r_2), (0, .ref (AD 12 7)), (1, .int p2), (2, .int p3), (3, .ref (al 0)), (4, .ref (al 1)), (5, .ref (al 3))] (by decide) rfl dL_buy_7 ?_
  refine j_iconst h (v := 1) (by decide) dL_buy_9 ?_
  refine j_iload_n h 3 rfl rfl dL_buy_10 ?_
  refine j_iload_n h 2 rfl rfl dL_buy_11 ?_
  refine j_iconst h (v := 4) (by decide) dL_buy_12 ?_
  refine j_ishr h dL_buy_13 ?_
  refine j_iconst h (v := 3) (by decide) dL_buy_14 ?_
  obtain ⟨r_3, hr_3, hF⟩ := bind_row hF
  refine j_callSi h (st := [.int p3, .int (1 : Int32)]) (S' := S) (c_L_at X.l X.D X.cI X.cZ X.cV (B := X.B) S (p2 >>> ((4 : Int32) &&& 31)) (3 : Int32) hr_3) rfl rfl q1_223 cw_L_at rfl ⟨rfl, rfl, Nat.le_of_ble_eq_true rfl, Nat.le_of_ble_eq_true rfl⟩ _ rfl (Nat.le_of_ble_eq_true rfl) dL_buy_15 ?_
  refine j_if_ne h 27 (by decide) dL_buy_18 hF (fun hF => ?_) (fun hF => ?_)
  · refine j_sipush h (v := 500) (by decide) dL_buy_21 ?_
    refine j_goto h 29 (by decide) dL_buy_24 ?_
    exact j_sub [1, 4, 5, 6, 0] rfl (k_L_buy_29 h hQ hnL hE hF)
  · refine j_bipush h (v := 80) (by decide) dL_buy_27 ?_
    exact j_sub [1, 4, 5, 6, 0] rfl (k_L_buy_29 h hQ hnL hE hF)
theorem c_L_buy (l : Launch) (D : va_G) (cI cZ cV : ClassId) {B : LQ → va_W} {AD : Nat → Nat → Nat} {al : Nat → Nat} (hQ : IsLP cI cZ cV B AD al) (S : LQ) (p2 : Int32) (p3 : Int32) {r : Int32 × LQ} (hF : f_L_buy S p2 p3 = some r) : CTz l D (jtys cI cZ cV) yL_buy cL_buy 8 (some .boolean) rmL_buy B [.ref (AD 12 7), .int p2, .int p3, .ref (al 0), .ref (al 1), .ref (al 3)] S r.1 r.2 := by
  refine CTz.of [(0, .ref (AD 12 7)), (1, .int p2), (2, .int p3), (3, .ref (al 0)), (4, .ref (al 1)), (5, .ref (al 3))] rfl (Nat.le_of_ble_eq_true rfl) (by decide) ⟨rfl, rfl⟩ (fun X e1 e2 e3 e4 e5 e6 e7 h hE => ?_)
  subst e1; subst e2; subst e3; subst e4; subst e5; subst e6
  exact k_L_buy h hQ e7 hE hF
abbrev rmL_lend : Room := { frames := 5, cells := 0, slots := 0, locals := 113 }
theorem cw_L_lend : CWs yL_lend cL_lend 10 (some .boolean) 6 := ⟨q2_152, q1_0, q2_153, ⟨by decide +kernel, by decide +kernel, by decide +kernel⟩⟩
set_option maxHeartbeats 4000000 in
set_option maxRecDepth 100000 in
theorem k_L_lend {X : JX LQ} {AD : Nat → Nat → Nat} {al : Nat → Nat} (h : OK X RL cL_lend rmL_lend) (hQ : IsLP X.cI X.cZ X.cV X.B AD al) (hnL : X.nL = 10) {res : Int32 × LQ} {S : LQ} {p2 : Int32} {p3 : Int32} (hE : EXz X cL_lend res.1 res.2) (hF : f_L_lend S p2 p3 = some res) : J X 0 [(0, .ref (AD 12 7)), (1, .int p2), (2, .int p3), (3, .ref (al 0)), (4, .ref (al 1)), (5, .ref (al 3))] [] S := by
  rw [f_L_lend] at hF
  refine j_iload_n h 1 rfl rfl dL_lend_0 ?_
  refine j_aload_n h 3 rfl rfl dL_lend_1 ?_
  refine j_iconst h (v := 0) (by decide) dL_lend_2 ?_
  obtain ⟨hb_1, hF⟩ := bnd_row hF
  refine ja_iald h (get := fun S => S.2) (put := fun S v => (S.1, v)) (hQ.2 0 (by decide)) hb_1 dL_lend_3 ?_
  obtain ⟨r_2, hr_2, hF⟩ := bind_row hF
  refine j_callSi h (st := []) (S' := S) (c_L_at X.l X.D X.cI X.cZ X.cV (B := X.B) S p2 (rd S.2 0 (0 : Int32)) hr_2) rfl rfl q1_223 cw_L_at rfl ⟨rfl, rfl, Nat.le_of_ble_eq_true rfl, Nat.le_of_ble_eq_true rfl⟩ _ rfl (Nat.le_of_ble_eq_true rfl) dL_lend_4 ?_
  refine j_istore h hnL [(6, .int r_2), (0, .ref (AD 12 7)), (1, .int p2), (2, .int p3), (3, .ref (al 0)), (4, .ref (al 1)), (5, .ref (al 3))] (by decide) rfl dL_lend_7 ?_
  refine j_iload_n h 2 rfl rfl dL_lend_9 ?_
  refine j_iconst h (v := 4) (by decide) dL_lend_10 ?_
  refine j_ishr h dL_lend_11 ?_
  refine j_aload_n h 4 rfl rfl dL_lend_12 ?_
  refine j_iconst h (v := 0) (by decide) dL_lend_13 ?_
  obtain ⟨hb_3, hF⟩ := bnd_row hF
  refine ja_iald h (get := fun S => S.2) (put := fun S v => (S.1, v)) (hQ.2 0 (by decide)) hb_3 dL_lend_14 ?_
  obtain ⟨r_4, hr_4, hF⟩ := bind_row hF
  refine j_callSi h (st := []) (S' := S) (c_L_at X.l X.D X.cI X.cZ X.cV (B := X.B) S (p2 >>> ((4 : Int32) &&& 31)) (rd S.2 0 (0 : Int32)) hr_4) rfl rfl q1_223 cw_L_at rfl ⟨rfl, rfl, Nat.le_of_ble_eq_true rfl, Nat.le_of_ble_eq_true rfl⟩ _ rfl (Nat.le_of_ble_eq_true rfl) dL_lend_15 ?_
  refine j_istore h hnL [(7, .int r_4), (6, .int r_2), (0, .ref (AD 12 7)), (1, .int p2), (2, .int p3), (3, .ref (al 0)), (4, .ref (al 1)), (5, .ref (al 3))] (by decide) rfl dL_lend_18 ?_
  refine j_iconst h (v := 1) (by decide) dL_lend_20 ?_
  refine j_iload_n h 4 rfl rfl dL_lend_21 ?_
  refine j_bipush h (v := 40) (by decide) dL_lend_22 ?_
  obtain ⟨r_5, hr_5, hF⟩ := bind_row hF
  refine j_callSi h (st := [.int (1 : Int32)]) (S' := S) (c_L_at X.l X.D X.cI X.cZ X.cV (B := X.B) S p3 (40 : Int32) hr_5) rfl rfl q1_223 cw_L_at rfl ⟨rfl, rfl, Nat.le_of_ble_eq_true rfl, Nat.le_of_ble_eq_true rfl⟩ _ rfl (Nat.le_of_ble_eq_true rfl) dL_lend_24 ?_
  refine j_iadd h dL_lend_27 ?_
  refine j_let hF (fun x_6 hF => ?_)
  refine j_istore h hnL [(8, .int x_6), (7, .int r_4), (6, .int r_2), (0, .ref (AD 12 7)), (1, .int p2), (2, .int p3), (3, .ref (al 0)), (4, .ref (al 1)), (5, .ref (al 3))] (by decide) rfl dL_lend_28 ?_
  refine j_iload h 2 rfl dL_lend_30 ?_
  refine j_iload h 1 rfl dL_lend_32 ?_
  refine j_icmp_ne h 58 (by decide) dL_lend_34 hF (fun hF => ?_) (fun hF => ?_)
  · refine j_aload_n h 3 rfl rfl dL_lend_37 ?_
    refine j_iload h 2 rfl dL_lend_38 ?_
    refine j_iload h 1 rfl dL_lend_40 ?_
    refine j_iload h 0 rfl dL_lend_42 ?_
    obtain ⟨r_7, hr_7, hF⟩ := bind_row hF
    refine j_callVi h (st := []) (S' := (r_7.2, S.2)) (c_X6_lend X.l X.D X.cI X.cZ X.cV (hQ.1 S.2) S.1 r_2 r_4 x_6 hr_7) rfl rfl q2_154 cw_X6_lend hQ.o rfl rfl rfl ⟨rfl, rfl, Nat.le_of_ble_eq_true rfl, Nat.le_of_ble_eq_true rfl⟩ _ rfl (Nat.le_of_ble_eq_true rfl) dL_lend_44 ?_
    refine j_letS hF (fun S_8 hF => ?_)
    refine j_ldc h (v := -1000002) q2_163 dL_lend_47 ?_
    refine j_icmp_ne h 56 (by decide) dL_lend_49 hF (fun hF => ?_) (fun hF => ?_)
    · refine j_iconst h (v := 1) (by decide) dL_lend_52 ?_
      refine j_goto h 57 (by decide) dL_lend_53 ?_
      cases hF
      exact hE _ _ dL_lend_57 (isB_v (y := (1 : Int32)) (by decide))
    · refine j_iconst h (v := 0) (by decide) dL_lend_56 ?_
      cases hF
      exact hE _ _ dL_lend_57 (isB_v (y := (0 : Int32)) (by decide))
  · refine j_aload h 7 rfl dL_lend_58 ?_
    refine j_bipush h (v := 6) (by decide) dL_lend_60 ?_
    refine j_iload h 2 rfl dL_lend_62 ?_
    refine j_imul h dL_lend_64 ?_
    refine j_iconst h (v := 4) (by decide) dL_lend_65 ?_
    refine j_iadd h dL_lend_66 ?_
    obtain ⟨hb_9, hF⟩ := bnd_row hF
    refine ja_iald h (get := fun S => S.2) (put := fun S v => (S.1, v)) (hQ.2 1 (by decide)) hb_9 dL_lend_67 ?_
    refine j_iload h 0 rfl dL_lend_68 ?_
    refine j_icmp_ge h 94 (by decide) dL_lend_70 hF (fun hF => ?_) (fun hF => ?_)
    · refine j_aload_n h 6 rfl rfl dL_lend_94 ?_
      refine j_iconst h (v := 1) (by decide) dL_lend_95 ?_
      obtain ⟨hb_10, hF⟩ := bnd_row hF
      refine ja_iald h (get := fun S => S.2) (put := fun S v => (S.1, v)) (hQ.2 0 (by decide)) hb_10 dL_lend_96 ?_
      refine j_bipush h (v := 10) (by decide) dL_lend_97 ?_
      refine j_icmp_ne h 104 (by decide) dL_lend_99 hF (fun hF => ?_) (fun hF => ?_)
      · refine j_iconst h (v := 1) (by decide) dL_lend_102 ?_
        cases hF
        exact hE _ _ dL_lend_103 (isB_v (y := (1 : Int32)) (by decide))
      · refine j_iconst h (v := 3) (by decide) dL_lend_104 ?_
        refine j_aload_n h 6 rfl rfl dL_lend_105 ?_
        refine j_iconst h (v := 1) (by decide) dL_lend_106 ?_
        obtain ⟨hb_11, hF⟩ := bnd_row hF
        refine ja_iald h (get := fun S => S.2) (put := fun S v => (S.1, v)) (hQ.2 0 (by decide)) hb_11 dL_lend_107 ?_
        refine j_imul h dL_lend_108 ?_
        refine j_let hF (fun x_12 hF => ?_)
        refine j_istore h hnL [(9, .int x_12), (8, .int x_6), (7, .int r_4), (6, .int r_2), (0, .ref (AD 12 7)), (1, .int p2), (2, .int p3), (3, .ref (al 0)), (4, .ref (al 1)), (5, .ref (al 3))] (by decide) rfl dL_lend_109 ?_
        refine j_aload h 9 rfl dL_lend_111 ?_
        refine j_iload h 0 rfl dL_lend_113 ?_
        refine j_iload h 3 rfl dL_lend_115 ?_
        obtain ⟨hb_13, hF⟩ := bnd_row hF
        refine ja_iast h (get := fun S => S.2) (put := fun S v => (S.1, v)) (hQ.2 3 (by decide)) hb_13 dL_lend_117 ?_
        refine j_letS hF (fun S_14 hF => ?_)
        refine j_aload h 9 rfl dL_lend_118 ?_
        refine j_iload h 0 rfl dL_lend_120 ?_
        refine j_iconst h (v := 1) (by decide) dL_lend_122 ?_
        refine j_iadd h dL_lend_123 ?_
        refine j_iload h 2 rfl dL_lend_124 ?_
        obtain ⟨hb_15, hF⟩ := bnd_row hF
        refine ja_iast h (get := fun S => S.2) (put := fun S v => (S.1, v)) (hQ.2 3 (by decide)) hb_15 dL_lend_126 ?_
        refine j_letS hF (fun S_16 hF => ?_)
        refine j_aload h 9 rfl dL_lend_127 ?_
        refine j_iload h 0 rfl dL_lend_129 ?_
        refine j_iconst h (v := 2) (by decide) dL_lend_131 ?_
        refine j_iadd h dL_lend_132 ?_
        refine j_iload h 1 rfl dL_lend_133 ?_
        obtain ⟨hb_17, hF⟩ := bnd_row hF
        refine ja_iast h (get := fun S => S.2) (put := fun S v => (S.1, v)) (hQ.2 3 (by decide)) hb_17 dL_lend_135 ?_
        refine j_letS hF (fun S_18 hF => ?_)
        refine j_aload h 8 rfl dL_lend_136 ?_
        refine j_bipush h (v := 6) (by decide) dL_lend_138 ?_
        refine j_iload h 3 rfl dL_lend_140 ?_
        refine j_imul h dL_lend_142 ?_
        refine j_iconst h (v := 4) (by decide) dL_lend_143 ?_
        refine j_iadd h dL_lend_144 ?_
        refine j_dup2 h rfl rfl dL_lend_145 ?_
        obtain ⟨hb_19, hF⟩ := bnd_row hF
        refine ja_iald h (get := fun S => S.2) (put := fun S v => (S.1, v)) (hQ.2 1 (by decide)) hb_19 dL_lend_146 ?_
        refine j_iload h 1 rfl dL_lend_147 ?_
        refine j_isub h dL_lend_149 ?_
        obtain ⟨hb_20, hF⟩ := bnd_row hF
        refine ja_iast h (get := fun S => S.2) (put := fun S v => (S.1, v)) (hQ.2 1 (by decide)) hb_20 dL_lend_150 ?_
        refine j_letS hF (fun S_21 hF => ?_)
        refine j_aload h 8 rfl dL_lend_151 ?_
        refine j_bipush h (v := 6) (by decide) dL_lend_153 ?_
        refine j_iload h 2 rfl dL_lend_155 ?_
        refine j_imul h dL_lend_157 ?_
        refine j_iconst h (v := 4) (by decide) dL_lend_158 ?_
        refine j_iadd h dL_lend_159 ?_
        refine j_dup2 h rfl rfl dL_lend_160 ?_
        obtain ⟨hb_22, hF⟩ := bnd_row hF
        refine ja_iald h (get := fun S => S.2) (put := fun S v => (S.1, v)) (hQ.2 1 (by decide)) hb_22 dL_lend_161 ?_
        refine j_iload h 1 rfl dL_lend_162 ?_
        refine j_iadd h dL_lend_164 ?_
        obtain ⟨hb_23, hF⟩ := bnd_row hF
        refine ja_iast h (get := fun S => S.2) (put := fun S v => (S.1, v)) (hQ.2 1 (by decide)) hb_23 dL_lend_165 ?_
        refine j_letS hF (fun S_24 hF => ?_)
        refine j_aload_n h 7 rfl rfl dL_lend_166 ?_
        refine j_iconst h (v := 1) (by decide) dL_lend_167 ?_
        refine j_dup2 h rfl rfl dL_lend_168 ?_
        obtain ⟨hb_25, hF⟩ := bnd_row hF
        refine ja_iald h (get := fun S => S.2) (put := fun S v => (S.1, v)) (hQ.2 0 (by decide)) hb_25 dL_lend_169 ?_
        refine j_iconst h (v := 1) (by decide) dL_lend_170 ?_
        refine j_iadd h dL_lend_171 ?_
        obtain ⟨hb_26, hF⟩ := bnd_row hF
        refine ja_iast h (get := fun S => S.2) (put := fun S v => (S.1, v)) (hQ.2 0 (by decide)) hb_26 dL_lend_172 ?_
        refine j_letS hF (fun S_27 hF => ?_)
        refine j_aload_n h 4 rfl rfl dL_lend_173 ?_
        refine j_iload h 3 rfl dL_lend_174 ?_
        refine j_iload h 2 rfl dL_lend_176 ?_
        refine j_iload h 1 rfl dL_lend_178 ?_
        obtain ⟨r_28, hr_28, hF⟩ := bind_row hF
        refine j_callVi h (st := []) (S' := (r_28.2, S_27.2)) (c_X6_lend X.l X.D X.cI X.cZ X.cV (hQ.1 S_27.2) S_27.1 r_2 r_4 x_6 hr_28) rfl rfl q2_154 cw_X6_lend hQ.o rfl rfl rfl ⟨rfl, rfl, Nat.le_of_ble_eq_true rfl, Nat.le_of_ble_eq_true rfl⟩ _ rfl (Nat.le_of_ble_eq_true rfl) dL_lend_180 ?_
        refine j_letS hF (fun S_29 hF => ?_)
        refine j_aload_n h 7 rfl rfl dL_lend_183 ?_
        refine j_iconst h (v := 1) (by decide) dL_lend_184 ?_
        obtain ⟨hb_30, hF⟩ := bnd_row hF
        refine ja_iald h (get := fun S => S.2) (put := fun S v => (S.1, v)) (hQ.2 0 (by decide)) hb_30 dL_lend_185 ?_
        refine j_icmp_ne h 193 (by decide) dL_lend_186 hF (fun hF => ?_) (fun hF => ?_)
        · refine j_iconst h (v := 1) (by decide) dL_lend_189 ?_
          refine j_goto h 194 (by decide) dL_lend_190 ?_
          cases hF
          exact hE _ _ dL_lend_194 (isB_v (y := (1 : Int32)) (by decide))
        · refine j_iconst h (v := 0) (by decide) dL_lend_193 ?_
          cases hF
          exact hE _ _ dL_lend_194 (isB_v (y := (0 : Int32)) (by decide))
    · refine j_aload_n h 3 rfl rfl dL_lend_73 ?_
      refine j_iload h 2 rfl dL_lend_74 ?_
      refine j_iload h 1 rfl dL_lend_76 ?_
      refine j_iload h 0 rfl dL_lend_78 ?_
      obtain ⟨r_31, hr_31, hF⟩ := bind_row hF
      refine j_callVi h (st := []) (S' := (r_31.2, S.2)) (c_X6_lend X.l X.D X.cI X.cZ X.cV (hQ.1 S.2) S.1 r_2 r_4 x_6 hr_31) rfl rfl q2_154 cw_X6_lend hQ.o rfl rfl rfl ⟨rfl, rfl, Nat.le_of_ble_eq_true rfl, Nat.le_of_ble_eq_true rfl⟩ _ rfl (Nat.le_of_ble_eq_true rfl) dL_lend_80 ?_
      refine j_letS hF (fun S_32 hF => ?_)
      refine j_ldc h (v := -1000003) q2_164 dL_lend_83 ?_
      refine j_icmp_ne h 92 (by decide) dL_lend_85 hF (fun hF => ?_) (fun hF => ?_)
      · refine j_iconst h (v := 1) (by decide) dL_lend_88 ?_
        refine j_goto h 93 (by decide) dL_lend_89 ?_
        cases hF
        exact hE _ _ dL_lend_93 (isB_v (y := (1 : Int32)) (by decide))
      · refine j_iconst h (v := 0) (by decide) dL_lend_92 ?_
        cases hF
        exact hE _ _ dL_lend_93 (isB_v (y := (0 : Int32)) (by decide))
theorem c_L_lend (l : Launch) (D : va_G) (cI cZ cV : ClassId) {B : LQ → va_W} {AD : Nat → Nat → Nat} {al : Nat → Nat} (hQ : IsLP cI cZ cV B AD al) (S : LQ) (p2 : Int32) (p3 : Int32) {r : Int32 × LQ} (hF : f_L_lend S p2 p3 = some r) : CTz l D (jtys cI cZ cV) yL_lend cL_lend 10 (some .boolean) rmL_lend B [.ref (AD 12 7), .int p2, .int p3, .ref (al 0), .ref (al 1), .ref (al 3)] S r.1 r.2 := by
  refine CTz.of [(0, .ref (AD 12 7)), (1, .int p2), (2, .int p3), (3, .ref (al 0)), (4, .ref (al 1)), (5, .ref (al 3))] rfl (Nat.le_of_ble_eq_true rfl) (by decide) ⟨rfl, rfl⟩ (fun X e1 e2 e3 e4 e5 e6 e7 h hE => ?_)
  subst e1; subst e2; subst e3; subst e4; subst e5; subst e6
  exact k_L_lend h hQ e7 hE hF
abbrev rmL_run : Room := { frames := 6, cells := 0, slots := 0, locals := 137 }
theorem cw_L_run : CWs yL_run cL_run 10 (some .boolean) 7 := ⟨q2_166, q1_0, q2_167, ⟨by decide +kernel, by decide +kernel, by decide +kernel⟩⟩
set_option maxHeartbeats 4000000 in
set_option maxRecDepth 100000 in
theorem k_L_run_19 {X : JX LQ} {AD : Nat → Nat → Nat} {al : Nat → Nat} (h : OK X RL cL_run rmL_run) (hQ : IsLP X.cI X.cZ X.cV X.B AD al) (hnL : X.nL = 10) {res : Int32 × LQ} {x7 : Int32} {x8 : Int32} (hE : EXz X cL_run res.1 res.2) : ∀ (n : Nat) (x9 : Int32) (S : LQ), f_L_run_19 x7 x8 n x9 S = some res → J X 19 [(0, .ref (AD 12 7)), (2, .ref (al 0)), (3, .ref (al 1)), (4, .ref (al 2)), (5, .ref (al 4)), (6, .ref (al 5)), (7, .int x7), (8, .int x8), (9, .int x9)] [] S := by
  intro n
  induction n with
  | zero =>
    intro x9 S hF
    rw [f_L_run_19] at hF
    cases hF
  | succ n ih =>
    intro x9 S hF
    rw [f_L_run_19] at hF
    refine j_iload h 8 rfl dL_run_19 ?_
    refine j_iload h 6 rfl dL_run_21 ?_
    refine j_icmp_ge h 43 (by decide) dL_run_23 hF (fun hF => ?_) (fun hF => ?_)
    · refine j_aload_n h 0 rfl rfl dL_run_43 ?_
      refine j_iload h 6 rfl dL_run_44 ?_
      obtain ⟨r_5, hr_5, hF⟩ := bind_row hF
      refine j_callVi h (st := []) (S' := (r_5.2, S.2)) (c_X6_run X.l X.D X.cI X.cZ X.cV (hQ.1 S.2) S.1 x7 hr_5) rfl rfl q2_180 cw_X6_run hQ.o rfl rfl rfl ⟨rfl, rfl, Nat.le_of_ble_eq_true rfl, Nat.le_of_ble_eq_true rfl⟩ _ rfl (Nat.le_of_ble_eq_true rfl) dL_run_46 ?_
      refine j_letS hF (fun S_6 hF => ?_)
      refine j_aload_n h 1 rfl rfl dL_run_49 ?_
      refine j_bipush h (v := 9) (by decide) dL_run_50 ?_
      obtain ⟨hb_7, hF⟩ := bnd_row hF
      refine ja_iald h (get := fun S => S.2) (put := fun S v => (S.1, v)) (hQ.2 0 (by decide)) hb_7 dL_run_52 ?_
      refine j_iload h 7 rfl dL_run_53 ?_
      refine j_isub h dL_run_55 ?_
      refine j_icmp_ne h 63 (by decide) dL_run_56 hF (fun hF => ?_) (fun hF => ?_)
      · refine j_iconst h (v := 1) (by decide) dL_run_59 ?_
        refine j_goto h 64 (by decide) dL_run_60 ?_
        cases hF
        exact hE _ _ dL_run_64 (isB_v (y := (1 : Int32)) (by decide))
      · refine j_iconst h (v := 0) (by decide) dL_run_63 ?_
        cases hF
        exact hE _ _ dL_run_64 (isB_v (y := (0 : Int32)) (by decide))
    · refine j_aload_n h 1 rfl rfl dL_run_26 ?_
      refine j_aload_n h 2 rfl rfl dL_run_27 ?_
      refine j_aload h 3 rfl dL_run_28 ?_
      refine j_aload h 4 rfl dL_run_30 ?_
      refine j_aload h 5 rfl dL_run_32 ?_
      obtain ⟨r_8, hr_8, hF⟩ := bind_row hF
      refine j_callSv h (st := []) (S' := (S.1, r_8)) (c_L_hour X.l X.D X.cI X.cZ X.cV (hQ.2.down S.1) S.2 hr_8) rfl rfl q2_168 cw_L_hour rfl ⟨rfl, rfl, Nat.le_of_ble_eq_true rfl, Nat.le_of_ble_eq_true rfl⟩ _ rfl (Nat.le_of_ble_eq_true rfl) dL_run_34 ?_
      refine j_letS hF (fun S_9 hF => ?_)
      refine j_iincL hF (fun x_10 ex_10 hF => ?_)
      refine j_iinc h hnL 8 [(9, .int x_10), (0, .ref (AD 12 7)), (2, .ref (al 0)), (3, .ref (al 1)), (4, .ref (al 2)), (5, .ref (al 4)), (6, .ref (al 5)), (7, .int x7), (8, .int x8)] rfl ex_10 (by decide) (by decide) rfl dL_run_37 ?_
      refine j_goto h 19 (by decide) dL_run_40 ?_
      exact j_sub [1, 2, 3, 4, 5, 6, 7, 8, 0] rfl (ih _ _ hF)
set_option maxHeartbeats 4000000 in
set_option maxRecDepth 100000 in
theorem k_L_run {X : JX LQ} {AD : Nat → Nat → Nat} {al : Nat → Nat} (h : OK X RL cL_run rmL_run) (hQ : IsLP X.cI X.cZ X.cV X.B AD al) (hnL : X.nL = 10) {res : Int32 × LQ} {S : LQ} {p2 : Int32} (hE : EXz X cL_run res.1 res.2) (hF : f_L_run S p2 = some res) : J X 0 [(0, .ref (AD 12 7)), (1, .int p2), (2, .ref (al 0)), (3, .ref (al 1)), (4, .ref (al 2)), (5, .ref (al 4)), (6, .ref (al 5))] [] S := by
  rw [f_L_run] at hF
  refine j_iconst h (v := 1) (by decide) dL_run_0 ?_
  refine j_iload_n h 1 rfl rfl dL_run_1 ?_
  refine j_bipush h (v := 8) (by decide) dL_run_2 ?_
  obtain ⟨r_1, hr_1, hF⟩ := bind_row hF
  refine j_callSi h (st := [.int (1 : Int32)]) (S' := S) (c_L_at X.l X.D X.cI X.cZ X.cV (B := X.B) S p2 (8 : Int32) hr_1) rfl rfl q1_223 cw_L_at rfl ⟨rfl, rfl, Nat.le_of_ble_eq_true rfl, Nat.le_of_ble_eq_true rfl⟩ _ rfl (Nat.le_of_ble_eq_true rfl) dL_run_4 ?_
  refine j_iadd h dL_run_7 ?_
  refine j_let hF (fun x_2 hF => ?_)
  refine j_istore h hnL [(7, .int x_2), (0, .ref (AD 12 7)), (1, .int p2), (2, .ref (al 0)), (3, .ref (al 1)), (4, .ref (al 2)), (5, .ref (al 4)), (6, .ref (al 5))] (by decide) rfl dL_run_8 ?_
  refine j_aload_n h 3 rfl rfl dL_run_10 ?_
  refine j_bipush h (v := 9) (by decide) dL_run_11 ?_
  obtain ⟨hb_3, hF⟩ := bnd_row hF
  refine ja_iald h (get := fun S => S.2) (put := fun S v => (S.1, v)) (hQ.2 0 (by decide)) hb_3 dL_run_13 ?_
  refine j_let hF (fun x_4 hF => ?_)
  refine j_istore h hnL [(8, .int x_4), (7, .int x_2), (0, .ref (AD 12 7)), (1, .int p2), (2, .ref (al 0)), (3, .ref (al 1)), (4, .ref (al 2)), (5, .ref (al 4)), (6, .ref (al 5))] (by decide) rfl dL_run_14 ?_
  refine j_iconst h (v := 0) (by decide) dL_run_16 ?_
  refine j_istore h hnL [(9, .int (0 : Int32)), (8, .int x_4), (7, .int x_2), (0, .ref (AD 12 7)), (1, .int p2), (2, .ref (al 0)), (3, .ref (al 1)), (4, .ref (al 2)), (5, .ref (al 4)), (6, .ref (al 5))] (by decide) rfl dL_run_17 ?_
  exact j_sub [3, 5, 6, 7, 8, 9, 2, 1, 0] rfl (k_L_run_19 h hQ hnL hE fuel _ _ hF)
theorem c_L_run (l : Launch) (D : va_G) (cI cZ cV : ClassId) {B : LQ → va_W} {AD : Nat → Nat → Nat} {al : Nat → Nat} (hQ : IsLP cI cZ cV B AD al) (S : LQ) (p2 : Int32) {r : Int32 × LQ} (hF : f_L_run S p2 = some r) : CTz l D (jtys cI cZ cV) yL_run cL_run 10 (some .boolean) rmL_run B [.ref (AD 12 7), .int p2, .ref (al 0), .ref (al 1), .ref (al 2), .ref (al 4), .ref (al 5)] S r.1 r.2 := by
  refine CTz.of [(0, .ref (AD 12 7)), (1, .int p2), (2, .ref (al 0)), (3, .ref (al 1)), (4, .ref (al 2)), (5, .ref (al 4)), (6, .ref (al 5))] rfl (Nat.le_of_ble_eq_true rfl) (by decide) ⟨rfl, rfl⟩ (fun X e1 e2 e3 e4 e5 e6 e7 h hE => ?_)
  subst e1; subst e2; subst e3; subst e4; subst e5; subst e6
  exact k_L_run h hQ e7 hE hF
abbrev rmL_told : Room := { frames := 4, cells := 0, slots := 0, locals := 89 }
theorem cw_L_told : CWs yL_told cL_told 13 (some .boolean) 6 := ⟨q3_22, q1_0, q3_23, ⟨by decide +kernel, by decide +kernel, by decide +kernel⟩⟩
set_option maxHeartbeats 4000000 in
set_option maxRecDepth 100000 in
theorem k_L_told_702 {X : JX LQ} {AD : Nat → Nat → Nat} {al : Nat → Nat} (h : OK X RL cL_told rmL_told) (hQ : IsLP X.cI X.cZ X.cV X.B AD al) (hnL : X.nL = 13) {res : Int32} {S : LQ} {s0 : UInt64} {s1 : UInt64} (hE : EXz X cL_told res S) (hF : f_L_told_702 S s0 s1 = some res) : J X 702 [] [.double s0, .double s1] S := by
  rw [f_L_told_702] at hF
  refine j_dcmp h dL_told_702 ?_
  refine j_if_ne h 710 (by decide) dL_told_703 hF (fun hF => ?_) (fun hF => ?_)
  · refine j_iconst h (v := 1) (by decide) dL_told_706 ?_
    refine j_goto h 711 (by decide) dL_told_707 ?_
    cases hF
    exact hE _ _ dL_told_711 (isB_v (y := (1 : Int32)) (by decide))
  · refine j_iconst h (v := 0) (by decide) dL_told_710 ?_
    cases hF
    exact hE _ _ dL_told_711 (isB_v (y := (0 : Int32)) (by decide))
set_option maxHeartbeats 4000000 in
set_option maxRecDepth 100000 in
theorem k_L_told_519 {X : JX LQ} {AD : Nat → Nat → Nat} {al : Nat → Nat} (h : OK X RL cL_told rmL_told) (hQ : IsLP X.cI X.cZ X.cV X.B AD al) (hnL : X.nL = 13) {res : Int32} {S : LQ} {x6 : Int32} {x7 : Int32} {x8 : Int32} (hE : EXz X cL_told res S) : ∀ (n : Nat) (x9 : Int32), f_L_told_519 S x6 x7 x8 n x9 = some res → J X 519 [(0, .ref (AD 12 7)), (1, .ref (al 0)), (5, .ref (al 4)), (6, .int x6), (7, .int x7), (8, .int x8), (9, .int x9)] [] S := by
  intro n
  induction n with
  | zero =>
    intro x9 hF
    rw [f_L_told_519] at hF
    cases hF
  | succ n ih =>
    intro x9 hF
    rw [f_L_told_519] at hF
    refine j_iload h 6 rfl dL_told_519 ?_
    refine j_iconst h (v := 4) (by decide) dL_told_521 ?_
    refine j_icmp_ge h 548 (by decide) dL_told_522 hF (fun hF => ?_) (fun hF => ?_)
    · refine j_aload h 2 rfl dL_told_548 ?_
      refine j_iconst h (v := 3) (by decide) dL_told_550 ?_
      obtain ⟨hb_3, hF⟩ := bnd_row hF
      refine ja_iald h (get := fun S => S.2) (put := fun S v => (S.1, v)) (hQ.2 4 (by decide)) hb_3 dL_told_551 ?_
      refine j_aload h 2 rfl dL_told_552 ?_
      refine j_bipush h (v := 7) (by decide) dL_told_554 ?_
      obtain ⟨hb_4, hF⟩ := bnd_row hF
      refine ja_iald h (get := fun S => S.2) (put := fun S v => (S.1, v)) (hQ.2 4 (by decide)) hb_4 dL_told_556 ?_
      refine j_iadd h dL_told_557 ?_
      refine j_let hF (fun x_5 hF => ?_)
      refine j_istore h hnL [(9, .int x_5), (0, .ref (AD 12 7)), (1, .ref (al 0)), (5, .ref (al 4)), (6, .int x6), (7, .int x7), (8, .int x8)] (by decide) rfl dL_told_558 ?_
      refine j_aload_n h 1 rfl rfl dL_told_560 ?_
      refine j_iconst h (v := 5) (by decide) dL_told_561 ?_
      obtain ⟨r_6, hr_6, hF⟩ := bind_row hF
      refine j_callVi h (st := []) (S' := S) (c_X6_account X.l X.D X.cI X.cZ X.cV (hQ.1 S.2) S.1 (5 : Int32) hr_6) rfl rfl q3_63 cw_X6_account hQ.o rfl rfl rfl ⟨rfl, rfl, Nat.le_of_ble_eq_true rfl, Nat.le_of_ble_eq_true rfl⟩ _ rfl (Nat.le_of_ble_eq_true rfl) dL_told_562 ?_
      refine j_iload h 0 rfl dL_told_565 ?_
      refine j_icmp_ne h 710 (by decide) dL_told_567 hF (fun hF => ?_) (fun hF => ?_)
      · refine j_aload_n h 1 rfl rfl dL_told_570 ?_
        refine j_bipush h (v := 6) (by decide) dL_told_571 ?_
        obtain ⟨r_7, hr_7, hF⟩ := bind_row hF
        refine j_callVi h (st := []) (S' := S) (c_X6_account X.l X.D X.cI X.cZ X.cV (hQ.1 S.2) S.1 (6 : Int32) hr_7) rfl rfl q3_63 cw_X6_account hQ.o rfl rfl rfl ⟨rfl, rfl, Nat.le_of_ble_eq_true rfl, Nat.le_of_ble_eq_true rfl⟩ _ rfl (Nat.le_of_ble_eq_true rfl) dL_told_573 ?_
        refine j_aload_n h 2 rfl rfl dL_told_576 ?_
        refine j_bipush h (v := 13) (by decide) dL_told_577 ?_
        obtain ⟨hb_8, hF⟩ := bnd_row hF
        refine ja_iald h (get := fun S => S.2) (put := fun S v => (S.1, v)) (hQ.2 0 (by decide)) hb_8 dL_told_579 ?_
        refine j_icmp_ne h 710 (by decide) dL_told_580 hF (fun hF => ?_) (fun hF => ?_)
        · refine j_aload_n h 1 rfl rfl dL_told_583 ?_
          refine j_bipush h (v := 7) (by decide) dL_told_584 ?_
          obtain ⟨r_9, hr_9, hF⟩ := bind_row hF
          refine j_callVi h (st := []) (S' := S) (c_X6_account X.l X.D X.cI X.cZ X.cV (hQ.1 S.2) S.1 (7 : Int32) hr_9) rfl rfl q3_63 cw_X6_account hQ.o rfl rfl rfl ⟨rfl, rfl, Nat.le_of_ble_eq_true rfl, Nat.le_of_ble_eq_true rfl⟩ _ rfl (Nat.le_of_ble_eq_true rfl) dL_told_586 ?_
          refine j_aload_n h 2 rfl rfl dL_told_589 ?_
          refine j_bipush h (v := 14) (by decide) dL_told_590 ?_
          obtain ⟨hb_10, hF⟩ := bnd_row hF
          refine ja_iald h (get := fun S => S.2) (put := fun S v => (S.1, v)) (hQ.2 0 (by decide)) hb_10 dL_told_592 ?_
          refine j_icmp_ne h 710 (by decide) dL_told_593 hF (fun hF => ?_) (fun hF => ?_)
          · refine j_aload_n h 2 rfl rfl dL_told_596 ?_
            refine j_bipush h (v := 8) (by decide) dL_told_597 ?_
            obtain ⟨hb_11, hF⟩ := bnd_row hF
            refine ja_iald h (get := fun S => S.2) (put := fun S v => (S.1, v)) (hQ.2 0 (by decide)) hb_11 dL_told_599 ?_
            refine j_aload_n h 2 rfl rfl dL_told_600 ?_
            refine j_bipush h (v := 9) (by decide) dL_told_601 ?_
            obtain ⟨hb_12, hF⟩ := bnd_row hF
            refine ja_iald h (get := fun S => S.2) (put := fun S v => (S.1, v)) (hQ.2 0 (by decide)) hb_12 dL_told_603 ?_
            refine j_aload_n h 2 rfl rfl dL_told_604 ?_
            refine j_bipush h (v := 10) (by decide) dL_told_605 ?_
            obtain ⟨hb_13, hF⟩ := bnd_row hF
            refine ja_iald h (get := fun S => S.2) (put := fun S v => (S.1, v)) (hQ.2 0 (by decide)) hb_13 dL_told_607 ?_
            refine j_iadd h dL_told_608 ?_
            refine j_aload_n h 2 rfl rfl dL_told_609 ?_
            refine j_bipush h (v := 11) (by decide) dL_told_610 ?_
            obtain ⟨hb_14, hF⟩ := bnd_row hF
            refine ja_iald h (get := fun S => S.2) (put := fun S v => (S.1, v)) (hQ.2 0 (by decide)) hb_14 dL_told_612 ?_
            refine j_iadd h dL_told_613 ?_
            refine j_aload_n h 2 rfl rfl dL_told_614 ?_
            refine j_bipush h (v := 12) (by decide) dL_told_615 ?_
            obtain ⟨hb_15, hF⟩ := bnd_row hF
            refine ja_iald h (get := fun S => S.2) (put := fun S v => (S.1, v)) (hQ.2 0 (by decide)) hb_15 dL_told_617 ?_
            refine j_iadd h dL_told_618 ?_
            refine j_iload h 0 rfl dL_told_619 ?_
            refine j_iadd h dL_told_621 ?_
            refine j_icmp_ne h 710 (by decide) dL_told_622 hF (fun hF => ?_) (fun hF => ?_)
            · refine j_aload_n h 1 rfl rfl dL_told_625 ?_
              refine j_iconst h (v := 0) (by decide) dL_told_626 ?_
              obtain ⟨r_16, hr_16, hF⟩ := bind_row hF
              refine j_callVi h (st := []) (S' := S) (c_X6_count X.l X.D X.cI X.cZ X.cV (hQ.1 S.2) S.1 (0 : Int32) hr_16) rfl rfl q3_75 cw_X6_count hQ.o rfl rfl rfl ⟨rfl, rfl, Nat.le_of_ble_eq_true rfl, Nat.le_of_ble_eq_true rfl⟩ _ rfl (Nat.le_of_ble_eq_true rfl) dL_told_627 ?_
              refine j_aload_n h 2 rfl rfl dL_told_630 ?_
              refine j_iconst h (v := 0) (by decide) dL_told_631 ?_
              obtain ⟨hb_17, hF⟩ := bnd_row hF
              refine ja_iald h (get := fun S => S.2) (put := fun S v => (S.1, v)) (hQ.2 0 (by decide)) hb_17 dL_told_632 ?_
              refine j_icmp_ne h 710 (by decide) dL_told_633 hF (fun hF => ?_) (fun hF => ?_)
              · refine j_aload_n h 1 rfl rfl dL_told_636 ?_
                refine j_iconst h (v := 1) (by decide) dL_told_637 ?_
                obtain ⟨r_18, hr_18, hF⟩ := bind_row hF
                refine j_callVi h (st := []) (S' := S) (c_X6_count X.l X.D X.cI X.cZ X.cV (hQ.1 S.2) S.1 (1 : Int32) hr_18) rfl rfl q3_75 cw_X6_count hQ.o rfl rfl rfl ⟨rfl, rfl, Nat.le_of_ble_eq_true rfl, Nat.le_of_ble_eq_true rfl⟩ _ rfl (Nat.le_of_ble_eq_true rfl) dL_told_638 ?_
                refine j_aload_n h 2 rfl rfl dL_told_641 ?_
                refine j_iconst h (v := 1) (by decide) dL_told_642 ?_
                obtain ⟨hb_19, hF⟩ := bnd_row hF
                refine ja_iald h (get := fun S => S.2) (put := fun S v => (S.1, v)) (hQ.2 0 (by decide)) hb_19 dL_told_643 ?_
                refine j_icmp_ne h 710 (by decide) dL_told_644 hF (fun hF => ?_) (fun hF => ?_)
                · refine j_aload_n h 1 rfl rfl dL_told_647 ?_
                  refine j_iconst h (v := 2) (by decide) dL_told_648 ?_
                  obtain ⟨r_20, hr_20, hF⟩ := bind_row hF
                  refine j_callVi h (st := []) (S' := S) (c_X6_count X.l X.D X.cI X.cZ X.cV (hQ.1 S.2) S.1 (2 : Int32) hr_20) rfl rfl q3_75 cw_X6_count hQ.o rfl rfl rfl ⟨rfl, rfl, Nat.le_of_ble_eq_true rfl, Nat.le_of_ble_eq_true rfl⟩ _ rfl (Nat.le_of_ble_eq_true rfl) dL_told_649 ?_
                  refine j_aload_n h 2 rfl rfl dL_told_652 ?_
                  refine j_iconst h (v := 2) (by decide) dL_told_653 ?_
                  obtain ⟨hb_21, hF⟩ := bnd_row hF
                  refine ja_iald h (get := fun S => S.2) (put := fun S v => (S.1, v)) (hQ.2 0 (by decide)) hb_21 dL_told_654 ?_
                  refine j_icmp_ne h 710 (by decide) dL_told_655 hF (fun hF => ?_) (fun hF => ?_)
                  · refine j_aload_n h 1 rfl rfl dL_told_658 ?_
                    refine j_iconst h (v := 4) (by decide) dL_told_659 ?_
                    obtain ⟨r_22, hr_22, hF⟩ := bind_row hF
                    refine j_callVi h (st := []) (S' := S) (c_X6_count X.l X.D X.cI X.cZ X.cV (hQ.1 S.2) S.1 (4 : Int32) hr_22) rfl rfl q3_75 cw_X6_count hQ.o rfl rfl rfl ⟨rfl, rfl, Nat.le_of_ble_eq_true rfl, Nat.le_of_ble_eq_true rfl⟩ _ rfl (Nat.le_of_ble_eq_true rfl) dL_told_660 ?_
                    refine j_aload_n h 2 rfl rfl dL_told_663 ?_
                    refine j_iconst h (v := 3) (by decide) dL_told_664 ?_
                    obtain ⟨hb_23, hF⟩ := bnd_row hF
                    refine ja_iald h (get := fun S => S.2) (put := fun S v => (S.1, v)) (hQ.2 0 (by decide)) hb_23 dL_told_665 ?_
                    refine j_icmp_ne h 710 (by decide) dL_told_666 hF (fun hF => ?_) (fun hF => ?_)
                    · refine j_aload_n h 1 rfl rfl dL_told_669 ?_
                      refine j_bipush h (v := 7) (by decide) dL_told_670 ?_
                      obtain ⟨r_24, hr_24, hF⟩ := bind_row hF
                      refine j_callVi h (st := []) (S' := S) (c_X6_count X.l X.D X.cI X.cZ X.cV (hQ.1 S.2) S.1 (7 : Int32) hr_24) rfl rfl q3_75 cw_X6_count hQ.o rfl rfl rfl ⟨rfl, rfl, Nat.le_of_ble_eq_true rfl, Nat.le_of_ble_eq_true rfl⟩ _ rfl (Nat.le_of_ble_eq_true rfl) dL_told_672 ?_
                      refine j_iload h 6 rfl dL_told_675 ?_
                      refine j_icmp_ne h 710 (by decide) dL_told_677 hF (fun hF => ?_) (fun hF => ?_)
                      · refine j_aload_n h 1 rfl rfl dL_told_680 ?_
                        obtain ⟨r_25, hr_25, hF⟩ := bind_row hF
                        refine j_callVd h (st := []) (S' := S) (c_X6_met X.l X.D X.cI X.cZ X.cV (hQ.1 S.2) S.1 hr_25) rfl rfl q3_83 cw_X6_met hQ.o rfl rfl rfl ⟨rfl, rfl, Nat.le_of_ble_eq_true rfl, Nat.le_of_ble_eq_true rfl⟩ _ rfl (Nat.le_of_ble_eq_true rfl) dL_told_681 ?_
                        refine j_iload h 5 rfl dL_told_684 ?_
                        refine j_if_ne h 693 (by decide) dL_told_686 hF (fun hF => ?_) (fun hF => ?_)
                        · refine j_dconst1 h dL_told_689 ?_
                          refine j_goto h 702 (by decide) dL_told_690 ?_
                          exact j_sub [] rfl (k_L_told_702 h hQ hnL hE hF)
                        · refine j_iload h 4 rfl dL_told_693 ?_
                          refine j_i2d h dL_told_695 ?_
                          refine j_dconst1 h dL_told_696 ?_
                          obtain ⟨hb_26, hF⟩ := bnd_row hF
                          refine j_dmul h (n64_v hb_26) dL_told_697 ?_
                          refine j_iload h 5 rfl dL_told_698 ?_
                          refine j_i2d h dL_told_700 ?_
                          obtain ⟨hb_27, hF⟩ := bnd_row hF
                          refine j_ddiv h (n64_v hb_27) dL_told_701 ?_
                          exact j_sub [] rfl (k_L_told_702 h hQ hnL hE hF)
                      · refine j_iconst h (v := 0) (by decide) dL_told_710 ?_
                        cases hF
                        exact hE _ _ dL_told_711 (isB_v (y := (0 : Int32)) (by decide))
                    · refine j_iconst h (v := 0) (by decide) dL_told_710 ?_
                      cases hF
                      exact hE _ _ dL_told_711 (isB_v (y := (0 : Int32)) (by decide))
                  · refine j_iconst h (v := 0) (by decide) dL_told_710 ?_
                    cases hF
                    exact hE _ _ dL_told_711 (isB_v (y := (0 : Int32)) (by decide))
                · refine j_iconst h (v := 0) (by decide) dL_told_710 ?_
                  cases hF
                  exact hE _ _ dL_told_711 (isB_v (y := (0 : Int32)) (by decide))
              · refine j_iconst h (v := 0) (by decide) dL_told_710 ?_
                cases hF
                exact hE _ _ dL_told_711 (isB_v (y := (0 : Int32)) (by decide))
            · refine j_iconst h (v := 0) (by decide) dL_told_710 ?_
              cases hF
              exact hE _ _ dL_told_711 (isB_v (y := (0 : Int32)) (by decide))
          · refine j_iconst h (v := 0) (by decide) dL_told_710 ?_
            cases hF
            exact hE _ _ dL_told_711 (isB_v (y := (0 : Int32)) (by decide))
        · refine j_iconst h (v := 0) (by decide) dL_told_710 ?_
          cases hF
          exact hE _ _ dL_told_711 (isB_v (y := (0 : Int32)) (by decide))
      · refine j_iconst h (v := 0) (by decide) dL_told_710 ?_
        cases hF
        exact hE _ _ dL_told_711 (isB_v (y := (0 : Int32)) (by decide))
    · refine j_aload_n h 0 rfl rfl dL_told_525 ?_
      refine j_iload h 6 rfl dL_told_526 ?_
      obtain ⟨r_28, hr_28, hF⟩ := bind_row hF
      refine j_callVi h (st := []) (S' := S) (c_X6_setting X.l X.D X.cI X.cZ X.cV (hQ.1 S.2) S.1 x9 hr_28) rfl rfl q3_71 cw_X6_setting hQ.o rfl rfl rfl ⟨rfl, rfl, Nat.le_of_ble_eq_true rfl, Nat.le_of_ble_eq_true rfl⟩ _ rfl (Nat.le_of_ble_eq_true rfl) dL_told_528 ?_
      refine j_aload_n h 1 rfl rfl dL_told_531 ?_
      refine j_iconst h (v := 4) (by decide) dL_told_532 ?_
      refine j_iload h 6 rfl dL_told_533 ?_
      refine j_iadd h dL_told_535 ?_
      obtain ⟨hb_29, hF⟩ := bnd_row hF
      refine ja_iald h (get := fun S => S.2) (put := fun S v => (S.1, v)) (hQ.2 0 (by decide)) hb_29 dL_told_536 ?_
      refine j_icmp_eq h 542 (by decide) dL_told_537 hF (fun hF => ?_) (fun hF => ?_)
      · refine j_iincL hF (fun x_30 ex_30 hF => ?_)
        refine j_iinc h hnL 6 [(9, .int x_30), (0, .ref (AD 12 7)), (1, .ref (al 0)), (5, .ref (al 4)), (6, .int x6), (7, .int x7), (8, .int x8)] rfl ex_30 (by decide) (by decide) rfl dL_told_542 ?_
        refine j_goto h 519 (by decide) dL_told_545 ?_
        exact j_sub [1, 2, 3, 4, 5, 6, 0] rfl (ih _ hF)
      · refine j_iconst h (v := 0) (by decide) dL_told_540 ?_
        cases hF
        exact hE _ _ dL_told_541 (isB_v (y := (0 : Int32)) (by decide))
set_option maxHeartbeats 4000000 in
set_option maxRecDepth 100000 in
theorem k_L_told_486 {X : JX LQ} {AD : Nat → Nat → Nat} {al : Nat → Nat} (h : OK X RL cL_told rmL_told) (hQ : IsLP X.cI X.cZ X.cV X.B AD al) (hnL : X.nL = 13) {res : Int32} {S : LQ} {x6 : Int32} {x7 : Int32} {x8 : Int32} (hE : EXz X cL_told res S) : ∀ (n : Nat) (x9 : Int32), f_L_told_486 S x6 x7 x8 n x9 = some res → J X 486 [(0, .ref (AD 12 7)), (1, .ref (al 0)), (5, .ref (al 4)), (6, .int x6), (7, .int x7), (8, .int x8), (9, .int x9)] [] S := by
  intro n
  induction n with
  | zero =>
    intro x9 hF
    rw [f_L_told_486] at hF
    cases hF
  | succ n ih =>
    intro x9 hF
    rw [f_L_told_486] at hF
    refine j_iload h 6 rfl dL_told_486 ?_
    refine j_iconst h (v := 5) (by decide) dL_told_488 ?_
    refine j_icmp_ge h 516 (by decide) dL_told_489 hF (fun hF => ?_) (fun hF => ?_)
    · refine j_iconst h (v := 0) (by decide) dL_told_516 ?_
      refine j_istore h hnL [(9, .int (0 : Int32)), (0, .ref (AD 12 7)), (1, .ref (al 0)), (5, .ref (al 4)), (6, .int x6), (7, .int x7), (8, .int x8)] (by decide) rfl dL_told_517 ?_
      exact j_sub [1, 2, 3, 4, 5, 6, 0] rfl (k_L_told_519 h hQ hnL hE fuel _ hF)
    · refine j_aload_n h 0 rfl rfl dL_told_492 ?_
      refine j_iload h 6 rfl dL_told_493 ?_
      obtain ⟨r_31, hr_31, hF⟩ := bind_row hF
      refine j_callVi h (st := []) (S' := S) (c_X6_account X.l X.D X.cI X.cZ X.cV (hQ.1 S.2) S.1 x9 hr_31) rfl rfl q3_63 cw_X6_account hQ.o rfl rfl rfl ⟨rfl, rfl, Nat.le_of_ble_eq_true rfl, Nat.le_of_ble_eq_true rfl⟩ _ rfl (Nat.le_of_ble_eq_true rfl) dL_told_495 ?_
      refine j_aload_n h 1 rfl rfl dL_told_498 ?_
      refine j_bipush h (v := 8) (by decide) dL_told_499 ?_
      refine j_iload h 6 rfl dL_told_501 ?_
      refine j_iadd h dL_told_503 ?_
      obtain ⟨hb_32, hF⟩ := bnd_row hF
      refine ja_iald h (get := fun S => S.2) (put := fun S v => (S.1, v)) (hQ.2 0 (by decide)) hb_32 dL_told_504 ?_
      refine j_icmp_eq h 510 (by decide) dL_told_505 hF (fun hF => ?_) (fun hF => ?_)
      · refine j_iincL hF (fun x_33 ex_33 hF => ?_)
        refine j_iinc h hnL 6 [(9, .int x_33), (0, .ref (AD 12 7)), (1, .ref (al 0)), (5, .ref (al 4)), (6, .int x6), (7, .int x7), (8, .int x8)] rfl ex_33 (by decide) (by decide) rfl dL_told_510 ?_
        refine j_goto h 486 (by decide) dL_told_513 ?_
        exact j_sub [1, 2, 3, 4, 5, 6, 0] rfl (ih _ hF)
      · refine j_iconst h (v := 0) (by decide) dL_told_508 ?_
        cases hF
        exact hE _ _ dL_told_509 (isB_v (y := (0 : Int32)) (by decide))
set_option maxHeartbeats 4000000 in
set_option maxRecDepth 100000 in
theorem k_L_told_391 {X : JX LQ} {AD : Nat → Nat → Nat} {al : Nat → Nat} (h : OK X RL cL_told rmL_told) (hQ : IsLP X.cI X.cZ X.cV X.B AD al) (hnL : X.nL = 13) {res : Int32} {S : LQ} {x6 : Int32} {x7 : Int32} {x8 : Int32} {x9 : Int32} {x10 : Int32} {x11 : Int32} {x12 : Int32} {K354 : Int32 → Int32 → Int32 → Option (Int32)} (hK354 : ∀ (x10 : Int32) (x11 : Int32) (x12 : Int32), K354 x10 x11 x12 = some res → J X 354 [(0, .ref (AD 12 7)), (1, .ref (al 0)), (2, .ref (al 1)), (5, .ref (al 4)), (6, .int x6), (7, .int x7), (8, .int x8), (9, .int x9), (10, .int x10), (11, .int x11), (12, .int x12)] [] S) (hE : EXz X cL_told res S) (hF : f_L_told_391 K354 S x6 x7 x8 x9 x10 x11 x12 = some res) : J X 391 [(0, .ref (AD 12 7)), (1, .ref (al 0)), (2, .ref (al 1)), (5, .ref (al 4)), (6, .int x6), (7, .int x7), (8, .int x8), (9, .int x9), (10, .int x10), (11, .int x11), (12, .int x12)] [] S := by
  rw [f_L_told_391] at hF
  refine j_iincL hF (fun x_48 ex_48 hF => ?_)
  refine j_iinc h hnL 10 [(12, .int x_48), (0, .ref (AD 12 7)), (1, .ref (al 0)), (2, .ref (al 1)), (5, .ref (al 4)), (6, .int x6), (7, .int x7), (8, .int x8), (9, .int x9), (10, .int x10), (11, .int x11)] rfl ex_48 (by decide) (by decide) rfl dL_told_391 ?_
  refine j_goto h 354 (by decide) dL_told_394 ?_
  exact j_sub [1, 2, 3, 4, 5, 6, 7, 8, 9, 10, 0] rfl (hK354 _ _ _ hF)
set_option maxHeartbeats 4000000 in
set_option maxRecDepth 100000 in
theorem k_L_told_354 {X : JX LQ} {AD : Nat → Nat → Nat} {al : Nat → Nat} (h : OK X RL cL_told rmL_told) (hQ : IsLP X.cI X.cZ X.cV X.B AD al) (hnL : X.nL = 13) {res : Int32} {S : LQ} {x6 : Int32} {x7 : Int32} {x8 : Int32} {x9 : Int32} {K339 : Int32 → Option (Int32)} (hK339 : ∀ (x9 : Int32), K339 x9 = some res → J X 339 [(0, .ref (AD 12 7)), (1, .ref (al 0)), (2, .ref (al 1)), (5, .ref (al 4)), (6, .int x6), (7, .int x7), (8, .int x8), (9, .int x9)] [] S) (hE : EXz X cL_told res S) : ∀ (n : Nat) (x10 : Int32) (x11 : Int32) (x12 : Int32), f_L_told_354 K339 S x6 x7 x8 x9 n x10 x11 x12 = some res → J X 354 [(0, .ref (AD 12 7)), (1, .ref (al 0)), (2, .ref (al 1)), (5, .ref (al 4)), (6, .int x6), (7, .int x7), (8, .int x8), (9, .int x9), (10, .int x10), (11, .int x11), (12, .int x12)] [] S := by
  intro n
  induction n with
  | zero =>
    intro x10 x11 x12 hF
    rw [f_L_told_354] at hF
    cases hF
  | succ n ih =>
    intro x10 x11 x12 hF
    rw [f_L_told_354] at hF
    refine j_iload h 10 rfl dL_told_354 ?_
    refine j_aload_n h 1 rfl rfl dL_told_356 ?_
    refine j_iconst h (v := 0) (by decide) dL_told_357 ?_
    obtain ⟨hb_34, hF⟩ := bnd_row hF
    refine ja_iald h (get := fun S => S.2) (put := fun S v => (S.1, v)) (hQ.2 0 (by decide)) hb_34 dL_told_358 ?_
    refine j_icmp_ge h 397 (by decide) dL_told_359 hF (fun hF => ?_) (fun hF => ?_)
    · refine j_aload_n h 0 rfl rfl dL_told_397 ?_
      refine j_iload h 7 rfl dL_told_398 ?_
      refine j_iconst h (v := 0) (by decide) dL_told_400 ?_
      obtain ⟨r_35, hr_35, hF⟩ := bind_row hF
      refine j_callVi h (st := []) (S' := S) (c_X6_feeder X.l X.D X.cI X.cZ X.cV (hQ.1 S.2) S.1 x9 (0 : Int32) hr_35) rfl rfl q3_50 cw_X6_feeder hQ.o rfl rfl rfl ⟨rfl, rfl, Nat.le_of_ble_eq_true rfl, Nat.le_of_ble_eq_true rfl⟩ _ rfl (Nat.le_of_ble_eq_true rfl) dL_told_401 ?_
      refine j_iload h 8 rfl dL_told_404 ?_
      refine j_icmp_ne h 475 (by decide) dL_told_406 hF (fun hF => ?_) (fun hF => ?_)
      · refine j_aload_n h 0 rfl rfl dL_told_409 ?_
        refine j_iload h 7 rfl dL_told_410 ?_
        refine j_iconst h (v := 1) (by decide) dL_told_412 ?_
        obtain ⟨r_36, hr_36, hF⟩ := bind_row hF
        refine j_callVi h (st := []) (S' := S) (c_X6_feeder X.l X.D X.cI X.cZ X.cV (hQ.1 S.2) S.1 x9 (1 : Int32) hr_36) rfl rfl q3_50 cw_X6_feeder hQ.o rfl rfl rfl ⟨rfl, rfl, Nat.le_of_ble_eq_true rfl, Nat.le_of_ble_eq_true rfl⟩ _ rfl (Nat.le_of_ble_eq_true rfl) dL_told_413 ?_
        refine j_iload h 7 rfl dL_told_416 ?_
        refine j_iconst h (v := 0) (by decide) dL_told_418 ?_
        refine j_aload_n h 1 rfl rfl dL_told_419 ?_
        refine j_aload_n h 2 rfl rfl dL_told_420 ?_
        obtain ⟨r_37, hr_37, hF⟩ := bind_row hF
        refine j_callSi h (st := [.int r_36]) (S' := S) (c_L_wants X.l X.D X.cI X.cZ X.cV (hQ.2.down S.1) S.2 x9 (0 : Int32) hr_37) rfl rfl q2_174 cw_L_wants rfl ⟨rfl, rfl, Nat.le_of_ble_eq_true rfl, Nat.le_of_ble_eq_true rfl⟩ _ rfl (Nat.le_of_ble_eq_true rfl) dL_told_421 ?_
        refine j_icmp_ne h 475 (by decide) dL_told_424 hF (fun hF => ?_) (fun hF => ?_)
        · refine j_aload_n h 0 rfl rfl dL_told_427 ?_
          refine j_iload h 7 rfl dL_told_428 ?_
          refine j_iconst h (v := 2) (by decide) dL_told_430 ?_
          obtain ⟨r_38, hr_38, hF⟩ := bind_row hF
          refine j_callVi h (st := []) (S' := S) (c_X6_feeder X.l X.D X.cI X.cZ X.cV (hQ.1 S.2) S.1 x9 (2 : Int32) hr_38) rfl rfl q3_50 cw_X6_feeder hQ.o rfl rfl rfl ⟨rfl, rfl, Nat.le_of_ble_eq_true rfl, Nat.le_of_ble_eq_true rfl⟩ _ rfl (Nat.le_of_ble_eq_true rfl) dL_told_431 ?_
          refine j_iload h 9 rfl dL_told_434 ?_
          refine j_icmp_ne h 475 (by decide) dL_told_436 hF (fun hF => ?_) (fun hF => ?_)
          · refine j_aload_n h 0 rfl rfl dL_told_439 ?_
            refine j_iload h 7 rfl dL_told_440 ?_
            refine j_iconst h (v := 3) (by decide) dL_told_442 ?_
            obtain ⟨r_39, hr_39, hF⟩ := bind_row hF
            refine j_callVi h (st := []) (S' := S) (c_X6_feeder X.l X.D X.cI X.cZ X.cV (hQ.1 S.2) S.1 x9 (3 : Int32) hr_39) rfl rfl q3_50 cw_X6_feeder hQ.o rfl rfl rfl ⟨rfl, rfl, Nat.le_of_ble_eq_true rfl, Nat.le_of_ble_eq_true rfl⟩ _ rfl (Nat.le_of_ble_eq_true rfl) dL_told_443 ?_
            refine j_aload_n h 1 rfl rfl dL_told_446 ?_
            refine j_bipush h (v := 16) (by decide) dL_told_447 ?_
            refine j_iload h 7 rfl dL_told_449 ?_
            refine j_iadd h dL_told_451 ?_
            obtain ⟨hb_40, hF⟩ := bnd_row hF
            refine ja_iald h (get := fun S => S.2) (put := fun S v => (S.1, v)) (hQ.2 0 (by decide)) hb_40 dL_told_452 ?_
            refine j_icmp_ne h 475 (by decide) dL_told_453 hF (fun hF => ?_) (fun hF => ?_)
            · refine j_aload_n h 0 rfl rfl dL_told_456 ?_
              refine j_iload h 7 rfl dL_told_457 ?_
              refine j_iconst h (v := 4) (by decide) dL_told_459 ?_
              obtain ⟨r_41, hr_41, hF⟩ := bind_row hF
              refine j_callVi h (st := []) (S' := S) (c_X6_feeder X.l X.D X.cI X.cZ X.cV (hQ.1 S.2) S.1 x9 (4 : Int32) hr_41) rfl rfl q3_50 cw_X6_feeder hQ.o rfl rfl rfl ⟨rfl, rfl, Nat.le_of_ble_eq_true rfl, Nat.le_of_ble_eq_true rfl⟩ _ rfl (Nat.le_of_ble_eq_true rfl) dL_told_460 ?_
              refine j_aload_n h 1 rfl rfl dL_told_463 ?_
              refine j_bipush h (v := 19) (by decide) dL_told_464 ?_
              obtain ⟨hb_42, hF⟩ := bnd_row hF
              refine ja_iald h (get := fun S => S.2) (put := fun S v => (S.1, v)) (hQ.2 0 (by decide)) hb_42 dL_told_466 ?_
              refine j_iload h 7 rfl dL_told_467 ?_
              refine j_ishr h dL_told_469 ?_
              refine j_iconst h (v := 1) (by decide) dL_told_470 ?_
              refine j_iand h dL_told_471 ?_
              refine j_icmp_eq h 477 (by decide) dL_told_472 hF (fun hF => ?_) (fun hF => ?_)
              · refine j_iincL hF (fun x_43 ex_43 hF => ?_)
                refine j_iinc h hnL 7 [(9, .int x_43), (0, .ref (AD 12 7)), (1, .ref (al 0)), (2, .ref (al 1)), (5, .ref (al 4)), (6, .int x6), (7, .int x7), (8, .int x8), (10, .int x10), (11, .int x11), (12, .int x12)] rfl ex_43 (by decide) (by decide) rfl dL_told_477 ?_
                refine j_goto h 339 (by decide) dL_told_480 ?_
                exact j_sub [1, 2, 3, 4, 5, 6, 7, 0] rfl (hK339 _ hF)
              · refine j_iconst h (v := 0) (by decide) dL_told_475 ?_
                cases hF
                exact hE _ _ dL_told_476 (isB_v (y := (0 : Int32)) (by decide))
            · refine j_iconst h (v := 0) (by decide) dL_told_475 ?_
              cases hF
              exact hE _ _ dL_told_476 (isB_v (y := (0 : Int32)) (by decide))
          · refine j_iconst h (v := 0) (by decide) dL_told_475 ?_
            cases hF
            exact hE _ _ dL_told_476 (isB_v (y := (0 : Int32)) (by decide))
        · refine j_iconst h (v := 0) (by decide) dL_told_475 ?_
          cases hF
          exact hE _ _ dL_told_476 (isB_v (y := (0 : Int32)) (by decide))
      · refine j_iconst h (v := 0) (by decide) dL_told_475 ?_
        cases hF
        exact hE _ _ dL_told_476 (isB_v (y := (0 : Int32)) (by decide))
    · refine j_aload_n h 2 rfl rfl dL_told_362 ?_
      refine j_bipush h (v := 6) (by decide) dL_told_363 ?_
      refine j_iload h 10 rfl dL_told_365 ?_
      refine j_imul h dL_told_367 ?_
      obtain ⟨hb_44, hF⟩ := bnd_row hF
      refine ja_iald h (get := fun S => S.2) (put := fun S v => (S.1, v)) (hQ.2 1 (by decide)) hb_44 dL_told_368 ?_
      refine j_iload h 7 rfl dL_told_369 ?_
      refine j_icmp_ne h 391 (by decide) dL_told_371 hF (fun hF => ?_) (fun hF => ?_)
      · refine j_iincL hF (fun x_45 ex_45 hF => ?_)
        refine j_iinc h hnL 8 [(10, .int x_45), (0, .ref (AD 12 7)), (1, .ref (al 0)), (2, .ref (al 1)), (5, .ref (al 4)), (6, .int x6), (7, .int x7), (8, .int x8), (9, .int x9), (11, .int x11), (12, .int x12)] rfl ex_45 (by decide) (by decide) rfl dL_told_374 ?_
        refine j_iload h 9 rfl dL_told_377 ?_
        refine j_aload_n h 3 rfl rfl dL_told_379 ?_
        refine j_bipush h (v := 6) (by decide) dL_told_380 ?_
        refine j_iload h 10 rfl dL_told_382 ?_
        refine j_imul h dL_told_384 ?_
        refine j_iconst h (v := 4) (by decide) dL_told_385 ?_
        refine j_iadd h dL_told_386 ?_
        obtain ⟨hb_46, hF⟩ := bnd_row hF
        refine ja_iald h (get := fun S => S.2) (put := fun S v => (S.1, v)) (hQ.2 1 (by decide)) hb_46 dL_told_387 ?_
        refine j_iadd h dL_told_388 ?_
        refine j_let hF (fun x_47 hF => ?_)
        refine j_istore h hnL [(11, .int x_47), (10, .int x_45), (0, .ref (AD 12 7)), (1, .ref (al 0)), (2, .ref (al 1)), (5, .ref (al 4)), (6, .int x6), (7, .int x7), (8, .int x8), (9, .int x9), (12, .int x12)] (by decide) rfl dL_told_389 ?_
        exact j_sub [2, 3, 4, 5, 6, 7, 8, 9, 1, 0, 10] rfl (k_L_told_391 h hQ hnL ih hE hF)
      · exact j_sub [0, 1, 2, 3, 4, 5, 6, 7, 8, 9, 10] rfl (k_L_told_391 h hQ hnL ih hE hF)
set_option maxHeartbeats 4000000 in
set_option maxRecDepth 100000 in
theorem k_L_told_339 {X : JX LQ} {AD : Nat → Nat → Nat} {al : Nat → Nat} (h : OK X RL cL_told rmL_told) (hQ : IsLP X.cI X.cZ X.cV X.B AD al) (hnL : X.nL = 13) {res : Int32} {S : LQ} {x6 : Int32} {x7 : Int32} {x8 : Int32} (hE : EXz X cL_told res S) : ∀ (n : Nat) (x9 : Int32), f_L_told_339 S x6 x7 x8 n x9 = some res → J X 339 [(0, .ref (AD 12 7)), (1, .ref (al 0)), (2, .ref (al 1)), (5, .ref (al 4)), (6, .int x6), (7, .int x7), (8, .int x8), (9, .int x9)] [] S := by
  intro n
  induction n with
  | zero =>
    intro x9 hF
    rw [f_L_told_339] at hF
    cases hF
  | succ n ih =>
    intro x9 hF
    rw [f_L_told_339] at hF
    refine j_iload h 7 rfl dL_told_339 ?_
    refine j_iconst h (v := 3) (by decide) dL_told_341 ?_
    refine j_icmp_ge h 483 (by decide) dL_told_342 hF (fun hF => ?_) (fun hF => ?_)
    · refine j_iconst h (v := 0) (by decide) dL_told_483 ?_
      refine j_istore h hnL [(9, .int (0 : Int32)), (0, .ref (AD 12 7)), (1, .ref (al 0)), (2, .ref (al 1)), (5, .ref (al 4)), (6, .int x6), (7, .int x7), (8, .int x8)] (by decide) rfl dL_told_484 ?_
      exact j_sub [1, 2, 4, 5, 6, 7, 0] rfl (k_L_told_486 h hQ hnL hE fuel _ hF)
    · refine j_iconst h (v := 0) (by decide) dL_told_345 ?_
      refine j_istore h hnL [(10, .int (0 : Int32)), (0, .ref (AD 12 7)), (1, .ref (al 0)), (2, .ref (al 1)), (5, .ref (al 4)), (6, .int x6), (7, .int x7), (8, .int x8), (9, .int x9)] (by decide) rfl dL_told_346 ?_
      refine j_iconst h (v := 0) (by decide) dL_told_348 ?_
      refine j_istore h hnL [(11, .int (0 : Int32)), (10, .int (0 : Int32)), (0, .ref (AD 12 7)), (1, .ref (al 0)), (2, .ref (al 1)), (5, .ref (al 4)), (6, .int x6), (7, .int x7), (8, .int x8), (9, .int x9)] (by decide) rfl dL_told_349 ?_
      refine j_iconst h (v := 0) (by decide) dL_told_351 ?_
      refine j_istore h hnL [(12, .int (0 : Int32)), (11, .int (0 : Int32)), (10, .int (0 : Int32)), (0, .ref (AD 12 7)), (1, .ref (al 0)), (2, .ref (al 1)), (5, .ref (al 4)), (6, .int x6), (7, .int x7), (8, .int x8), (9, .int x9)] (by decide) rfl dL_told_352 ?_
      exact j_sub [3, 4, 5, 6, 7, 8, 9, 10, 2, 1, 0] rfl (k_L_told_354 h hQ hnL ih hE fuel _ _ _ hF)
set_option maxHeartbeats 4000000 in
set_option maxRecDepth 100000 in
theorem k_L_told_276 {X : JX LQ} {AD : Nat → Nat → Nat} {al : Nat → Nat} (h : OK X RL cL_told rmL_told) (hQ : IsLP X.cI X.cZ X.cV X.B AD al) (hnL : X.nL = 13) {res : Int32} {S : LQ} {x6 : Int32} {x7 : Int32} {x8 : Int32} {x9 : Int32} {K267 : Int32 → Option (Int32)} (hK267 : ∀ (x9 : Int32), K267 x9 = some res → J X 267 [(0, .ref (AD 12 7)), (1, .ref (al 0)), (2, .ref (al 1)), (5, .ref (al 4)), (6, .int x6), (7, .int x7), (8, .int x8), (9, .int x9)] [] S) (hE : EXz X cL_told res S) : ∀ (n : Nat) (x10 : Int32), f_L_told_276 K267 S x6 x7 x8 x9 n x10 = some res → J X 276 [(0, .ref (AD 12 7)), (1, .ref (al 0)), (2, .ref (al 1)), (5, .ref (al 4)), (6, .int x6), (7, .int x7), (8, .int x8), (9, .int x9), (10, .int x10)] [] S := by
  intro n
  induction n with
  | zero =>
    intro x10 hF
    rw [f_L_told_276] at hF
    cases hF
  | succ n ih =>
    intro x10 hF
    rw [f_L_told_276] at hF
    refine j_iload h 8 rfl dL_told_276 ?_
    refine j_iconst h (v := 4) (by decide) dL_told_278 ?_
    refine j_icmp_ge h 311 (by decide) dL_told_279 hF (fun hF => ?_) (fun hF => ?_)
    · refine j_aload_n h 0 rfl rfl dL_told_311 ?_
      refine j_iload h 7 rfl dL_told_312 ?_
      refine j_iconst h (v := 4) (by decide) dL_told_314 ?_
      obtain ⟨r_49, hr_49, hF⟩ := bind_row hF
      refine j_callVi h (st := []) (S' := S) (c_X6_battery X.l X.D X.cI X.cZ X.cV (hQ.1 S.2) S.1 x9 (4 : Int32) hr_49) rfl rfl q3_46 cw_X6_battery hQ.o rfl rfl rfl ⟨rfl, rfl, Nat.le_of_ble_eq_true rfl, Nat.le_of_ble_eq_true rfl⟩ _ rfl (Nat.le_of_ble_eq_true rfl) dL_told_315 ?_
      refine j_iload h 7 rfl dL_told_318 ?_
      refine j_aload h 3 rfl dL_told_320 ?_
      obtain ⟨r_50, hr_50, hF⟩ := bind_row hF
      refine j_callSi h (st := [.int r_49]) (S' := S) (c_L_give X.l X.D X.cI X.cZ X.cV (hQ.2.down S.1) S.2 x9 hr_50) rfl rfl q2_171 cw_L_give rfl ⟨rfl, rfl, Nat.le_of_ble_eq_true rfl, Nat.le_of_ble_eq_true rfl⟩ _ rfl (Nat.le_of_ble_eq_true rfl) dL_told_322 ?_
      refine j_icmp_eq h 330 (by decide) dL_told_325 hF (fun hF => ?_) (fun hF => ?_)
      · refine j_iincL hF (fun x_51 ex_51 hF => ?_)
        refine j_iinc h hnL 7 [(9, .int x_51), (0, .ref (AD 12 7)), (1, .ref (al 0)), (2, .ref (al 1)), (5, .ref (al 4)), (6, .int x6), (7, .int x7), (8, .int x8), (10, .int x10)] rfl ex_51 (by decide) (by decide) rfl dL_told_330 ?_
        refine j_goto h 267 (by decide) dL_told_333 ?_
        exact j_sub [1, 2, 3, 4, 5, 6, 7, 0] rfl (hK267 _ hF)
      · refine j_iconst h (v := 0) (by decide) dL_told_328 ?_
        cases hF
        exact hE _ _ dL_told_329 (isB_v (y := (0 : Int32)) (by decide))
    · refine j_aload_n h 0 rfl rfl dL_told_282 ?_
      refine j_iload h 7 rfl dL_told_283 ?_
      refine j_iload h 8 rfl dL_told_285 ?_
      obtain ⟨r_52, hr_52, hF⟩ := bind_row hF
      refine j_callVi h (st := []) (S' := S) (c_X6_battery X.l X.D X.cI X.cZ X.cV (hQ.1 S.2) S.1 x9 x10 hr_52) rfl rfl q3_46 cw_X6_battery hQ.o rfl rfl rfl ⟨rfl, rfl, Nat.le_of_ble_eq_true rfl, Nat.le_of_ble_eq_true rfl⟩ _ rfl (Nat.le_of_ble_eq_true rfl) dL_told_287 ?_
      refine j_aload h 3 rfl dL_told_290 ?_
      refine j_iconst h (v := 4) (by decide) dL_told_292 ?_
      refine j_iload h 7 rfl dL_told_293 ?_
      refine j_imul h dL_told_295 ?_
      refine j_iload h 8 rfl dL_told_296 ?_
      refine j_iadd h dL_told_298 ?_
      obtain ⟨hb_53, hF⟩ := bnd_row hF
      refine ja_iald h (get := fun S => S.2) (put := fun S v => (S.1, v)) (hQ.2 4 (by decide)) hb_53 dL_told_299 ?_
      refine j_icmp_eq h 305 (by decide) dL_told_300 hF (fun hF => ?_) (fun hF => ?_)
      · refine j_iincL hF (fun x_54 ex_54 hF => ?_)
        refine j_iinc h hnL 8 [(10, .int x_54), (0, .ref (AD 12 7)), (1, .ref (al 0)), (2, .ref (al 1)), (5, .ref (al 4)), (6, .int x6), (7, .int x7), (8, .int x8), (9, .int x9)] rfl ex_54 (by decide) (by decide) rfl dL_told_305 ?_
        refine j_goto h 276 (by decide) dL_told_308 ?_
        exact j_sub [1, 2, 3, 4, 5, 6, 7, 8, 0] rfl (ih _ hF)
      · refine j_iconst h (v := 0) (by decide) dL_told_303 ?_
        cases hF
        exact hE _ _ dL_told_304 (isB_v (y := (0 : Int32)) (by decide))
set_option maxHeartbeats 4000000 in
set_option maxRecDepth 100000 in
theorem k_L_told_267 {X : JX LQ} {AD : Nat → Nat → Nat} {al : Nat → Nat} (h : OK X RL cL_told rmL_told) (hQ : IsLP X.cI X.cZ X.cV X.B AD al) (hnL : X.nL = 13) {res : Int32} {S : LQ} {x6 : Int32} {x7 : Int32} {x8 : Int32} (hE : EXz X cL_told res S) : ∀ (n : Nat) (x9 : Int32), f_L_told_267 S x6 x7 x8 n x9 = some res → J X 267 [(0, .ref (AD 12 7)), (1, .ref (al 0)), (2, .ref (al 1)), (5, .ref (al 4)), (6, .int x6), (7, .int x7), (8, .int x8), (9, .int x9)] [] S := by
  intro n
  induction n with
  | zero =>
    intro x9 hF
    rw [f_L_told_267] at hF
    cases hF
  | succ n ih =>
    intro x9 hF
    rw [f_L_told_267] at hF
    refine j_iload h 7 rfl dL_told_267 ?_
    refine j_iconst h (v := 2) (by decide) dL_told_269 ?_
    refine j_icmp_ge h 336 (by decide) dL_told_270 hF (fun hF => ?_) (fun hF => ?_)
    · refine j_iconst h (v := 0) (by decide) dL_told_336 ?_
      refine j_istore h hnL [(9, .int (0 : Int32)), (0, .ref (AD 12 7)), (1, .ref (al 0)), (2, .ref (al 1)), (5, .ref (al 4)), (6, .int x6), (7, .int x7), (8, .int x8)] (by decide) rfl dL_told_337 ?_
      exact j_sub [1, 2, 3, 4, 5, 6, 7, 0] rfl (k_L_told_339 h hQ hnL hE fuel _ hF)
    · refine j_iconst h (v := 0) (by decide) dL_told_273 ?_
      refine j_istore h hnL [(10, .int (0 : Int32)), (0, .ref (AD 12 7)), (1, .ref (al 0)), (2, .ref (al 1)), (5, .ref (al 4)), (6, .int x6), (7, .int x7), (8, .int x8), (9, .int x9)] (by decide) rfl dL_told_274 ?_
      exact j_sub [1, 2, 3, 4, 5, 6, 7, 8, 0] rfl (k_L_told_276 h hQ hnL ih hE fuel _ hF)
set_option maxHeartbeats 4000000 in
set_option maxRecDepth 100000 in
theorem k_L_told_223 {X : JX LQ} {AD : Nat → Nat → Nat} {al : Nat → Nat} (h : OK X RL cL_told rmL_told) (hQ : IsLP X.cI X.cZ X.cV X.B AD al) (hnL : X.nL = 13) {res : Int32} {S : LQ} {x6 : Int32} {x7 : Int32} {x8 : Int32} {x9 : Int32} {K212 : Int32 → Option (Int32)} (hK212 : ∀ (x9 : Int32), K212 x9 = some res → J X 212 [(0, .ref (AD 12 7)), (1, .ref (al 0)), (2, .ref (al 1)), (4, .ref (al 3)), (5, .ref (al 4)), (6, .int x6), (7, .int x7), (8, .int x8), (9, .int x9)] [] S) (hE : EXz X cL_told res S) : ∀ (n : Nat) (x10 : Int32), f_L_told_223 K212 S x6 x7 x8 x9 n x10 = some res → J X 223 [(0, .ref (AD 12 7)), (1, .ref (al 0)), (2, .ref (al 1)), (4, .ref (al 3)), (5, .ref (al 4)), (6, .int x6), (7, .int x7), (8, .int x8), (9, .int x9), (10, .int x10)] [] S := by
  intro n
  induction n with
  | zero =>
    intro x10 hF
    rw [f_L_told_223] at hF
    cases hF
  | succ n ih =>
    intro x10 hF
    rw [f_L_told_223] at hF
    refine j_iload h 9 rfl dL_told_223 ?_
    refine j_iconst h (v := 3) (by decide) dL_told_225 ?_
    refine j_icmp_ge h 258 (by decide) dL_told_226 hF (fun hF => ?_) (fun hF => ?_)
    · refine j_iincL hF (fun x_55 ex_55 hF => ?_)
      refine j_iinc h hnL 8 [(9, .int x_55), (0, .ref (AD 12 7)), (1, .ref (al 0)), (2, .ref (al 1)), (4, .ref (al 3)), (5, .ref (al 4)), (6, .int x6), (7, .int x7), (8, .int x8), (10, .int x10)] rfl ex_55 (by decide) (by decide) rfl dL_told_258 ?_
      refine j_goto h 212 (by decide) dL_told_261 ?_
      exact j_sub [1, 2, 3, 4, 5, 6, 7, 8, 0] rfl (hK212 _ hF)
    · refine j_aload_n h 0 rfl rfl dL_told_229 ?_
      refine j_iload h 8 rfl dL_told_230 ?_
      refine j_iload h 9 rfl dL_told_232 ?_
      obtain ⟨r_56, hr_56, hF⟩ := bind_row hF
      refine j_callVi h (st := []) (S' := S) (c_X6_loan X.l X.D X.cI X.cZ X.cV (hQ.1 S.2) S.1 x9 x10 hr_56) rfl rfl q3_34 cw_X6_loan hQ.o rfl rfl rfl ⟨rfl, rfl, Nat.le_of_ble_eq_true rfl, Nat.le_of_ble_eq_true rfl⟩ _ rfl (Nat.le_of_ble_eq_true rfl) dL_told_234 ?_
      refine j_aload h 3 rfl dL_told_237 ?_
      refine j_iconst h (v := 3) (by decide) dL_told_239 ?_
      refine j_iload h 8 rfl dL_told_240 ?_
      refine j_imul h dL_told_242 ?_
      refine j_iload h 9 rfl dL_told_243 ?_
      refine j_iadd h dL_told_245 ?_
      obtain ⟨hb_57, hF⟩ := bnd_row hF
      refine ja_iald h (get := fun S => S.2) (put := fun S v => (S.1, v)) (hQ.2 3 (by decide)) hb_57 dL_told_246 ?_
      refine j_icmp_eq h 252 (by decide) dL_told_247 hF (fun hF => ?_) (fun hF => ?_)
      · refine j_iincL hF (fun x_58 ex_58 hF => ?_)
        refine j_iinc h hnL 9 [(10, .int x_58), (0, .ref (AD 12 7)), (1, .ref (al 0)), (2, .ref (al 1)), (4, .ref (al 3)), (5, .ref (al 4)), (6, .int x6), (7, .int x7), (8, .int x8), (9, .int x9)] rfl ex_58 (by decide) (by decide) rfl dL_told_252 ?_
        refine j_goto h 223 (by decide) dL_told_255 ?_
        exact j_sub [1, 2, 3, 4, 5, 6, 7, 8, 9, 0] rfl (ih _ hF)
      · refine j_iconst h (v := 0) (by decide) dL_told_250 ?_
        cases hF
        exact hE _ _ dL_told_251 (isB_v (y := (0 : Int32)) (by decide))
set_option maxHeartbeats 4000000 in
set_option maxRecDepth 100000 in
theorem k_L_told_212 {X : JX LQ} {AD : Nat → Nat → Nat} {al : Nat → Nat} (h : OK X RL cL_told rmL_told) (hQ : IsLP X.cI X.cZ X.cV X.B AD al) (hnL : X.nL = 13) {res : Int32} {S : LQ} {x6 : Int32} {x7 : Int32} {x8 : Int32} (hE : EXz X cL_told res S) : ∀ (n : Nat) (x9 : Int32), f_L_told_212 S x6 x7 x8 n x9 = some res → J X 212 [(0, .ref (AD 12 7)), (1, .ref (al 0)), (2, .ref (al 1)), (4, .ref (al 3)), (5, .ref (al 4)), (6, .int x6), (7, .int x7), (8, .int x8), (9, .int x9)] [] S := by
  intro n
  induction n with
  | zero =>
    intro x9 hF
    rw [f_L_told_212] at hF
    cases hF
  | succ n ih =>
    intro x9 hF
    rw [f_L_told_212] at hF
    refine j_iload h 8 rfl dL_told_212 ?_
    refine j_aload_n h 1 rfl rfl dL_told_214 ?_
    refine j_iconst h (v := 1) (by decide) dL_told_215 ?_
    obtain ⟨hb_2, hF⟩ := bnd_row hF
    refine ja_iald h (get := fun S => S.2) (put := fun S v => (S.1, v)) (hQ.2 0 (by decide)) hb_2 dL_told_216 ?_
    refine j_icmp_ge h 264 (by decide) dL_told_217 hF (fun hF => ?_) (fun hF => ?_)
    · refine j_iconst h (v := 0) (by decide) dL_told_264 ?_
      refine j_istore h hnL [(9, .int (0 : Int32)), (0, .ref (AD 12 7)), (1, .ref (al 0)), (2, .ref (al 1)), (4, .ref (al 3)), (5, .ref (al 4)), (6, .int x6), (7, .int x7), (8, .int x8)] (by decide) rfl dL_told_265 ?_
      exact j_sub [1, 2, 3, 5, 6, 7, 8, 0] rfl (k_L_told_267 h hQ hnL hE fuel _ hF)
    · refine j_iconst h (v := 0) (by decide) dL_told_220 ?_
      refine j_istore h hnL [(10, .int (0 : Int32)), (0, .ref (AD 12 7)), (1, .ref (al 0)), (2, .ref (al 1)), (4, .ref (al 3)), (5, .ref (al 4)), (6, .int x6), (7, .int x7), (8, .int x8), (9, .int x9)] (by decide) rfl dL_told_221 ?_
      exact j_sub [1, 2, 3, 4, 5, 6, 7, 8, 9, 0] rfl (k_L_told_223 h hQ hnL ih hE fuel _ hF)
set_option maxHeartbeats 4000000 in
set_option maxRecDepth 100000 in
theorem k_L_told_203 {X : JX LQ} {AD : Nat → Nat → Nat} {al : Nat → Nat} (h : OK X RL cL_told rmL_told) (hQ : IsLP X.cI X.cZ X.cV X.B AD al) (hnL : X.nL = 13) {res : Int32} {S : LQ} {x6 : Int32} {x7 : Int32} {x8 : Int32} {x9 : Int32} {K12 : Int32 → Int32 → Int32 → Int32 → Option (Int32)} (hK12 : ∀ (x6 : Int32) (x7 : Int32) (x8 : Int32) (x9 : Int32), K12 x6 x7 x8 x9 = some res → J X 12 [(0, .ref (AD 12 7)), (1, .ref (al 0)), (2, .ref (al 1)), (3, .ref (al 2)), (4, .ref (al 3)), (5, .ref (al 4)), (6, .int x6), (7, .int x7), (8, .int x8), (9, .int x9)] [] S) (hE : EXz X cL_told res S) (hF : f_L_told_203 K12 S x6 x7 x8 x9 = some res) : J X 203 [(0, .ref (AD 12 7)), (1, .ref (al 0)), (2, .ref (al 1)), (3, .ref (al 2)), (4, .ref (al 3)), (5, .ref (al 4)), (6, .int x6), (7, .int x7), (8, .int x8), (9, .int x9)] [] S := by
  rw [f_L_told_203] at hF
  refine j_iincL hF (fun x_77 ex_77 hF => ?_)
  refine j_iinc h hnL 9 [(9, .int x_77), (0, .ref (AD 12 7)), (1, .ref (al 0)), (2, .ref (al 1)), (3, .ref (al 2)), (4, .ref (al 3)), (5, .ref (al 4)), (6, .int x6), (7, .int x7), (8, .int x8)] rfl ex_77 (by decide) (by decide) rfl dL_told_203 ?_
  refine j_goto h 12 (by decide) dL_told_206 ?_
  exact j_sub [1, 2, 3, 4, 5, 6, 7, 8, 9, 0] rfl (hK12 _ _ _ _ hF)
set_option maxHeartbeats 4000000 in
set_option maxRecDepth 100000 in
theorem k_L_told_30 {X : JX LQ} {AD : Nat → Nat → Nat} {al : Nat → Nat} (h : OK X RL cL_told rmL_told) (hQ : IsLP X.cI X.cZ X.cV X.B AD al) (hnL : X.nL = 13) {res : Int32} {S : LQ} {x6 : Int32} {x7 : Int32} {x8 : Int32} {x9 : Int32} {x10 : Int32} {K12 : Int32 → Int32 → Int32 → Int32 → Option (Int32)} (hK12 : ∀ (x6 : Int32) (x7 : Int32) (x8 : Int32) (x9 : Int32), K12 x6 x7 x8 x9 = some res → J X 12 [(0, .ref (AD 12 7)), (1, .ref (al 0)), (2, .ref (al 1)), (3, .ref (al 2)), (4, .ref (al 3)), (5, .ref (al 4)), (6, .int x6), (7, .int x7), (8, .int x8), (9, .int x9)] [] S) (hE : EXz X cL_told res S) : ∀ (n : Nat) (x11 : Int32), f_L_told_30 K12 S x6 x7 x8 x9 x10 n x11 = some res → J X 30 [(0, .ref (AD 12 7)), (1, .ref (al 0)), (2, .ref (al 1)), (3, .ref (al 2)), (4, .ref (al 3)), (5, .ref (al 4)), (6, .int x6), (7, .int x7), (8, .int x8), (9, .int x9), (10, .int x10), (11, .int x11)] [] S := by
  intro n
  induction n with
  | zero =>
    intro x11 hF
    rw [f_L_told_30] at hF
    cases hF
  | succ n ih =>
    intro x11 hF
    rw [f_L_told_30] at hF
    refine j_iload h 11 rfl dL_told_30 ?_
    refine j_iconst h (v := 5) (by decide) dL_told_32 ?_
    refine j_icmp_ge h 62 (by decide) dL_told_33 hF (fun hF => ?_) (fun hF => ?_)
    · refine j_aload_n h 0 rfl rfl dL_told_62 ?_
      refine j_iload h 9 rfl dL_told_63 ?_
      refine j_iconst h (v := 5) (by decide) dL_told_65 ?_
      obtain ⟨r_60, hr_60, hF⟩ := bind_row hF
      refine j_callVi h (st := []) (S' := S) (c_X6_house X.l X.D X.cI X.cZ X.cV (hQ.1 S.2) S.1 x9 (5 : Int32) hr_60) rfl rfl q3_24 cw_X6_house hQ.o rfl rfl rfl ⟨rfl, rfl, Nat.le_of_ble_eq_true rfl, Nat.le_of_ble_eq_true rfl⟩ _ rfl (Nat.le_of_ble_eq_true rfl) dL_told_66 ?_
      refine j_iload h 9 rfl dL_told_69 ?_
      refine j_aload_n h 1 rfl rfl dL_told_71 ?_
      refine j_aload_n h 2 rfl rfl dL_told_72 ?_
      obtain ⟨r_61, hr_61, hF⟩ := bind_row hF
      refine j_callSi h (st := [.int r_60]) (S' := S) (c_L_draw X.l X.D X.cI X.cZ X.cV (hQ.2.down S.1) S.2 x9 hr_61) rfl rfl q2_177 cw_L_draw rfl ⟨rfl, rfl, Nat.le_of_ble_eq_true rfl, Nat.le_of_ble_eq_true rfl⟩ _ rfl (Nat.le_of_ble_eq_true rfl) dL_told_73 ?_
      refine j_icmp_ne h 169 (by decide) dL_told_76 hF (fun hF => ?_) (fun hF => ?_)
      · refine j_aload_n h 0 rfl rfl dL_told_79 ?_
        refine j_iload h 9 rfl dL_told_80 ?_
        refine j_bipush h (v := 6) (by decide) dL_told_82 ?_
        obtain ⟨r_62, hr_62, hF⟩ := bind_row hF
        refine j_callVi h (st := []) (S' := S) (c_X6_house X.l X.D X.cI X.cZ X.cV (hQ.1 S.2) S.1 x9 (6 : Int32) hr_62) rfl rfl q3_24 cw_X6_house hQ.o rfl rfl rfl ⟨rfl, rfl, Nat.le_of_ble_eq_true rfl, Nat.le_of_ble_eq_true rfl⟩ _ rfl (Nat.le_of_ble_eq_true rfl) dL_told_84 ?_
        refine j_aload_n h 3 rfl rfl dL_told_87 ?_
        refine j_iload h 9 rfl dL_told_88 ?_
        obtain ⟨hb_63, hF⟩ := bnd_row hF
        refine ja_iald h (get := fun S => S.2) (put := fun S v => (S.1, v)) (hQ.2 2 (by decide)) hb_63 dL_told_90 ?_
        refine j_icmp_ne h 169 (by decide) dL_told_91 hF (fun hF => ?_) (fun hF => ?_)
        · refine j_aload_n h 0 rfl rfl dL_told_94 ?_
          refine j_iload h 9 rfl dL_told_95 ?_
          refine j_bipush h (v := 7) (by decide) dL_told_97 ?_
          obtain ⟨r_64, hr_64, hF⟩ := bind_row hF
          refine j_callVi h (st := []) (S' := S) (c_X6_house X.l X.D X.cI X.cZ X.cV (hQ.1 S.2) S.1 x9 (7 : Int32) hr_64) rfl rfl q3_24 cw_X6_house hQ.o rfl rfl rfl ⟨rfl, rfl, Nat.le_of_ble_eq_true rfl, Nat.le_of_ble_eq_true rfl⟩ _ rfl (Nat.le_of_ble_eq_true rfl) dL_told_99 ?_
          refine j_aload_n h 3 rfl rfl dL_told_102 ?_
          refine j_bipush h (v := 8) (by decide) dL_told_103 ?_
          refine j_iload h 9 rfl dL_told_105 ?_
          refine j_iadd h dL_told_107 ?_
          obtain ⟨hb_65, hF⟩ := bnd_row hF
          refine ja_iald h (get := fun S => S.2) (put := fun S v => (S.1, v)) (hQ.2 2 (by decide)) hb_65 dL_told_108 ?_
          refine j_icmp_ne h 169 (by decide) dL_told_109 hF (fun hF => ?_) (fun hF => ?_)
          · refine j_aload_n h 0 rfl rfl dL_told_112 ?_
            refine j_iload h 9 rfl dL_told_113 ?_
            refine j_bipush h (v := 8) (by decide) dL_told_115 ?_
            obtain ⟨r_66, hr_66, hF⟩ := bind_row hF
            refine j_callVi h (st := []) (S' := S) (c_X6_house X.l X.D X.cI X.cZ X.cV (hQ.1 S.2) S.1 x9 (8 : Int32) hr_66) rfl rfl q3_24 cw_X6_house hQ.o rfl rfl rfl ⟨rfl, rfl, Nat.le_of_ble_eq_true rfl, Nat.le_of_ble_eq_true rfl⟩ _ rfl (Nat.le_of_ble_eq_true rfl) dL_told_117 ?_
            refine j_aload_n h 2 rfl rfl dL_told_120 ?_
            refine j_iload h 10 rfl dL_told_121 ?_
            refine j_iconst h (v := 5) (by decide) dL_told_123 ?_
            refine j_iadd h dL_told_124 ?_
            obtain ⟨hb_67, hF⟩ := bnd_row hF
            refine ja_iald h (get := fun S => S.2) (put := fun S v => (S.1, v)) (hQ.2 1 (by decide)) hb_67 dL_told_125 ?_
            refine j_icmp_ne h 169 (by decide) dL_told_126 hF (fun hF => ?_) (fun hF => ?_)
            · refine j_aload_n h 0 rfl rfl dL_told_129 ?_
              refine j_iload h 9 rfl dL_told_130 ?_
              refine j_bipush h (v := 9) (by decide) dL_told_132 ?_
              obtain ⟨r_68, hr_68, hF⟩ := bind_row hF
              refine j_callVi h (st := []) (S' := S) (c_X6_house X.l X.D X.cI X.cZ X.cV (hQ.1 S.2) S.1 x9 (9 : Int32) hr_68) rfl rfl q3_24 cw_X6_house hQ.o rfl rfl rfl ⟨rfl, rfl, Nat.le_of_ble_eq_true rfl, Nat.le_of_ble_eq_true rfl⟩ _ rfl (Nat.le_of_ble_eq_true rfl) dL_told_134 ?_
              refine j_iload h 9 rfl dL_told_137 ?_
              refine j_iconst h (v := 1) (by decide) dL_told_139 ?_
              refine j_aload_n h 1 rfl rfl dL_told_140 ?_
              refine j_aload h 4 rfl dL_told_141 ?_
              obtain ⟨r_69, hr_69, hF⟩ := bind_row hF
              refine j_callSi h (st := [.int r_68]) (S' := S) (c_L_owes X.l X.D X.cI X.cZ X.cV (hQ.2.down S.1) S.2 x9 (1 : Int32) hr_69) rfl rfl q2_108 cw_L_owes rfl ⟨rfl, rfl, Nat.le_of_ble_eq_true rfl, Nat.le_of_ble_eq_true rfl⟩ _ rfl (Nat.le_of_ble_eq_true rfl) dL_told_143 ?_
              refine j_icmp_ne h 169 (by decide) dL_told_146 hF (fun hF => ?_) (fun hF => ?_)
              · refine j_aload_n h 0 rfl rfl dL_told_149 ?_
                refine j_iload h 9 rfl dL_told_150 ?_
                refine j_bipush h (v := 10) (by decide) dL_told_152 ?_
                obtain ⟨r_70, hr_70, hF⟩ := bind_row hF
                refine j_callVi h (st := []) (S' := S) (c_X6_house X.l X.D X.cI X.cZ X.cV (hQ.1 S.2) S.1 x9 (10 : Int32) hr_70) rfl rfl q3_24 cw_X6_house hQ.o rfl rfl rfl ⟨rfl, rfl, Nat.le_of_ble_eq_true rfl, Nat.le_of_ble_eq_true rfl⟩ _ rfl (Nat.le_of_ble_eq_true rfl) dL_told_154 ?_
                refine j_iload h 9 rfl dL_told_157 ?_
                refine j_iconst h (v := 0) (by decide) dL_told_159 ?_
                refine j_aload_n h 1 rfl rfl dL_told_160 ?_
                refine j_aload h 4 rfl dL_told_161 ?_
                obtain ⟨r_71, hr_71, hF⟩ := bind_row hF
                refine j_callSi h (st := [.int r_70]) (S' := S) (c_L_owes X.l X.D X.cI X.cZ X.cV (hQ.2.down S.1) S.2 x9 (0 : Int32) hr_71) rfl rfl q2_108 cw_L_owes rfl ⟨rfl, rfl, Nat.le_of_ble_eq_true rfl, Nat.le_of_ble_eq_true rfl⟩ _ rfl (Nat.le_of_ble_eq_true rfl) dL_told_163 ?_
                refine j_icmp_eq h 171 (by decide) dL_told_166 hF (fun hF => ?_) (fun hF => ?_)
                · refine j_iload h 6 rfl dL_told_171 ?_
                  refine j_aload_n h 3 rfl rfl dL_told_173 ?_
                  refine j_iload h 9 rfl dL_told_174 ?_
                  obtain ⟨hb_72, hF⟩ := bnd_row hF
                  refine ja_iald h (get := fun S => S.2) (put := fun S v => (S.1, v)) (hQ.2 2 (by decide)) hb_72 dL_told_176 ?_
                  refine j_iadd h dL_told_177 ?_
                  refine j_let hF (fun x_73 hF => ?_)
                  refine j_istore h hnL [(6, .int x_73), (0, .ref (AD 12 7)), (1, .ref (al 0)), (2, .ref (al 1)), (3, .ref (al 2)), (4, .ref (al 3)), (5, .ref (al 4)), (7, .int x7), (8, .int x8), (9, .int x9), (10, .int x10), (11, .int x11)] (by decide) rfl dL_told_178 ?_
                  refine j_iload h 7 rfl dL_told_180 ?_
                  refine j_aload_n h 3 rfl rfl dL_told_182 ?_
                  refine j_iload h 10 rfl dL_told_183 ?_
                  refine j_iconst h (v := 1) (by decide) dL_told_185 ?_
                  refine j_iadd h dL_told_186 ?_
                  obtain ⟨hb_74, hF⟩ := bnd_row hF
                  refine ja_iald h (get := fun S => S.2) (put := fun S v => (S.1, v)) (hQ.2 1 (by decide)) hb_74 dL_told_187 ?_
                  refine j_iadd h dL_told_188 ?_
                  refine j_let hF (fun x_75 hF => ?_)
                  refine j_istore h hnL [(7, .int x_75), (6, .int x_73), (0, .ref (AD 12 7)), (1, .ref (al 0)), (2, .ref (al 1)), (3, .ref (al 2)), (4, .ref (al 3)), (5, .ref (al 4)), (8, .int x8), (9, .int x9), (10, .int x10), (11, .int x11)] (by decide) rfl dL_told_189 ?_
                  refine j_aload_n h 4 rfl rfl dL_told_191 ?_
                  refine j_iload h 10 rfl dL_told_192 ?_
                  refine j_iconst h (v := 4) (by decide) dL_told_194 ?_
                  refine j_iadd h dL_told_195 ?_
                  obtain ⟨hb_76, hF⟩ := bnd_row hF
                  refine ja_iald h (get := fun S => S.2) (put := fun S v => (S.1, v)) (hQ.2 1 (by decide)) hb_76 dL_told_196 ?_
                  refine j_if_ge h 203 (by decide) dL_told_197 hF (fun hF => ?_) (fun hF => ?_)
                  · exact j_sub [2, 3, 4, 5, 6, 7, 1, 0, 8, 9] rfl (k_L_told_203 h hQ hnL hK12 hE hF)
                  · refine j_iincL hF (fun x_78 ex_78 hF => ?_)
                    refine j_iinc h hnL 8 [(8, .int x_78), (7, .int x_75), (6, .int x_73), (0, .ref (AD 12 7)), (1, .ref (al 0)), (2, .ref (al 1)), (3, .ref (al 2)), (4, .ref (al 3)), (5, .ref (al 4)), (9, .int x9), (10, .int x10), (11, .int x11)] rfl ex_78 (by decide) (by decide) rfl dL_told_200 ?_
                    exact j_sub [3, 4, 5, 6, 7, 8, 2, 1, 0, 9] rfl (k_L_told_203 h hQ hnL hK12 hE hF)
                · refine j_iconst h (v := 0) (by decide) dL_told_169 ?_
                  cases hF
                  exact hE _ _ dL_told_170 (isB_v (y := (0 : Int32)) (by decide))
              · refine j_iconst h (v := 0) (by decide) dL_told_169 ?_
                cases hF
                exact hE _ _ dL_told_170 (isB_v (y := (0 : Int32)) (by decide))
            · refine j_iconst h (v := 0) (by decide) dL_told_169 ?_
              cases hF
              exact hE _ _ dL_told_170 (isB_v (y := (0 : Int32)) (by decide))
          · refine j_iconst h (v := 0) (by decide) dL_told_169 ?_
            cases hF
            exact hE _ _ dL_told_170 (isB_v (y := (0 : Int32)) (by decide))
        · refine j_iconst h (v := 0) (by decide) dL_told_169 ?_
          cases hF
          exact hE _ _ dL_told_170 (isB_v (y := (0 : Int32)) (by decide))
      · refine j_iconst h (v := 0) (by decide) dL_told_169 ?_
        cases hF
        exact hE _ _ dL_told_170 (isB_v (y := (0 : Int32)) (by decide))
    · refine j_aload_n h 0 rfl rfl dL_told_36 ?_
      refine j_iload h 9 rfl dL_told_37 ?_
      refine j_iload h 11 rfl dL_told_39 ?_
      obtain ⟨r_79, hr_79, hF⟩ := bind_row hF
      refine j_callVi h (st := []) (S' := S) (c_X6_house X.l X.D X.cI X.cZ X.cV (hQ.1 S.2) S.1 x9 x11 hr_79) rfl rfl q3_24 cw_X6_house hQ.o rfl rfl rfl ⟨rfl, rfl, Nat.le_of_ble_eq_true rfl, Nat.le_of_ble_eq_true rfl⟩ _ rfl (Nat.le_of_ble_eq_true rfl) dL_told_41 ?_
      refine j_aload_n h 2 rfl rfl dL_told_44 ?_
      refine j_iload h 10 rfl dL_told_45 ?_
      refine j_iload h 11 rfl dL_told_47 ?_
      refine j_iadd h dL_told_49 ?_
      obtain ⟨hb_80, hF⟩ := bnd_row hF
      refine ja_iald h (get := fun S => S.2) (put := fun S v => (S.1, v)) (hQ.2 1 (by decide)) hb_80 dL_told_50 ?_
      refine j_icmp_eq h 56 (by decide) dL_told_51 hF (fun hF => ?_) (fun hF => ?_)
      · refine j_iincL hF (fun x_81 ex_81 hF => ?_)
        refine j_iinc h hnL 11 [(11, .int x_81), (0, .ref (AD 12 7)), (1, .ref (al 0)), (2, .ref (al 1)), (3, .ref (al 2)), (4, .ref (al 3)), (5, .ref (al 4)), (6, .int x6), (7, .int x7), (8, .int x8), (9, .int x9), (10, .int x10)] rfl ex_81 (by decide) (by decide) rfl dL_told_56 ?_
        refine j_goto h 30 (by decide) dL_told_59 ?_
        exact j_sub [1, 2, 3, 4, 5, 6, 7, 8, 9, 10, 11, 0] rfl (ih _ hF)
      · refine j_iconst h (v := 0) (by decide) dL_told_54 ?_
        cases hF
        exact hE _ _ dL_told_55 (isB_v (y := (0 : Int32)) (by decide))
set_option maxHeartbeats 4000000 in
set_option maxRecDepth 100000 in
theorem k_L_told_12 {X : JX LQ} {AD : Nat → Nat → Nat} {al : Nat → Nat} (h : OK X RL cL_told rmL_told) (hQ : IsLP X.cI X.cZ X.cV X.B AD al) (hnL : X.nL = 13) {res : Int32} {S : LQ} (hE : EXz X cL_told res S) : ∀ (n : Nat) (x6 : Int32) (x7 : Int32) (x8 : Int32) (x9 : Int32), f_L_told_12 S n x6 x7 x8 x9 = some res → J X 12 [(0, .ref (AD 12 7)), (1, .ref (al 0)), (2, .ref (al 1)), (3, .ref (al 2)), (4, .ref (al 3)), (5, .ref (al 4)), (6, .int x6), (7, .int x7), (8, .int x8), (9, .int x9)] [] S := by
  intro n
  induction n with
  | zero =>
    intro x6 x7 x8 x9 hF
    rw [f_L_told_12] at hF
    cases hF
  | succ n ih =>
    intro x6 x7 x8 x9 hF
    rw [f_L_told_12] at hF
    refine j_iload h 9 rfl dL_told_12 ?_
    refine j_aload_n h 1 rfl rfl dL_told_14 ?_
    refine j_iconst h (v := 0) (by decide) dL_told_15 ?_
    obtain ⟨hb_1, hF⟩ := bnd_row hF
    refine ja_iald h (get := fun S => S.2) (put := fun S v => (S.1, v)) (hQ.2 0 (by decide)) hb_1 dL_told_16 ?_
    refine j_icmp_ge h 209 (by decide) dL_told_17 hF (fun hF => ?_) (fun hF => ?_)
    · refine j_iconst h (v := 0) (by decide) dL_told_209 ?_
      refine j_istore h hnL [(9, .int (0 : Int32)), (0, .ref (AD 12 7)), (1, .ref (al 0)), (2, .ref (al 1)), (3, .ref (al 2)), (4, .ref (al 3)), (5, .ref (al 4)), (6, .int x6), (7, .int x7), (8, .int x8)] (by decide) rfl dL_told_210 ?_
      exact j_sub [1, 2, 3, 5, 6, 7, 8, 9, 0] rfl (k_L_told_212 h hQ hnL hE fuel _ hF)
    · refine j_bipush h (v := 6) (by decide) dL_told_20 ?_
      refine j_iload h 9 rfl dL_told_22 ?_
      refine j_imul h dL_told_24 ?_
      refine j_let hF (fun x_59 hF => ?_)
      refine j_istore h hnL [(10, .int x_59), (0, .ref (AD 12 7)), (1, .ref (al 0)), (2, .ref (al 1)), (3, .ref (al 2)), (4, .ref (al 3)), (5, .ref (al 4)), (6, .int x6), (7, .int x7), (8, .int x8), (9, .int x9)] (by decide) rfl dL_told_25 ?_
      refine j_iconst h (v := 0) (by decide) dL_told_27 ?_
      refine j_istore h hnL [(11, .int (0 : Int32)), (10, .int x_59), (0, .ref (AD 12 7)), (1, .ref (al 0)), (2, .ref (al 1)), (3, .ref (al 2)), (4, .ref (al 3)), (5, .ref (al 4)), (6, .int x6), (7, .int x7), (8, .int x8), (9, .int x9)] (by decide) rfl dL_told_28 ?_
      exact j_sub [2, 3, 4, 5, 6, 7, 8, 9, 10, 11, 1, 0] rfl (k_L_told_30 h hQ hnL ih hE fuel _ hF)
set_option maxHeartbeats 4000000 in
set_option maxRecDepth 100000 in
theorem k_L_told {X : JX LQ} {AD : Nat → Nat → Nat} {al : Nat → Nat} (h : OK X RL cL_told rmL_told) (hQ : IsLP X.cI X.cZ X.cV X.B AD al) (hnL : X.nL = 13) {res : Int32} {S : LQ} (hE : EXz X cL_told res S) (hF : f_L_told S = some res) : J X 0 [(0, .ref (AD 12 7)), (1, .ref (al 0)), (2, .ref (al 1)), (3, .ref (al 2)), (4, .ref (al 3)), (5, .ref (al 4))] [] S := by
  rw [f_L_told] at hF
  refine j_iconst h (v := 0) (by decide) dL_told_0 ?_
  refine j_istore h hnL [(6, .int (0 : Int32)), (0, .ref (AD 12 7)), (1, .ref (al 0)), (2, .ref (al 1)), (3, .ref (al 2)), (4, .ref (al 3)), (5, .ref (al 4))] (by decide) rfl dL_told_1 ?_
  refine j_iconst h (v := 0) (by decide) dL_told_3 ?_
  refine j_istore h hnL [(7, .int (0 : Int32)), (6, .int (0 : Int32)), (0, .ref (AD 12 7)), (1, .ref (al 0)), (2, .ref (al 1)), (3, .ref (al 2)), (4, .ref (al 3)), (5, .ref (al 4))] (by decide) rfl dL_told_4 ?_
  refine j_iconst h (v := 0) (by decide) dL_told_6 ?_
  refine j_istore h hnL [(8, .int (0 : Int32)), (7, .int (0 : Int32)), (6, .int (0 : Int32)), (0, .ref (AD 12 7)), (1, .ref (al 0)), (2, .ref (al 1)), (3, .ref (al 2)), (4, .ref (al 3)), (5, .ref (al 4))] (by decide) rfl dL_told_7 ?_
  refine j_iconst h (v := 0) (by decide) dL_told_9 ?_
  refine j_istore h hnL [(9, .int (0 : Int32)), (8, .int (0 : Int32)), (7, .int (0 : Int32)), (6, .int (0 : Int32)), (0, .ref (AD 12 7)), (1, .ref (al 0)), (2, .ref (al 1)), (3, .ref (al 2)), (4, .ref (al 3)), (5, .ref (al 4))] (by decide) rfl dL_told_10 ?_
  exact j_sub [4, 5, 6, 7, 8, 9, 3, 2, 1, 0] rfl (k_L_told_12 h hQ hnL hE fuel _ _ _ _ hF)
theorem c_L_told (l : Launch) (D : va_G) (cI cZ cV : ClassId) {B : LQ → va_W} {AD : Nat → Nat → Nat} {al : Nat → Nat} (hQ : IsLP cI cZ cV B AD al) (S : LQ) {r : Int32} (hF : f_L_told S = some r) : CTz l D (jtys cI cZ cV) yL_told cL_told 13 (some .boolean) rmL_told B [.ref (AD 12 7), .ref (al 0), .ref (al 1), .ref (al 2), .ref (al 3), .ref (al 4)] S r S := by
  refine CTz.of [(0, .ref (AD 12 7)), (1, .ref (al 0)), (2, .ref (al 1)), (3, .ref (al 2)), (4, .ref (al 3)), (5, .ref (al 4))] rfl (Nat.le_of_ble_eq_true rfl) (by decide) ⟨rfl, rfl⟩ (fun X e1 e2 e3 e4 e5 e6 e7 h hE => ?_)
  subst e1; subst e2; subst e3; subst e4; subst e5; subst e6
  exact k_L_told h hQ e7 hE hF
abbrev rmL_law : Room := room_1
set_option maxHeartbeats 4000000 in
set_option maxRecDepth 100000 in
theorem k_L_law_228 {X : JX LQ} {AD : Nat → Nat → Nat} {al : Nat → Nat} {b : Nat} {t : Nat → Nat} {sc : Nat × (Nat → Int32)} (h : OK X RL cL_law rmL_law) (hQ : IsLP X.cI X.cZ X.cV X.B AD al) (hSt : Stat t X.A X.s X.s.heap) (hSc : Scr b sc.1 sc.2 X.A X.s X.s.heap) (hnL : X.nL = 13) {res : Int32 × LQ} {S : LQ} {x8 : Int32} {s0 : Int32} {K70 : Int32 → LQ → Option (Int32 × LQ)} (hK70 : ∀ (x8 : Int32) (S : LQ), K70 x8 S = some res → J X 70 [(0, .ref b), (1, .ref (AD 12 7)), (2, .ref (al 0)), (3, .ref (al 1)), (4, .ref (al 2)), (5, .ref (al 3)), (6, .ref (al 4)), (7, .ref (al 5)), (8, .int x8)] [] S) (hE : EXz X cL_law res.1 res.2) (hF : f_L_law_228 K70 sc S x8 s0 = some res) : J X 228 [(0, .ref b), (1, .ref (AD 12 7)), (2, .ref (al 0)), (3, .ref (al 1)), (4, .ref (al 2)), (5, .ref (al 3)), (6, .ref (al 4)), (7, .ref (al 5)), (8, .int x8)] [.int s0] S := by
  rw [f_L_law_228] at hF
  refine j_istore h hnL [(12, .int s0), (0, .ref b), (1, .ref (AD 12 7)), (2, .ref (al 0)), (3, .ref (al 1)), (4, .ref (al 2)), (5, .ref (al 3)), (6, .ref (al 4)), (7, .ref (al 5)), (8, .int x8)] (by decide) rfl dL_law_228 ?_
  refine j_iload h 0 rfl dL_law_230 ?_
  refine j_if_eq h 250 (by decide) dL_law_232 hF (fun hF => ?_) (fun hF => ?_)
  · refine j_iconst h (v := 0) (by decide) dL_law_250 ?_
    cases hF
    exact hE _ _ dL_law_251 (isB_v (y := (0 : Int32)) (by decide))
  · refine j_aload_n h 2 rfl rfl dL_law_235 ?_
    refine j_aload_n h 3 rfl rfl dL_law_236 ?_
    refine j_aload_n h 4 rfl rfl dL_law_237 ?_
    refine j_aload h 5 rfl dL_law_238 ?_
    refine j_aload h 6 rfl dL_law_240 ?_
    refine j_aload h 7 rfl dL_law_242 ?_
    obtain ⟨r_8, hr_8, hF⟩ := bind_row hF
    refine j_callSz h (st := []) (S' := S) (c_L_told X.l X.D X.cI X.cZ X.cV hQ S hr_8) rfl rfl q3_21 cw_L_told rfl ⟨rfl, rfl, Nat.le_of_ble_eq_true rfl, Nat.le_of_ble_eq_true rfl⟩ _ rfl (Nat.le_of_ble_eq_true rfl) dL_law_244 (fun hz_r_8 => ?_)
    refine j_if_ne h 252 (by decide) dL_law_247 hF (fun hF => ?_) (fun hF => ?_)
    · refine j_iconst h (v := 0) (by decide) dL_law_250 ?_
      cases hF
      exact hE _ _ dL_law_251 (isB_v (y := (0 : Int32)) (by decide))
    · refine j_iincL hF (fun x_9 ex_9 hF => ?_)
      refine j_iinc h hnL 9 [(8, .int x_9), (12, .int s0), (0, .ref b), (1, .ref (AD 12 7)), (2, .ref (al 0)), (3, .ref (al 1)), (4, .ref (al 2)), (5, .ref (al 3)), (6, .ref (al 4)), (7, .ref (al 5))] rfl ex_9 (by decide) (by decide) rfl dL_law_252 ?_
      refine j_goto h 70 (by decide) dL_law_255 ?_
      exact j_sub [2, 3, 4, 5, 6, 7, 8, 9, 0] rfl (hK70 _ _ hF)
set_option maxHeartbeats 4000000 in
set_option maxRecDepth 100000 in
theorem k_L_law_133 {X : JX LQ} {AD : Nat → Nat → Nat} {al : Nat → Nat} {b : Nat} {t : Nat → Nat} {sc : Nat × (Nat → Int32)} (h : OK X RL cL_law rmL_law) (hQ : IsLP X.cI X.cZ X.cV X.B AD al) (hSt : Stat t X.A X.s X.s.heap) (hSc : Scr b sc.1 sc.2 X.A X.s X.s.heap) (hnL : X.nL = 13) {res : Int32 × LQ} {S : LQ} {x8 : Int32} {x9 : Int32} {x10 : Int32} {K70 : Int32 → LQ → Option (Int32 × LQ)} (hK70 : ∀ (x8 : Int32) (S : LQ), K70 x8 S = some res → J X 70 [(0, .ref b), (1, .ref (AD 12 7)), (2, .ref (al 0)), (3, .ref (al 1)), (4, .ref (al 2)), (5, .ref (al 3)), (6, .ref (al 4)), (7, .ref (al 5)), (8, .int x8)] [] S) (hE : EXz X cL_law res.1 res.2) (hF : f_L_law_133 K70 sc S x8 x9 x10 = some res) : J X 133 [(0, .ref b), (1, .ref (AD 12 7)), (2, .ref (al 0)), (3, .ref (al 1)), (4, .ref (al 2)), (5, .ref (al 3)), (6, .ref (al 4)), (7, .ref (al 5)), (8, .int x8), (9, .int x9), (10, .int x10)] [] S := by
  rw [f_L_law_133] at hF
  refine j_aload_n h 1 rfl rfl dL_law_133 ?_
  refine j_iload h 9 rfl dL_law_134 ?_
  refine j_iload h 10 rfl dL_law_136 ?_
  refine j_aload_n h 2 rfl rfl dL_law_138 ?_
  refine j_aload_n h 3 rfl rfl dL_law_139 ?_
  refine j_aload h 4 rfl dL_law_140 ?_
  obtain ⟨r_7, hr_7, hF⟩ := bind_row hF
  refine j_callSz h (st := []) (S' := r_7.2) (c_L_house X.l X.D X.cI X.cZ X.cV hQ S x9 x10 hr_7) rfl rfl q1_229 cw_L_house rfl ⟨rfl, rfl, Nat.le_of_ble_eq_true rfl, Nat.le_of_ble_eq_true rfl⟩ _ rfl (Nat.le_of_ble_eq_true rfl) dL_law_142 (fun hz_r_7 => ?_)
  refine j_goto h 228 (by decide) dL_law_145 ?_
  exact j_sub [0, 1, 2, 3, 4, 5, 6, 7, 8] rfl (k_L_law_228 h hQ hSt hSc hnL hK70 hE hF)
set_option maxHeartbeats 4000000 in
set_option maxRecDepth 100000 in
theorem k_L_law_119 {X : JX LQ} {AD : Nat → Nat → Nat} {al : Nat → Nat} {b : Nat} {t : Nat → Nat} {sc : Nat × (Nat → Int32)} (h : OK X RL cL_law rmL_law) (hQ : IsLP X.cI X.cZ X.cV X.B AD al) (hSt : Stat t X.A X.s X.s.heap) (hSc : Scr b sc.1 sc.2 X.A X.s X.s.heap) (hnL : X.nL = 13) {res : Int32 × LQ} {S : LQ} {x8 : Int32} {x9 : Int32} {x10 : Int32} {s0 : Int32} {K70 : Int32 → LQ → Option (Int32 × LQ)} (hK70 : ∀ (x8 : Int32) (S : LQ), K70 x8 S = some res → J X 70 [(0, .ref b), (1, .ref (AD 12 7)), (2, .ref (al 0)), (3, .ref (al 1)), (4, .ref (al 2)), (5, .ref (al 3)), (6, .ref (al 4)), (7, .ref (al 5)), (8, .int x8)] [] S) (hE : EXz X cL_law res.1 res.2) (hF : f_L_law_119 K70 sc S x8 x9 x10 s0 = some res) : J X 119 [(0, .ref b), (1, .ref (AD 12 7)), (2, .ref (al 0)), (3, .ref (al 1)), (4, .ref (al 2)), (5, .ref (al 3)), (6, .ref (al 4)), (7, .ref (al 5)), (8, .int x8), (9, .int x9), (10, .int x10)] [.int s0] S := by
  rw [f_L_law_119] at hF
  refine j_istore h hnL [(11, .int s0), (0, .ref b), (1, .ref (AD 12 7)), (2, .ref (al 0)), (3, .ref (al 1)), (4, .ref (al 2)), (5, .ref (al 3)), (6, .ref (al 4)), (7, .ref (al 5)), (8, .int x8), (9, .int x9), (10, .int x10)] (by decide) rfl dL_law_119 ?_
  refine j_iload h 0 rfl dL_law_121 ?_
  refine j_iconst h (v := 2) (by decide) dL_law_123 ?_
  refine j_icmp_lt h 133 (by decide) dL_law_124 hF (fun hF => ?_) (fun hF => ?_)
  · exact j_sub [1, 2, 3, 4, 5, 6, 7, 8, 9, 10, 11] rfl (k_L_law_133 h hQ hSt hSc hnL hK70 hE hF)
  · refine j_aload_n h 3 rfl rfl dL_law_127 ?_
    refine j_iconst h (v := 0) (by decide) dL_law_128 ?_
    obtain ⟨hb_10, hF⟩ := bnd_row hF
    refine ja_iald h (get := fun S => S.2) (put := fun S v => (S.1, v)) (hQ.2 0 (by decide)) hb_10 dL_law_129 ?_
    refine j_if_ne h 148 (by decide) dL_law_130 hF (fun hF => ?_) (fun hF => ?_)
    · exact j_sub [1, 2, 3, 4, 5, 6, 7, 8, 9, 10, 11] rfl (k_L_law_133 h hQ hSt hSc hnL hK70 hE hF)
    · refine j_iload h 0 rfl dL_law_148 ?_
      refine j_bipush h (v := 6) (by decide) dL_law_150 ?_
      refine j_icmp_ge h 170 (by decide) dL_law_152 hF (fun hF => ?_) (fun hF => ?_)
      · refine j_iload h 0 rfl dL_law_170 ?_
        refine j_bipush h (v := 9) (by decide) dL_law_172 ?_
        refine j_icmp_ge h 192 (by decide) dL_law_174 hF (fun hF => ?_) (fun hF => ?_)
        · refine j_iload h 0 rfl dL_law_192 ?_
          refine j_bipush h (v := 12) (by decide) dL_law_194 ?_
          refine j_icmp_ge h 214 (by decide) dL_law_196 hF (fun hF => ?_) (fun hF => ?_)
          · refine j_aload_n h 2 rfl rfl dL_law_214 ?_
            refine j_iload h 11 rfl dL_law_215 ?_
            refine j_aload_n h 3 rfl rfl dL_law_217 ?_
            refine j_aload_n h 4 rfl rfl dL_law_218 ?_
            refine j_aload h 5 rfl dL_law_219 ?_
            refine j_aload h 7 rfl dL_law_221 ?_
            refine j_aload h 8 rfl dL_law_223 ?_
            obtain ⟨r_11, hr_11, hF⟩ := bind_row hF
            refine j_callSz h (st := []) (S' := r_11.2) (c_L_run X.l X.D X.cI X.cZ X.cV hQ S x10 hr_11) rfl rfl q2_165 cw_L_run rfl ⟨rfl, rfl, Nat.le_of_ble_eq_true rfl, Nat.le_of_ble_eq_true rfl⟩ _ rfl (Nat.le_of_ble_eq_true rfl) dL_law_225 (fun hz_r_11 => ?_)
            exact j_sub [1, 2, 3, 4, 5, 6, 7, 8, 9] rfl (k_L_law_228 h hQ hSt hSc hnL hK70 hE hF)
          · refine j_aload_n h 2 rfl rfl dL_law_199 ?_
            refine j_iload h 10 rfl dL_law_200 ?_
            refine j_iload h 11 rfl dL_law_202 ?_
            refine j_aload_n h 3 rfl rfl dL_law_204 ?_
            refine j_aload_n h 4 rfl rfl dL_law_205 ?_
            refine j_aload h 6 rfl dL_law_206 ?_
            obtain ⟨r_12, hr_12, hF⟩ := bind_row hF
            refine j_callSz h (st := []) (S' := r_12.2) (c_L_lend X.l X.D X.cI X.cZ X.cV hQ S x9 x10 hr_12) rfl rfl q2_151 cw_L_lend rfl ⟨rfl, rfl, Nat.le_of_ble_eq_true rfl, Nat.le_of_ble_eq_true rfl⟩ _ rfl (Nat.le_of_ble_eq_true rfl) dL_law_208 (fun hz_r_12 => ?_)
            refine j_goto h 228 (by decide) dL_law_211 ?_
            exact j_sub [1, 2, 3, 4, 5, 6, 7, 8, 9] rfl (k_L_law_228 h hQ hSt hSc hnL hK70 hE hF)
        · refine j_aload_n h 2 rfl rfl dL_law_177 ?_
          refine j_iload h 10 rfl dL_law_178 ?_
          refine j_iload h 11 rfl dL_law_180 ?_
          refine j_aload_n h 3 rfl rfl dL_law_182 ?_
          refine j_aload_n h 4 rfl rfl dL_law_183 ?_
          refine j_aload h 6 rfl dL_law_184 ?_
          obtain ⟨r_13, hr_13, hF⟩ := bind_row hF
          refine j_callSz h (st := []) (S' := r_13.2) (c_L_buy X.l X.D X.cI X.cZ X.cV hQ S x9 x10 hr_13) rfl rfl q2_102 cw_L_buy rfl ⟨rfl, rfl, Nat.le_of_ble_eq_true rfl, Nat.le_of_ble_eq_true rfl⟩ _ rfl (Nat.le_of_ble_eq_true rfl) dL_law_186 (fun hz_r_13 => ?_)
          refine j_goto h 228 (by decide) dL_law_189 ?_
          exact j_sub [1, 2, 3, 4, 5, 6, 7, 8, 9] rfl (k_L_law_228 h hQ hSt hSc hnL hK70 hE hF)
      · refine j_aload_n h 2 rfl rfl dL_law_155 ?_
        refine j_iload h 10 rfl dL_law_156 ?_
        refine j_iload h 11 rfl dL_law_158 ?_
        refine j_aload_n h 3 rfl rfl dL_law_160 ?_
        refine j_aload_n h 4 rfl rfl dL_law_161 ?_
        refine j_aload h 7 rfl dL_law_162 ?_
        obtain ⟨r_14, hr_14, hF⟩ := bind_row hF
        refine j_callSzs hSt h (st := []) (S' := r_14.2) (c_L_set X.l X.D X.cI X.cZ X.cV hQ S x9 x10 hr_14) rfl rfl q2_39 cw_L_set rfl ⟨rfl, rfl, Nat.le_of_ble_eq_true rfl, Nat.le_of_ble_eq_true rfl⟩ _ rfl (Nat.le_of_ble_eq_true rfl) dL_law_164 (fun hz_r_14 => ?_)
        refine j_goto h 228 (by decide) dL_law_167 ?_
        exact j_sub [1, 2, 3, 4, 5, 6, 7, 8, 9] rfl (k_L_law_228 h hQ hSt hSc hnL hK70 hE hF)
set_option maxHeartbeats 4000000 in
set_option maxRecDepth 100000 in
theorem k_L_law_70 {X : JX LQ} {AD : Nat → Nat → Nat} {al : Nat → Nat} {b : Nat} {t : Nat → Nat} {sc : Nat × (Nat → Int32)} (h : OK X RL cL_law rmL_law) (hQ : IsLP X.cI X.cZ X.cV X.B AD al) (hSt : Stat t X.A X.s X.s.heap) (hSc : Scr b sc.1 sc.2 X.A X.s X.s.heap) (hnL : X.nL = 13) {res : Int32 × LQ} (hE : EXz X cL_law res.1 res.2) : ∀ (n : Nat) (x8 : Int32) (S : LQ), f_L_law_70 sc n x8 S = some res → J X 70 [(0, .ref b), (1, .ref (AD 12 7)), (2, .ref (al 0)), (3, .ref (al 1)), (4, .ref (al 2)), (5, .ref (al 3)), (6, .ref (al 4)), (7, .ref (al 5)), (8, .int x8)] [] S := by
  intro n
  induction n with
  | zero =>
    intro x8 S hF
    rw [f_L_law_70] at hF
    cases hF
  | succ n ih =>
    intro x8 S hF
    rw [f_L_law_70] at hF
    refine j_iload h 8 rfl dL_law_70 ?_
    refine j_bipush h (v := 30) (by decide) dL_law_72 ?_
    refine j_icmp_ge h 258 (by decide) dL_law_74 hF (fun hF => ?_) (fun hF => ?_)
    · refine j_iconst h (v := 1) (by decide) dL_law_258 ?_
      cases hF
      exact hE _ _ dL_law_259 (isB_v (y := (1 : Int32)) (by decide))
    · refine j_aload_n h 0 rfl rfl dL_law_77 ?_
      refine j_iconst h (v := 2) (by decide) dL_law_78 ?_
      refine j_iload h 8 rfl dL_law_79 ?_
      refine j_imul h dL_law_81 ?_
      obtain ⟨r_4, hr_4, hF⟩ := bind_row hF
      refine j_callSix hSc h (st := []) (S' := S) (c_L_cell X.l X.D X.cI X.cZ X.cV (B := X.B) (b := b) sc S ((2 : Int32) * x8) hr_4) rfl rfl q1_219 cw_L_cell rfl ⟨rfl, rfl, Nat.le_of_ble_eq_true rfl, Nat.le_of_ble_eq_true rfl⟩ _ rfl (Nat.le_of_ble_eq_true rfl) dL_law_82 ?_
      refine j_istore h hnL [(9, .int r_4), (0, .ref b), (1, .ref (AD 12 7)), (2, .ref (al 0)), (3, .ref (al 1)), (4, .ref (al 2)), (5, .ref (al 3)), (6, .ref (al 4)), (7, .ref (al 5)), (8, .int x8)] (by decide) rfl dL_law_85 ?_
      refine j_aload_n h 1 rfl rfl dL_law_87 ?_
      refine j_iconst h (v := 2) (by decide) dL_law_88 ?_
      refine j_iload h 9 rfl dL_law_89 ?_
      refine j_imul h dL_law_91 ?_
      refine j_iconst h (v := 1) (by decide) dL_law_92 ?_
      refine j_iadd h dL_law_93 ?_
      obtain ⟨r_5, hr_5, hF⟩ := bind_row hF
      refine j_callSix hSc h (st := []) (S' := S) (c_L_cell X.l X.D X.cI X.cZ X.cV (B := X.B) (b := b) sc S (((2 : Int32) * x8) + (1 : Int32)) hr_5) rfl rfl q1_219 cw_L_cell rfl ⟨rfl, rfl, Nat.le_of_ble_eq_true rfl, Nat.le_of_ble_eq_true rfl⟩ _ rfl (Nat.le_of_ble_eq_true rfl) dL_law_94 ?_
      refine j_istore h hnL [(10, .int r_5), (9, .int r_4), (0, .ref b), (1, .ref (AD 12 7)), (2, .ref (al 0)), (3, .ref (al 1)), (4, .ref (al 2)), (5, .ref (al 3)), (6, .ref (al 4)), (7, .ref (al 5)), (8, .int x8)] (by decide) rfl dL_law_97 ?_
      refine j_iload h 10 rfl dL_law_99 ?_
      refine j_iconst h (v := 3) (by decide) dL_law_101 ?_
      refine j_icmp_ge h 109 (by decide) dL_law_102 hF (fun hF => ?_) (fun hF => ?_)
      · refine j_iload h 1 rfl dL_law_109 ?_
        refine j_bipush h (v := 22) (by decide) dL_law_111 ?_
        refine j_ishr h dL_law_113 ?_
        refine j_bipush h (v := 16) (by decide) dL_law_114 ?_
        obtain ⟨r_6, hr_6, hF⟩ := bind_row hF
        refine j_callSi h (st := []) (S' := S) (c_L_at X.l X.D X.cI X.cZ X.cV (B := X.B) S (r_4 >>> ((22 : Int32) &&& 31)) (16 : Int32) hr_6) rfl rfl q1_223 cw_L_at rfl ⟨rfl, rfl, Nat.le_of_ble_eq_true rfl, Nat.le_of_ble_eq_true rfl⟩ _ rfl (Nat.le_of_ble_eq_true rfl) dL_law_116 ?_
        exact j_sub [2, 3, 4, 5, 6, 7, 8, 9, 10, 1, 0] rfl (k_L_law_119 h hQ hSt hSc hnL ih hE hF)
      · refine j_iconst h (v := 0) (by decide) dL_law_105 ?_
        refine j_goto h 119 (by decide) dL_law_106 ?_
        exact j_sub [2, 3, 4, 5, 6, 7, 8, 9, 10, 1, 0] rfl (k_L_law_119 h hQ hSt hSc hnL ih hE hF)
set_option maxHeartbeats 4000000 in
set_option maxRecDepth 100000 in
theorem k_L_law {X : JX LQ} {AD : Nat → Nat → Nat} {al : Nat → Nat} {b : Nat} {t : Nat → Nat} {sc : Nat × (Nat → Int32)} (h : OK X RL cL_law rmL_law) (hQ : IsLP X.cI X.cZ X.cV X.B AD al) (hSt : Stat t X.A X.s X.s.heap) (hSc : Scr b sc.1 sc.2 X.A X.s X.s.heap) (hnL : X.nL = 13) {res : Int32 × LQ} {S : LQ} (hE : EXz X cL_law res.1 res.2) (hF : f_L_law sc S = some res) : J X 42 [(7, .ref (al 5)), (6, .ref (al 4)), (5, .ref (al 3)), (4, .ref (al 2)), (3, .ref (al 1)), (2, .ref (al 0)), (1, .ref (AD 12 7)), (0, .ref b)] [] S := by
  rw [f_L_law] at hF
  refine j_aload_n h 5 rfl rfl dL_law_42 ?_
  refine j_aload h 1 rfl dL_law_43 ?_
  refine j_aload h 0 rfl dL_law_45 ?_
  obtain ⟨r_1, hr_1, hF⟩ := bind_row hF
  refine j_callSv h (st := []) (S' := (S.1, r_1)) (c_L_fresh X.l X.D X.cI X.cZ X.cV (hQ.2.down S.1) S.2 hr_1) rfl rfl q1_226 cw_L_fresh rfl ⟨rfl, rfl, Nat.le_of_ble_eq_true rfl, Nat.le_of_ble_eq_true rfl⟩ _ rfl (Nat.le_of_ble_eq_true rfl) dL_law_47 ?_
  refine j_letS hF (fun S_2 hF => ?_)
  refine j_aload_n h 6 rfl rfl dL_law_50 ?_
  refine j_aload_n h 5 rfl rfl dL_law_51 ?_
  refine j_aload_n h 4 rfl rfl dL_law_52 ?_
  refine j_aload h 3 rfl dL_law_53 ?_
  refine j_aload h 2 rfl dL_law_55 ?_
  refine j_aload h 1 rfl dL_law_57 ?_
  obtain ⟨r_3, hr_3, hF⟩ := bind_row hF
  refine j_callSz h (st := []) (S' := S_2) (c_L_told X.l X.D X.cI X.cZ X.cV hQ S_2 hr_3) rfl rfl q3_21 cw_L_told rfl ⟨rfl, rfl, Nat.le_of_ble_eq_true rfl, Nat.le_of_ble_eq_true rfl⟩ _ rfl (Nat.le_of_ble_eq_true rfl) dL_law_59 (fun hz_r_3 => ?_)
  refine j_if_ne h 67 (by decide) dL_law_62 hF (fun hF => ?_) (fun hF => ?_)
  · refine j_iconst h (v := 0) (by decide) dL_law_65 ?_
    cases hF
    exact hE _ _ dL_law_66 (isB_v (y := (0 : Int32)) (by decide))
  · refine j_iconst h (v := 0) (by decide) dL_law_67 ?_
    refine j_istore h hnL [(8, .int (0 : Int32)), (7, .ref (al 5)), (6, .ref (al 4)), (5, .ref (al 3)), (4, .ref (al 2)), (3, .ref (al 1)), (2, .ref (al 0)), (1, .ref (AD 12 7)), (0, .ref b)] (by decide) rfl dL_law_68 ?_
    exact j_sub [8, 7, 6, 5, 4, 3, 2, 1, 0] rfl (k_L_law_70 h hQ hSt hSc hnL hE fuel _ _ hF)
