/-! THE LAW'S CHECK -/
def FF : Prop := (Op.cmpValue (FP.dcmp FP.dconst1 FP.dconst1) .l = (0 : Int32)) ∧ ∀ a b : Nat, a ≤ 500 → 1 ≤ b → b ≤ 500 → n64 (FP.dmul (FP.i2d (nI a)) FP.dconst1) = true ∧ FP.dmul (FP.i2d (nI a)) FP.dconst1 = FP.i2d (nI a) ∧ n64 (FP.ddiv (FP.i2d (nI a)) (FP.i2d (nI b))) = true ∧ (Op.cmpValue (FP.dcmp (FP.ddiv (FP.i2d (nI a)) (FP.i2d (nI b))) (FP.ddiv (FP.i2d (nI a)) (FP.i2d (nI b)))) .l = (0 : Int32))
theorem ne10 : ¬ ((1 : Int32) = 0) := by decide
theorem t_519 (ff : FF) {n : Nat} {P : PS} {R : VS} (h : RQ n (P, R)) : f_L_told_519 (P, R) (smF (P.1 0 5) 0 (hsz (P.1 0)) 0) (smF (P.1 0 1) 0 (hsz (P.1 0)) 0) (smF (ngF (P.1 0)) 0 (hsz (P.1 0)) 0) fuel 0 = some 1 := by
  have hv : VL (P.1 0) R := h.1
  have s : SM (P.1 0) := h.2.1
  have g : G (P.1 0) := h.2.2.1
  have bal : BAL (P.1 0) := h.2.2.2.2.2.1
  have h8 := s.1
  obtain ⟨c0, c1, c2, c4, c7⟩ := k_count g.1
  obtain ⟨m, hm⟩ : ∃ m, fuel = m + 1 + 1 + 1 + 1 + 1 := ⟨99995, rfl⟩
  generalize hx6 : smF (P.1 0 5) 0 (hsz (P.1 0)) 0 = x6
  generalize hx7 : smF (P.1 0 1) 0 (hsz (P.1 0)) 0 = x7
  generalize hx8 : smF (ngF (P.1 0)) 0 (hsz (P.1 0)) 0 = x8
  have st : ∀ (q i : Nat), i < 4 → f_L_told_519 (P, R) x6 x7 x8 (q + 1) (nI i) = f_L_told_519 (P, R) x6 x7 x8 q (nI (i + 1)) := fun q i hi => by
    rw [f_L_told_519, if_neg (show ¬ (4 : Int32) ≤ nI i from nI_ge (b := 4) hi (by decide)), show f_X6_setting (P, R).1 (nI i) = some (P.1 0 17 i) from k_setting P hi, pu_some, show (4 : Int32) + nI i = nI (4 + i) from nI_add 4 i, pu_inb (by omega) (by decide), pu_bnd, show rd (P, R).2 0 (nI (4 + i)) = P.1 0 17 i from (pu_rd (by omega)).trans (rl_17 hv hi rfl), if_pos rfl, pu_let, nI_1]
  rw [hm, show (0 : Int32) = nI 0 from rfl, st _ 0 (by decide), st _ (0 + 1) (by decide), st _ (0 + 1 + 1) (by decide), st _ (0 + 1 + 1 + 1) (by decide), f_L_told_519, if_pos (by decide)]
  have ri : ∀ (r i : Nat) (I : Int32), I = nI i → i < 2 ^ 31 → rd (P, R).2 r I = R r i := fun r i I e hi => by rw [e]; exact pu_rd hi
  have b3 : R 4 3 = P.1 0 16 0 := rl_b hv (k := 3) (j := 0) (by decide) (by decide) rfl
  have b7 : R 4 7 = P.1 0 16 1 := rl_b hv (k := 3) (j := 1) (by decide) (by decide) rfl
  rw [show inb (3 : Int32) 8 = true by decide, show inb (7 : Int32) 8 = true by decide, pu_bnd, pu_bnd, pu_let, ri 4 3 3 rfl (by decide), ri 4 7 7 rfl (by decide), b3, b7, show f_X6_account (P, R).1 5 = some (P.1 0 16 0 + P.1 0 16 1) from k_account5 P, pu_some, if_pos rfl]
  rw [show f_X6_account (P, R).1 6 = some (P.1 0 18 6) from k_account P (k := 6) (by decide) (by decide), pu_some, show inb (13 : Int32) 20 = true by decide, pu_bnd, ri 0 13 13 rfl (by decide), rl_186 hv, if_pos rfl]
  rw [show f_X6_account (P, R).1 7 = some (P.1 0 18 7) from k_account P (k := 7) (by decide) (by decide), pu_some, show inb (14 : Int32) 20 = true by decide, pu_bnd, ri 0 14 14 rfl (by decide), rl_187 hv, if_pos rfl]
  rw [show inb (8 : Int32) 20 = true by decide, show inb (9 : Int32) 20 = true by decide, show inb (10 : Int32) 20 = true by decide, show inb (11 : Int32) 20 = true by decide, show inb (12 : Int32) 20 = true by decide, pu_bnd, pu_bnd, pu_bnd, pu_bnd, pu_bnd, ri 0 8 8 rfl (by decide), ri 0 9 9 rfl (by decide), ri 0 10 10 rfl (by decide), ri 0 11 11 rfl (by decide), ri 0 12 12 rfl (by decide), rl_18 hv (j := 0) (p := 8) (by decide) rfl, rl_18 hv (j := 1) (p := 9) (by decide) rfl, rl_18 hv (j := 2) (p := 10) (by decide) rfl, rl_18 hv (j := 3) (p := 11) (by decide) rfl, rl_18 hv (j := 4) (p := 12) (by decide) rfl, if_pos (show P.1 0 18 0 = P.1 0 18 1 + P.1 0 18 2 + P.1 0 18 3 + P.1 0 18 4 + (P.1 0 16 0 + P.1 0 16 1) from bal)]
  rw [show f_X6_count (P, R).1 0 = some (P.1 0 22 0) from c0, pu_some, show inb (0 : Int32) 20 = true by decide, pu_bnd, ri 0 0 0 rfl (by decide), show R 0 0 = P.1 0 22 0 from rl_22 hv (j := 0) (by decide), if_pos rfl]
  rw [show f_X6_count (P, R).1 1 = some (P.1 0 22 1) from c1, pu_some, show inb (1 : Int32) 20 = true by decide, pu_bnd, ri 0 1 1 rfl (by decide), show R 0 1 = P.1 0 22 1 from rl_22 hv (j := 1) (by decide), if_pos rfl]
  rw [show f_X6_count (P, R).1 2 = some (P.1 0 22 3) from c2, pu_some, show inb (2 : Int32) 20 = true by decide, pu_bnd, ri 0 2 2 rfl (by decide), show R 0 2 = P.1 0 22 3 from rl_22 hv (j := 3) (by decide), if_pos rfl]
  rw [show f_X6_count (P, R).1 4 = some (P.1 0 22 4) from c4, pu_some, show inb (3 : Int32) 20 = true by decide, pu_bnd, ri 0 3 3 rfl (by decide), show R 0 3 = P.1 0 22 4 from rl_22 hv (j := 4) (by decide), if_pos rfl]
  rw [show f_X6_count (P, R).1 7 = some x8 from by rw [← hx8]; exact c7, pu_some, if_pos rfl, show f_X6_met (P, R).1 = mtV (P.1 0) from sp_met g.1 g.2.1]
  unfold mtV
  rw [hx7, hx6]
  obtain ⟨D, d1, d2, _⟩ := smF_nat (f := P.1 0 1) (m := 50) (hsz (P.1 0)) 0 0 (fun j _ hj => (g.2.1 j (by omega)).2.1)
  obtain ⟨A, a1, a2, _⟩ := smF_nat (f := P.1 0 5) (m := 50) (hsz (P.1 0)) 0 0 (fun j _ hj => (g.2.1 j (by omega)).2.2.2.2.1)
  rw [Nat.zero_add] at d1 a1
  have e7 : x7 = nI D := by rw [← hx7]; exact d1
  have e6 : x6 = nI A := by rw [← hx6]; exact a1
  have hA : A ≤ 500 := by omega
  have hD : D ≤ 500 := by omega
  unfold f_L_told_702
  rw [e6, e7]
  by_cases z : D = 0
  · subst z
    rw [if_pos (show nI 0 = (0 : Int32) from rfl), pu_some, if_pos (show nI 0 = (0 : Int32) from rfl), if_pos ff.1]
  · obtain ⟨f1, f2, f3, f4⟩ := ff.2 A D hA (by omega) hD
    have hz : ¬ nI D = (0 : Int32) := nI_ne0 (by omega) (by omega)
    rw [if_neg hz, f3, pu_bnd, pu_some, if_neg hz, f1, pu_bnd, f2, f3, pu_bnd, if_pos f4]
theorem t_486 (ff : FF) {n : Nat} {P : PS} {R : VS} (h : RQ n (P, R)) : f_L_told_486 (P, R) (smF (P.1 0 5) 0 (hsz (P.1 0)) 0) (smF (P.1 0 1) 0 (hsz (P.1 0)) 0) (smF (ngF (P.1 0)) 0 (hsz (P.1 0)) 0) fuel 0 = some 1 := by
  have hv : VL (P.1 0) R := h.1
  obtain ⟨m, hm⟩ : ∃ m, fuel = m + 1 + 1 + 1 + 1 + 1 + 1 := ⟨99994, rfl⟩
  have t5 := t_519 ff h
  generalize smF (P.1 0 5) 0 (hsz (P.1 0)) 0 = x6 at t5 ⊢
  generalize smF (P.1 0 1) 0 (hsz (P.1 0)) 0 = x7 at t5 ⊢
  generalize smF (ngF (P.1 0)) 0 (hsz (P.1 0)) 0 = x8 at t5 ⊢
  have st : ∀ (q i : Nat), i < 5 → f_L_told_486 (P, R) x6 x7 x8 (q + 1) (nI i) = f_L_told_486 (P, R) x6 x7 x8 q (nI (i + 1)) := fun q i hi => by
    rw [f_L_told_486, if_neg (show ¬ (5 : Int32) ≤ nI i from nI_ge (b := 5) hi (by decide)), show f_X6_account (P, R).1 (nI i) = some (P.1 0 18 i) from k_account P (by omega) (by omega), pu_some, show (8 : Int32) + nI i = nI (8 + i) from nI_add 8 i, pu_inb (by omega) (by decide), pu_bnd, show rd (P, R).2 0 (nI (8 + i)) = P.1 0 18 i from (pu_rd (by omega)).trans (rl_18 hv hi rfl), if_pos rfl, pu_let, nI_1]
  have e : f_L_told_486 (P, R) x6 x7 x8 (m + 1 + 1 + 1 + 1 + 1 + 1) (nI 0) = some 1 := by
    rw [st _ 0 (by decide), st _ (0 + 1) (by decide), st _ (0 + 1 + 1) (by decide), st _ (0 + 1 + 1 + 1) (by decide), st _ (0 + 1 + 1 + 1 + 1) (by decide), f_L_told_486, if_pos (by decide)]
    exact t5
  rw [show f_L_told_486 (P, R) x6 x7 x8 fuel 0 = f_L_told_486 (P, R) x6 x7 x8 (m + 1 + 1 + 1 + 1 + 1 + 1) (nI 0) by rw [hm]; rfl]
  exact e
/-- one feeder -/
theorem t_354 {n : Nat} {P : PS} {R : VS} (h : RQ n (P, R)) (K : Int32 → Option Int32) (x6 x7 x8 : Int32) {f : Nat} (hf : f < 3) : f_L_told_354 K (P, R) x6 x7 x8 (nI f) fuel 0 0 0 = K (nI (f + 1)) := by
  have hv : VL (P.1 0) R := h.1
  have s : SM (P.1 0) := h.2.1
  have g : G (P.1 0) := h.2.2.1
  have h8 := s.1
  have r0 : rd R 0 (0 : Int32) = nI (hsz (P.1 0)) := (pu_rd (i := 0) (by decide)).trans (rl_0 hv g.1)
  obtain ⟨q0, q1, q2, q3, q4⟩ := k_feeder (P := P) g.1 hf
  obtain ⟨b1, b2, o1, o2⟩ := h.2.2.2.2.1
  have o1' : R 0 19 = nI (mk2 b1 b2) := o1
  have hwant : f_L_wants R (nI f) 0 = some (smF (drF (P.1 0) (nI f) (P.1 0 17 0)) 0 (hsz (P.1 0)) 0) := by
    refine (sl_wants hv s g.1 g.2.1 false false (nI f)).trans (congrArg some (smF_congr _ _ _ fun j _ hj => ?_))
    have hn : ¬ nI f < 0 := nI_pos (by omega)
    unfold drF ofF wtO
    rw [bt_ff, if_neg (show ¬ false = true by decide)]
    by_cases c : P.1 0 0 j = nI f
    · rw [if_pos (Or.inr c), if_pos c]
    · rw [if_neg (fun z => z.elim hn c), if_neg c]
  have lp : ∀ (d i m : Nat) (a b : Int32), i + d = hsz (P.1 0) → d < m → f_L_told_354 K (P, R) x6 x7 x8 (nI f) m a b (nI i) = f_L_told_354 K (P, R) x6 x7 x8 (nI f) (m - d) (smF (szF (P.1 0) (nI f)) i d a) (smF (ofF (P.1 0) (nI f) (P.1 0 4)) i d b) (nI (hsz (P.1 0))) := by
    intro d
    induction d with
    | zero =>
      intro i m a b hi hm
      obtain rfl : i = hsz (P.1 0) := by omega
      rfl
    | succ d ih =>
      intro i m a b hi hm
      obtain ⟨m, rfl⟩ : ∃ q, m = q + 1 := ⟨m - 1, by omega⟩
      have hj : i < hsz (P.1 0) := by omega
      have e0 : R 1 (6 * i) = P.1 0 0 i := rl_h hv (k := 0) (by decide) hj rfl
      have e4 : R 1 (6 * i + 4) = P.1 0 4 i := rl_h hv (k := 4) (by decide) hj rfl
      show _ = f_L_told_354 K (P, R) x6 x7 x8 (nI f) (m + 1 - (d + 1)) (smF _ (i + 1) d (a + szF (P.1 0) (nI f) i)) (smF _ (i + 1) d (b + ofF (P.1 0) (nI f) (P.1 0 4) i)) _
      rw [show m + 1 - (d + 1) = m - d by omega, ← ih (i + 1) m _ _ (by omega) (by omega), f_L_told_354, show inb (0 : Int32) 20 = true by decide, pu_bnd, show rd (P, R).2 0 (0 : Int32) = nI (hsz (P.1 0)) from r0, if_neg (nI_ge hj (by omega)), show (6 : Int32) * nI i = nI (6 * i) from pk_mul 6 i, show nI (6 * i) + (4 : Int32) = nI (6 * i + 4) from nI_add _ 4, pu_inb (by omega) (by decide), pu_inb (by omega) (by decide), pu_bnd, show rd (P, R).2 1 (nI (6 * i)) = P.1 0 0 i from (pu_rd (by omega)).trans e0, show rd (P, R).2 1 (nI (6 * i + 4)) = P.1 0 4 i from (pu_rd (by omega)).trans e4, pu_let, pu_bnd, pu_let]
      unfold f_L_told_391 szF ofF
      rw [pu_let, pu_let, nI_1]
      by_cases c : P.1 0 0 i = nI f
      · rw [if_pos c, if_pos c, if_pos c]
      · rw [if_neg c, if_neg c, if_neg c, Int32.add_zero, Int32.add_zero]
  have e := lp (hsz (P.1 0)) 0 fuel 0 0 (by omega) (fuel_gt (by omega))
  refine e.trans ?_
  obtain ⟨m, hm⟩ : ∃ m, fuel - hsz (P.1 0) = m + 1 := ⟨99999 - hsz (P.1 0), by show 100000 - hsz (P.1 0) = _; omega⟩
  have e19 : rd (P, R).2 0 (19 : Int32) = nI (mk2 b1 b2) := (pu_rd (i := 19) (by decide)).trans o1'
  have e16 : rd (P, R).2 0 (nI (16 + f)) = P.1 0 19 f := (pu_rd (by omega)).trans (rl_19 hv hf rfl)
  rw [hm, f_L_told_354, show inb (0 : Int32) 20 = true by decide, pu_bnd, show rd (P, R).2 0 (0 : Int32) = nI (hsz (P.1 0)) from r0, if_pos (nI_le (Nat.le_refl _) (by omega)), show f_X6_feeder (P, R).1 (nI f) 0 = _ from q0, pu_some, if_pos rfl, show f_X6_feeder (P, R).1 (nI f) 1 = _ from q1, pu_some, show f_L_wants (P, R).2 (nI f) 0 = _ from hwant, pu_some, if_pos rfl, show f_X6_feeder (P, R).1 (nI f) 2 = _ from q2, pu_some, if_pos rfl, show f_X6_feeder (P, R).1 (nI f) 3 = _ from q3, pu_some, show (16 : Int32) + nI f = nI (16 + f) from nI_add 16 f, pu_inb (by omega) (by decide), pu_bnd, e16, if_pos rfl, show f_X6_feeder (P, R).1 (nI f) 4 = _ from q4, pu_some, show inb (19 : Int32) 20 = true by decide, pu_bnd, e19, bt_bit b1 b2 hf, if_pos (o2 f hf), pu_let, nI_1]
theorem t_339 (ff : FF) {n : Nat} {P : PS} {R : VS} (h : RQ n (P, R)) : f_L_told_339 (P, R) (smF (P.1 0 5) 0 (hsz (P.1 0)) 0) (smF (P.1 0 1) 0 (hsz (P.1 0)) 0) (smF (ngF (P.1 0)) 0 (hsz (P.1 0)) 0) fuel 0 = some 1 := by
  obtain ⟨m, hm⟩ : ∃ m, fuel = m + 1 + 1 + 1 + 1 := ⟨99996, rfl⟩
  have t5 := t_486 ff h
  generalize smF (P.1 0 5) 0 (hsz (P.1 0)) 0 = x6 at t5 ⊢
  generalize smF (P.1 0 1) 0 (hsz (P.1 0)) 0 = x7 at t5 ⊢
  generalize smF (ngF (P.1 0)) 0 (hsz (P.1 0)) 0 = x8 at t5 ⊢
  have st : ∀ (q i : Nat), i < 3 → f_L_told_339 (P, R) x6 x7 x8 (q + 1) (nI i) = f_L_told_339 (P, R) x6 x7 x8 q (nI (i + 1)) := fun q i hi => by
    rw [f_L_told_339, if_neg (show ¬ (3 : Int32) ≤ nI i from nI_ge (b := 3) hi (by decide))]
    exact t_354 h _ x6 x7 x8 hi
  have e : f_L_told_339 (P, R) x6 x7 x8 (m + 1 + 1 + 1 + 1) (nI 0) = some 1 := by
    rw [st _ 0 (by decide), st _ (0 + 1) (by decide), st _ (0 + 1 + 1) (by decide), f_L_told_339, if_pos (by decide)]
    exact t5
  rw [show f_L_told_339 (P, R) x6 x7 x8 fuel 0 = f_L_told_339 (P, R) x6 x7 x8 (m + 1 + 1 + 1 + 1) (nI 0) by rw [hm]; rfl]
  exact e
theorem t_276 {n : Nat} {P : PS} {R : VS} (h : RQ n (P, R)) (K : Int32 → Option Int32) (x6 x7 x8 : Int32) {b : Nat} (hb : b < 2) : f_L_told_276 K (P, R) x6 x7 x8 (nI b) fuel 0 = K (nI (b + 1)) := by
  have hv : VL (P.1 0) R := h.1
  obtain ⟨m, hm⟩ : ∃ m, fuel = m + 1 + 1 + 1 + 1 + 1 := ⟨99995, rfl⟩
  have st : ∀ (q i : Nat), i < 4 → f_L_told_276 K (P, R) x6 x7 x8 (nI b) (q + 1) (nI i) = f_L_told_276 K (P, R) x6 x7 x8 (nI b) q (nI (i + 1)) := fun q i hi => by
    rw [f_L_told_276, if_neg (show ¬ (4 : Int32) ≤ nI i from nI_ge (b := 4) hi (by decide)), show f_X6_battery (P, R).1 (nI b) (nI i) = some (P.1 0 (13 + i) b) from k_battery P hb hi, pu_some, show (4 : Int32) * nI b = nI (4 * b) from pk_mul 4 b, nI_add, pu_inb (by omega) (by decide), pu_bnd, show rd (P, R).2 4 (nI (4 * b + i)) = P.1 0 (13 + i) b from (pu_rd (by omega)).trans (rl_b hv hi hb rfl), if_pos rfl, pu_let, nI_1]
  rw [show f_L_told_276 K (P, R) x6 x7 x8 (nI b) fuel 0 = f_L_told_276 K (P, R) x6 x7 x8 (nI b) (m + 1 + 1 + 1 + 1 + 1) (nI 0) by rw [hm]; rfl]
  rw [st _ 0 (by decide), st _ (0 + 1) (by decide), st _ (0 + 1 + 1) (by decide), st _ (0 + 1 + 1 + 1) (by decide), f_L_told_276, if_pos (by decide), show f_X6_battery (P, R).1 (nI b) 4 = _ from k_battery4 P hb, pu_some, show f_L_give (P, R).2 (nI b) = _ from sl_give hv hb, pu_some, if_pos rfl, pu_let, nI_1]
theorem t_267 (ff : FF) {n : Nat} {P : PS} {R : VS} (h : RQ n (P, R)) : f_L_told_267 (P, R) (smF (P.1 0 5) 0 (hsz (P.1 0)) 0) (smF (P.1 0 1) 0 (hsz (P.1 0)) 0) (smF (ngF (P.1 0)) 0 (hsz (P.1 0)) 0) fuel 0 = some 1 := by
  obtain ⟨m, hm⟩ : ∃ m, fuel = m + 1 + 1 + 1 := ⟨99997, rfl⟩
  have t5 := t_339 ff h
  generalize smF (P.1 0 5) 0 (hsz (P.1 0)) 0 = x6 at t5 ⊢
  generalize smF (P.1 0 1) 0 (hsz (P.1 0)) 0 = x7 at t5 ⊢
  generalize smF (ngF (P.1 0)) 0 (hsz (P.1 0)) 0 = x8 at t5 ⊢
  have st : ∀ (q i : Nat), i < 2 → f_L_told_267 (P, R) x6 x7 x8 (q + 1) (nI i) = f_L_told_267 (P, R) x6 x7 x8 q (nI (i + 1)) := fun q i hi => by
    rw [f_L_told_267, if_neg (show ¬ (2 : Int32) ≤ nI i from nI_ge (b := 2) hi (by decide))]
    exact t_276 h _ x6 x7 x8 hi
  have e : f_L_told_267 (P, R) x6 x7 x8 (m + 1 + 1 + 1) (nI 0) = some 1 := by
    rw [st _ 0 (by decide), st _ (0 + 1) (by decide), f_L_told_267, if_pos (by decide)]
    exact t5
  rw [show f_L_told_267 (P, R) x6 x7 x8 fuel 0 = f_L_told_267 (P, R) x6 x7 x8 (m + 1 + 1 + 1) (nI 0) by rw [hm]; rfl]
  exact e
theorem t_212 (ff : FF) {n : Nat} {P : PS} {R : VS} (h : RQ n (P, R)) : f_L_told_212 (P, R) (smF (P.1 0 5) 0 (hsz (P.1 0)) 0) (smF (P.1 0 1) 0 (hsz (P.1 0)) 0) (smF (ngF (P.1 0)) 0 (hsz (P.1 0)) 0) fuel 0 = some 1 := by
  have hv : VL (P.1 0) R := h.1
  have s : SM (P.1 0) := h.2.1
  have g : G (P.1 0) := h.2.2.1
  have h10 := s.2.1
  have r1 : rd (P, R).2 0 (1 : Int32) = nI (lsz (P.1 0)) := (pu_rd (i := 1) (by decide)).trans (rl_1 hv g.1)
  have t5 := t_267 ff h
  generalize smF (P.1 0 5) 0 (hsz (P.1 0)) 0 = x6 at t5 ⊢
  generalize smF (P.1 0 1) 0 (hsz (P.1 0)) 0 = x7 at t5 ⊢
  generalize smF (ngF (P.1 0)) 0 (hsz (P.1 0)) 0 = x8 at t5 ⊢
  have t223 : ∀ (K : Int32 → Option Int32) (j : Nat), j < lsz (P.1 0) → f_L_told_223 K (P, R) x6 x7 x8 (nI j) fuel 0 = K (nI (j + 1)) := fun K j hj => by
    obtain ⟨m, hm⟩ : ∃ m, fuel = m + 1 + 1 + 1 + 1 := ⟨99996, rfl⟩
    have st : ∀ (q i : Nat), i < 3 → f_L_told_223 K (P, R) x6 x7 x8 (nI j) (q + 1) (nI i) = f_L_told_223 K (P, R) x6 x7 x8 (nI j) q (nI (i + 1)) := fun q i hi => by
      rw [f_L_told_223, if_neg (show ¬ (3 : Int32) ≤ nI i from nI_ge (b := 3) hi (by decide)), show f_X6_loan (P, R).1 (nI j) (nI i) = some (P.1 0 (10 + i) j) from k_loan g.1 hj hi, pu_some, show (3 : Int32) * nI j = nI (3 * j) from pk_mul 3 j, nI_add, pu_inb (by omega) (by decide), pu_bnd, show rd (P, R).2 3 (nI (3 * j + i)) = P.1 0 (10 + i) j from (pu_rd (by omega)).trans (rl_l hv hi hj rfl), if_pos rfl, pu_let, nI_1]
    rw [show f_L_told_223 K (P, R) x6 x7 x8 (nI j) fuel 0 = f_L_told_223 K (P, R) x6 x7 x8 (nI j) (m + 1 + 1 + 1 + 1) (nI 0) by rw [hm]; rfl]
    rw [st _ 0 (by decide), st _ (0 + 1) (by decide), st _ (0 + 1 + 1) (by decide), f_L_told_223, if_pos (by decide), pu_let, nI_1]
  have lp : ∀ (d i m : Nat), i + d = lsz (P.1 0) → d < m → f_L_told_212 (P, R) x6 x7 x8 m (nI i) = some 1 := by
    intro d
    induction d with
    | zero =>
      intro i m hi hm
      obtain ⟨m, rfl⟩ : ∃ q, m = q + 1 := ⟨m - 1, by omega⟩
      obtain rfl : i = lsz (P.1 0) := by omega
      rw [f_L_told_212, show inb (1 : Int32) 20 = true by decide, pu_bnd, r1, if_pos (nI_le (Nat.le_refl _) (by omega))]
      exact t5
    | succ d ih =>
      intro i m hi hm
      obtain ⟨m, rfl⟩ : ∃ q, m = q + 1 := ⟨m - 1, by omega⟩
      rw [f_L_told_212, show inb (1 : Int32) 20 = true by decide, pu_bnd, r1, if_neg (nI_ge (by omega) (by omega)), t223 _ i (by omega)]
      exact ih (i + 1) m (by omega) (by omega)
  exact lp (lsz (P.1 0)) 0 fuel (by omega) (fuel_gt (by omega))
/-- one house -/
theorem t_30 {n : Nat} {P : PS} {R : VS} (h : RQ n (P, R)) (K : Int32 → Int32 → Int32 → Int32 → Option Int32) (x6 x7 x8 : Int32) {j : Nat} (hj : j < hsz (P.1 0)) : f_L_told_30 K (P, R) x6 x7 x8 (nI j) (nI (6 * j)) fuel 0 = K (x6 + P.1 0 5 j) (x7 + P.1 0 1 j) (x8 + ngF (P.1 0) j) (nI (j + 1)) := by
  have hv : VL (P.1 0) R := h.1
  have s : SM (P.1 0) := h.2.1
  have g : G (P.1 0) := h.2.2.1
  have h8 := s.1
  obtain ⟨m, hm⟩ : ∃ m, fuel = m + 1 + 1 + 1 + 1 + 1 + 1 := ⟨99994, rfl⟩
  have kh : ∀ k, k ≤ 10 → f_X6_house (P, R).1 (nI j) (nI k) = some (hsR (P.1 0) j k) := fun k hk => k_house g.1 hj hk
  have i6 : ∀ k, nI (6 * j) + nI k = nI (6 * j + k) := fun k => nI_add _ _
  have st : ∀ (q i : Nat), i < 5 → f_L_told_30 K (P, R) x6 x7 x8 (nI j) (nI (6 * j)) (q + 1) (nI i) = f_L_told_30 K (P, R) x6 x7 x8 (nI j) (nI (6 * j)) q (nI (i + 1)) := fun q i hi => by
    have e : hsR (P.1 0) j i = P.1 0 i j := by unfold hsR; rw [if_pos hi]
    rw [f_L_told_30, if_neg (show ¬ (5 : Int32) ≤ nI i from nI_ge (b := 5) hi (by decide)), kh i (by omega), pu_some, nI_add, pu_inb (by omega) (by decide), pu_bnd, show rd (P, R).2 1 (nI (6 * j + i)) = P.1 0 i j from (pu_rd (by omega)).trans (rl_h hv hi hj rfl), e, if_pos rfl, pu_let, nI_1]
  rw [show f_L_told_30 K (P, R) x6 x7 x8 (nI j) (nI (6 * j)) fuel 0 = f_L_told_30 K (P, R) x6 x7 x8 (nI j) (nI (6 * j)) (m + 1 + 1 + 1 + 1 + 1 + 1) (nI 0) by rw [hm]; rfl]
  rw [st _ 0 (by decide), st _ (0 + 1) (by decide), st _ (0 + 1 + 1) (by decide), st _ (0 + 1 + 1 + 1) (by decide), st _ (0 + 1 + 1 + 1 + 1) (by decide), f_L_told_30, if_pos (by decide)]
  have e5 : rd (P, R).2 2 (nI j) = P.1 0 5 j := (pu_rd (by omega)).trans (rl_h5 hv hj)
  have e6 : rd (P, R).2 2 (nI (8 + j)) = P.1 0 6 j := (pu_rd (by omega)).trans (rl_h6 hv hj rfl)
  have e7 : rd (P, R).2 1 (nI (6 * j + 5)) = P.1 0 7 j := (pu_rd (by omega)).trans (rl_h7 hv hj rfl)
  have e1 : rd (P, R).2 1 (nI (6 * j + 1)) = P.1 0 1 j := (pu_rd (by omega)).trans (rl_h hv (k := 1) (by decide) hj rfl)
  have e4 : rd (P, R).2 1 (nI (6 * j + 4)) = P.1 0 4 j := (pu_rd (by omega)).trans (rl_h hv (k := 4) (by decide) hj rfl)
  rw [show f_X6_house (P, R).1 (nI j) 5 = some (cdr (P.1 0 4 j) (P.1 0 1 j) (P.1 0 3 j) (P.1 0 17 0)) from kh 5 (by decide), pu_some, show f_L_draw (P, R).2 (nI j) = _ from sl_draw hv s g.2.1 hj, pu_some, if_pos rfl]
  rw [show f_X6_house (P, R).1 (nI j) 6 = some (P.1 0 5 j) from kh 6 (by decide), pu_some, pu_inb (by omega) (by decide), pu_bnd, e5, if_pos rfl]
  rw [show f_X6_house (P, R).1 (nI j) 7 = some (P.1 0 6 j) from kh 7 (by decide), pu_some, show (8 : Int32) + nI j = nI (8 + j) from nI_add 8 j, pu_inb (by omega) (by decide), pu_bnd, e6, if_pos rfl]
  rw [show f_X6_house (P, R).1 (nI j) 8 = some (P.1 0 7 j) from kh 8 (by decide), pu_some, show nI (6 * j) + (5 : Int32) = nI (6 * j + 5) from nI_add _ 5, pu_inb (by omega) (by decide), pu_bnd, e7, if_pos rfl]
  rw [show f_X6_house (P, R).1 (nI j) 9 = some (smF (owF (P.1 0) 11 (nI j)) 0 (lsz (P.1 0)) 0) from kh 9 (by decide), pu_some, show f_L_owes (P, R).2 (nI j) 1 = some (smF (owF (P.1 0) 11 (nI j)) 0 (lsz (P.1 0)) 0) from sl_owes hv s g.1 (k := 1) (by decide) (nI j), pu_some, if_pos rfl]
  rw [show f_X6_house (P, R).1 (nI j) 10 = some (smF (owF (P.1 0) 10 (nI j)) 0 (lsz (P.1 0)) 0) from kh 10 (by decide), pu_some, show f_L_owes (P, R).2 (nI j) 0 = some (smF (owF (P.1 0) 10 (nI j)) 0 (lsz (P.1 0)) 0) from sl_owes hv s g.1 (k := 0) (by decide) (nI j), pu_some, if_pos rfl]
  rw [pu_bnd, pu_let, show nI (6 * j) + (1 : Int32) = nI (6 * j + 1) from nI_add _ 1, show nI (6 * j) + (4 : Int32) = nI (6 * j + 4) from nI_add _ 4, pu_inb (by omega) (by decide), pu_inb (by omega) (by decide), pu_bnd, pu_let, pu_bnd, pu_let, e1, e4]
  unfold f_L_told_203 ngF
  rw [pu_let, pu_let, nI_1]
  by_cases c : 0 ≤ P.1 0 4 j
  · rw [if_pos c, if_pos c, Int32.add_zero]
  · rw [if_neg c, if_neg c]
theorem t_told (ff : FF) {n : Nat} {S : LQ} (h : RQ n S) : f_L_told S = some 1 := by
  obtain ⟨P, R⟩ := S
  have hv : VL (P.1 0) R := h.1
  have s : SM (P.1 0) := h.2.1
  have g : G (P.1 0) := h.2.2.1
  have h8 := s.1
  have r0 : rd (P, R).2 0 (0 : Int32) = nI (hsz (P.1 0)) := (pu_rd (i := 0) (by decide)).trans (rl_0 hv g.1)
  have lp : ∀ (d i m : Nat) (a b c : Int32), i + d = hsz (P.1 0) → d < m → f_L_told_12 (P, R) m a b c (nI i) = f_L_told_212 (P, R) (smF (P.1 0 5) i d a) (smF (P.1 0 1) i d b) (smF (ngF (P.1 0)) i d c) fuel 0 := by
    intro d
    induction d with
    | zero =>
      intro i m a b c hi hm
      obtain ⟨m, rfl⟩ : ∃ q, m = q + 1 := ⟨m - 1, by omega⟩
      obtain rfl : i = hsz (P.1 0) := by omega
      rw [f_L_told_12, show inb (0 : Int32) 20 = true by decide, pu_bnd, r0, if_pos (nI_le (Nat.le_refl _) (by omega))]
      rfl
    | succ d ih =>
      intro i m a b c hi hm
      obtain ⟨m, rfl⟩ : ∃ q, m = q + 1 := ⟨m - 1, by omega⟩
      rw [f_L_told_12, show inb (0 : Int32) 20 = true by decide, pu_bnd, r0, if_neg (nI_ge (by omega) (by omega)), pu_let, show (6 : Int32) * nI i = nI (6 * i) from pk_mul 6 i, t_30 h _ a b c (by omega)]
      exact ih (i + 1) m _ _ _ (by omega) (by omega)
  exact (lp (hsz (P.1 0)) 0 fuel 0 0 0 (by omega) (fuel_gt (by omega))).trans (t_212 ff h)
