/-! the digest: both sides -/
theorem win0 {b x : Nat} (h : x ≤ b) (hb : b < 2 ^ 31) : f_X6_within (nI x) 0 (nI b) = some 1 := by
  unfold f_X6_within
  rw [if_neg (nI_pos (by omega)), if_neg (nI_nlt h hb)]
theorem opt_tie {o : Option Int32} {r r' : Int32} (h : o = some r) (h' : o = some r') : r' = r := Option.some.inj (h'.symm.trans h)
theorem dv_count {n : Nat} {S : PS} {R : RS} (hn : n < 512) (h : Rel n S R) {x : Nat} (hx : x < 8) : f_X6_count S (nI x) = some (gd (f_X6_count S (nI x))) ∧ ∀ y, f_X7_counted (R.1, y) (nI x) = some (gd (f_X6_count S (nI x))) := by
  obtain ⟨r, e1, _, _⟩ := op_count n S R (nI x) hn h
  rw [e1]
  refine ⟨rfl, fun y => ?_⟩
  obtain ⟨r', f1, f2, _⟩ := op_count n S (R.1, y) (nI x) hn h
  show f_X7_counted (R.1, y) (nI x) = some r
  rw [← opt_tie e1 f1, ← f2]
  unfold f_X7_count
  rw [wi_67, show f_X6_within (nI x) 0 7 = some 1 from win0 (b := 7) (by omega) (by decide), pu_some, ite10, some_id]
theorem dv_setting {n : Nat} {S : PS} {R : RS} (hn : n < 512) (h : Rel n S R) {x : Nat} (hx : x < 4) : f_X6_setting S (nI x) = some (gd (f_X6_setting S (nI x))) ∧ ∀ y, f_X7_setting1 (R.1, y) (nI x) = some (gd (f_X6_setting S (nI x))) := by
  obtain ⟨r, e1, _, _⟩ := op_setting n S R (nI x) hn h
  rw [e1]
  refine ⟨rfl, fun y => ?_⟩
  obtain ⟨r', f1, f2, _⟩ := op_setting n S (R.1, y) (nI x) hn h
  show f_X7_setting1 (R.1, y) (nI x) = some r
  rw [← opt_tie e1 f1, ← f2]
  unfold f_X7_setting
  rw [wi_67, show f_X6_within (nI x) 0 3 = some 1 from win0 (b := 3) (by omega) (by decide), pu_some, ite10, some_id]
theorem dv_account {n : Nat} {S : PS} {R : RS} (hn : n < 512) (h : Rel n S R) {x : Nat} (hx : x < 8) : f_X6_account S (nI x) = some (gd (f_X6_account S (nI x))) ∧ ∀ y, f_X7_accountNow (R.1, y) (nI x) = some (gd (f_X6_account S (nI x))) := by
  obtain ⟨r, e1, _, _⟩ := op_account n S R (nI x) hn h
  rw [e1]
  refine ⟨rfl, fun y => ?_⟩
  obtain ⟨r', f1, f2, _⟩ := op_account n S (R.1, y) (nI x) hn h
  show f_X7_accountNow (R.1, y) (nI x) = some r
  rw [← opt_tie e1 f1, ← f2]
  unfold f_X7_account
  rw [wi_67, show f_X6_within (nI x) 0 7 = some 1 from win0 (b := 7) (by omega) (by decide), pu_some, ite10, some_id]
theorem dv_battery {n : Nat} {S : PS} {R : RS} (hn : n < 512) (h : Rel n S R) {a b : Nat} (ha : a < 2) (hb : b < 5) : f_X6_battery S (nI a) (nI b) = some (gd (f_X6_battery S (nI a) (nI b))) ∧ ∀ y, f_X7_batteryNow (R.1, y) (nI a) (nI b) = some (gd (f_X6_battery S (nI a) (nI b))) := by
  obtain ⟨r, e1, _, _⟩ := op_battery n S R (nI a) (nI b) hn h
  rw [e1]
  refine ⟨rfl, fun y => ?_⟩
  obtain ⟨r', f1, f2, _⟩ := op_battery n S (R.1, y) (nI a) (nI b) hn h
  show f_X7_batteryNow (R.1, y) (nI a) (nI b) = some r
  rw [← opt_tie e1 f1, ← f2]
  unfold f_X7_battery
  rw [wi_67, wi_67, show f_X6_within (nI a) 0 1 = some 1 from win0 (b := 1) (by omega) (by decide), pu_some, ite10, show f_X6_within (nI b) 0 4 = some 1 from win0 (b := 4) (by omega) (by decide), pu_some, ite10, some_id]
theorem dv_feeder {n : Nat} {S : PS} {R : RS} (hn : n < 512) (h : Rel n S R) {a b : Nat} (ha : a < 3) (hb : b < 5) : f_X6_feeder S (nI a) (nI b) = some (gd (f_X6_feeder S (nI a) (nI b))) ∧ ∀ y, f_X7_feederNow (R.1, y) (nI a) (nI b) = some (gd (f_X6_feeder S (nI a) (nI b))) := by
  obtain ⟨r, e1, _, _⟩ := op_feeder n S R (nI a) (nI b) hn h
  rw [e1]
  refine ⟨rfl, fun y => ?_⟩
  obtain ⟨r', f1, f2, _⟩ := op_feeder n S (R.1, y) (nI a) (nI b) hn h
  show f_X7_feederNow (R.1, y) (nI a) (nI b) = some r
  rw [← opt_tie e1 f1, ← f2]
  unfold f_X7_feeder
  rw [wi_67, wi_67, show f_X6_within (nI a) 0 2 = some 1 from win0 (b := 2) (by omega) (by decide), pu_some, ite10, show f_X6_within (nI b) 0 4 = some 1 from win0 (b := 4) (by omega) (by decide), pu_some, ite10, some_id]
theorem isH_in {n : Nat} {S : PS} {R : RS} (h : Rel n S R) {a : Nat} (ha : a < hsz (S.1 0)) : f_X7_isHouse R (nI a) = some 1 := by
  rcases is_house h (nI a) with ⟨h1, _⟩ | ⟨x, _, _, _, h2⟩
  · have g := h.1.1.1
    obtain ⟨q, hq⟩ : ∃ q, hsz (S.1 0) = q + 1 := ⟨hsz (S.1 0) - 1, by omega⟩
    have h10 := g.2.1
    unfold f_X6_isHouse at h1
    rw [g.1, hq, nI_pred, win0 (by omega) (by omega)] at h1
    exact absurd (Option.some.inj h1) (by decide)
  · exact h2
theorem isL_in {n : Nat} {S : PS} {R : RS} (h : Rel n S R) {a : Nat} (ha : a < lsz (S.1 0)) : f_X7_isLoan R (nI a) = some 1 := by
  rcases is_loan h (nI a) with ⟨h1, _⟩ | ⟨x, _, _, _, h2⟩
  · have g := h.1.1.1
    obtain ⟨q, hq⟩ : ∃ q, lsz (S.1 0) = q + 1 := ⟨lsz (S.1 0) - 1, by omega⟩
    have h12 := g.2.2.2.1
    unfold f_X6_isLoan at h1
    rw [g.2.2.1, hq, nI_pred, win0 (by omega) (by omega)] at h1
    exact absurd (Option.some.inj h1) (by decide)
  · exact h2
theorem dv_house {n : Nat} {S : PS} {R : RS} (hn : n < 512) (h : Rel n S R) {a b : Nat} (ha : a < hsz (S.1 0)) (hb : b < 11) : f_X6_house S (nI a) (nI b) = some (gd (f_X6_house S (nI a) (nI b))) ∧ ∀ y, f_X7_houseNow (R.1, y) (nI a) (nI b) = some (gd (f_X6_house S (nI a) (nI b))) := by
  obtain ⟨r, e1, _, _⟩ := op_house n S R (nI a) (nI b) hn h
  rw [e1]
  refine ⟨rfl, fun y => ?_⟩
  have hy : Rel n S (R.1, y) := h
  obtain ⟨r', f1, f2, _⟩ := op_house n S (R.1, y) (nI a) (nI b) hn hy
  show f_X7_houseNow (R.1, y) (nI a) (nI b) = some r
  rw [← opt_tie e1 f1, ← f2]
  unfold f_X7_house
  rw [isH_in hy ha, pu_some, ite10, wi_67, show f_X6_within (nI b) 0 10 = some 1 from win0 (b := 10) (by omega) (by decide), pu_some, ite10, some_id]
theorem dv_loan {n : Nat} {S : PS} {R : RS} (hn : n < 512) (h : Rel n S R) {a b : Nat} (ha : a < lsz (S.1 0)) (hb : b < 3) : f_X6_loan S (nI a) (nI b) = some (R.1 0 (80 + (3 * a + b))) := by
  obtain ⟨r, e1, f2, _⟩ := op_loan n S R (nI a) (nI b) hn h
  have h12 := h.1.1.1.2.2.2.1
  unfold f_X7_loan at f2
  rw [isL_in h ha, pu_some, ite10, wi_67, show f_X6_within (nI b) 0 2 = some 1 from win0 (b := 2) (by omega) (by decide), pu_some, ite10, some_id, sr_loanRaw R (j := a) (k := b) (by omega) hb] at f2
  rw [e1, ← f2, show 80 + (3 * a + b) = 80 + 3 * a + b by omega]
theorem dv_supply {S : PS} (g : GA (S.1 0)) {x : Nat} (hx : x < qsz (S.1 0)) : f_X6_supply S (nI x) = some (S.1 0 21 x) := by
  have h48 := g.2.2.2.2.2.2.1
  unfold f_X6_supply
  rw [if_pos (nI_pos' (by omega)), sp_supplyOf g (by omega), pu_some]
  unfold sup
  rw [Nat.mod_eq_of_lt hx]
theorem op_digest : Op_digest Rel := by
  intro n S R hn h
  obtain ⟨⟨g, gn, hv⟩, ⟨L, l1, l2, l3, l4⟩, _⟩ := id h
  have hv' : RV (S.1 0) R := hv
  have h10 := g.1.2.1
  have h12 := g.1.2.2.2.1
  have h48 := g.1.2.2.2.2.2.2.1
  obtain ⟨w, w1, w2⟩ := sp_copy (i := 1) (j := 0) (by decide) S
  have hw := w2.HK h.1
  obtain ⟨r, hr⟩ := mtV_some n64_quo g.1 g.2.1
  obtain ⟨x, x1, x2⟩ := met_bits g.1 g.2.1 hr
  have hN := rz_172 hv' g.1
  have hL3 := rz_173 hv' g.1
  have hQ := rz_175 hv' g.1
  have hN' := g.1.1
  have hL' := g.1.2.2.1
  have hQ' := g.1.2.2.2.2.1
  generalize eN : hsz (S.1 0) = N at *
  generalize eL : lsz (S.1 0) = K at *
  generalize eQ : qsz (S.1 0) = M at *
  -- the class
  have c1 := dp_5 (S := S) (k := fun x => gd (f_X6_count S (nI x))) (g := fun x => gd (f_X6_setting S (nI x))) (f := fun x => gd (f_X6_account S (nI x))) (fun x hx => (dv_count hn h hx).1) (fun x hx => (dv_setting hn h hx).1) (fun x hx => (dv_account hn h hx).1) 8 0 fuel 2111 (by omega) (fuel_gt (by omega))
  have c2 := dp_h5 (S := S) (F := fun i => gd (f_X6_house S (nI (i / 11)) (nI (i % 11)))) (m := N) (by omega) hN' (fun a b ha hb => by
    show _ = some (gd (f_X6_house S (nI ((11 * a + b) / 11)) (nI ((11 * a + b) % 11))))
    rw [show (11 * a + b) / 11 = a by omega, show (11 * a + b) % 11 = b by omega]
    exact (dv_house hn h (by omega) hb).1) N 0 fuel
  have c3 := dp_l5 (S := S) (F := fun i => R.1 0 (80 + i)) (m := K) (by omega) hL' (fun a b ha hb => dv_loan hn h (by omega) hb) K 0 fuel
  have c4 := dp_p5 (S := S) (f := fun x => S.1 0 21 x) (F := fun i => gd (f_X6_feeder S (nI (i / 5)) (nI (i % 5)))) (B := fun i => gd (f_X6_battery S (nI (i / 5)) (nI (i % 5)))) (m := M) h48 hQ' (fun x hx => dv_supply g.1 (by omega)) (fun a b ha hb => by
    show _ = some (gd (f_X6_feeder S (nI ((5 * a + b) / 5)) (nI ((5 * a + b) % 5))))
    rw [show (5 * a + b) / 5 = a by omega, show (5 * a + b) % 5 = b by omega]
    exact (dv_feeder hn h ha hb).1) (fun a b ha hb => by
    show _ = some (gd (f_X6_battery S (nI ((5 * a + b) / 5)) (nI ((5 * a + b) % 5))))
    rw [show (5 * a + b) / 5 = a by omega, show (5 * a + b) % 5 = b by omega]
    exact (dv_battery hn h ha hb).1) 2 0 fuel
  have hS3 : (setV S 1 (PHn 24 w)).1 0 = S.1 0 := setV_ne _ _ (by decide)
  have hS12 : (setV S 1 (PHn 24 w)).1 12 = S.1 12 := setV_ne _ _ (by decide)
  have hp := sp_passHours (a := 24) (c := 1000 * n) (by decide) 24 0 fuel (100 * n) w (by omega) (fuel_gt (by omega)) hw.1 hw.2.1 (by omega)
  have gP := (PHn_G 24 (100 * n) w hw.1 hw.2.1 (by omega)).1
  have eah : ∀ k, ahV k w (PHn 24 w) = ahV k (S.1 0) (PHn 24 w) := fun k => ahV_ag w2
  have c5 := dp_25 (S := setV S 1 (PHn 24 w)) (f := fun k => ahV k w (PHn 24 w)) (fun k hk => by
    rw [sp_seen (by rw [setV_at]; exact gP.1) (by omega), setV_at, hS3, eah]) 5 0 fuel
  have c6 := dp_16 (S := setV S 1 (PHn 24 w)) (f := fun i => S.1 12 0 i) (m := L) l1 (by rw [hS12]; exact l2) (fun i _ => by rw [hS12]) L 0 fuel
  -- the reference
  have d1 := dr_9 (Z := R.1) (f := fun x => gd (f_X6_count S (nI x))) (fun x hx => (dv_count hn h hx).2) 8 0 fuel 2111 (by omega) (fuel_gt (by omega))
  have d2 := dr_33 (Z := R.1) (f := fun x => gd (f_X6_setting S (nI x))) (fun x hx => (dv_setting hn h hx).2) 4 0 fuel
  have d3 := dr_56 (Z := R.1) (f := fun x => gd (f_X6_account S (nI x))) (fun x hx => (dv_account hn h hx).2) 8 0 fuel
  have d4 := dr_2 (Z := R.1) (f := fun x => S.1 0 21 x) (F := fun i => gd (f_X6_feeder S (nI (i / 5)) (nI (i % 5)))) (B := fun i => gd (f_X6_battery S (nI (i / 5)) (nI (i % 5)))) (G' := fun i => R.1 0 (80 + i)) (H := fun i => gd (f_X6_house S (nI (i / 11)) (nI (i % 11)))) (m := M) (L := K) (N := N) h48 hQ (fun x hx => rz_21 hv' (by omega) rfl) (fun i hi y => (dv_feeder hn h (by omega) (by omega)).2 y) (fun i hi y => (dv_battery hn h (by omega) (by omega)).2 y) h12 hL3 (fun i _ => rfl) h10 hN (fun i hi y => (dv_house hn h (by omega) (by omega)).2 y) (11 * N) 0 fuel
  generalize hh3 : mxF (fun x => gd (f_X6_account S (nI x))) 0 8 (mxF (fun x => gd (f_X6_setting S (nI x))) 0 4 (mxF (fun x => gd (f_X6_count S (nI x))) 0 8 2111)) = H3 at c1
  have d4' := d4 H3 (by omega) (fuel_gt (by omega))
  have c2' := c2 H3 (by omega) (fuel_gt (by omega))
  generalize hH4 : mxF (fun i => gd (f_X6_house S (nI (i / 11)) (nI (i % 11)))) 0 (11 * N) H3 = H4 at d4'
  have c2'' : f_X6_mixHouses_5 S fuel H3 (nI 0) = some H4 := by rw [c2', ← hH4]
  have c3' := c3 H4 (by omega) (fuel_gt (by omega))
  generalize hH5 : mxF (fun i => R.1 0 (80 + i)) 0 (3 * K) H4 = H5 at d4'
  have c3'' : f_X6_mixLoans_5 S fuel H4 (nI 0) = some H5 := by rw [c3', ← hH5]
  have c4' := c4 H5 (by omega) (fuel_gt (by omega))
  generalize hH6 : mxF (fun x => S.1 0 21 x) 0 M (mxF (fun i => gd (f_X6_feeder S (nI (i / 5)) (nI (i % 5)))) 0 15 (mxF (fun i => gd (f_X6_battery S (nI (i / 5)) (nI (i % 5)))) 0 10 H5)) = H6 at d4'
  have c4'' : f_X6_mixPlant_5 S fuel H5 (nI 0) = some H6 := by rw [c4', ← hH6]
  obtain ⟨n', Q', q1, q2, q3⟩ := dr_84 (c := 1000 * n) (t := 100 * n) (R := R) hw (by omega) 5 0 fuel (R.1, H6) (by omega) (fuel_gt (by omega)) ⟨Fs.rfl' R, fun _ _ => rfl⟩
  have c5' := c5 H6 (by omega) (fuel_gt (by omega))
  have q3' : Q'.2 = mxF (fun k => ahV k w (PHn 24 w)) 0 5 H6 := q3
  generalize hH7 : mxF (fun k => ahV k w (PHn 24 w)) 0 5 H6 = H7 at c5' q3'
  have hq : HK (1000 * n) (100 * n) (S.1 0) (Q'.1 0) := HK_to h.1 (fun _ _ _ => rfl) q2.2
  have hm : f_X7_met Q' = some r := by rw [sr_met (v := S.1 0) hq.2.2 g.1, hr]
  have hl : Q'.1 7 2 = nI L := by rw [q2.1.2 2 (by decide)]; exact l3
  have h4 : Q'.1 4 = R.1 4 := q2.1.1 4 (by omega)
  have d5 := dr_129 (Z := Q'.1) (f := fun i => S.1 12 0 i) (m := L) l1 hl (fun i hi => by rw [h4]; exact (l4 i hi).1.symm) L 0 fuel (31 * (31 * H7 + x) + (nI L).toInt64) (by omega) (fuel_gt (by omega))
  have c6' := c6 (31 * (31 * H7 + x) + (nI L).toInt64) (by omega) (fuel_gt (by omega))
  generalize hH8 : mxF (fun i => S.1 12 0 i) 0 L (31 * (31 * H7 + x) + (nI L).toInt64) = H8 at c6' d5
  refine ⟨H8, setV S 1 (PHn 24 w), (Q'.1, H8), ?_, ?_, ?_⟩
  · unfold f_X6_digest
    have e1 : f_X6_mixTotals S 2111 = some H3 := c1
    have e2 : f_X6_mixHouses S H3 = some H4 := c2''
    have e3 : f_X6_mixLoans S H4 = some H5 := c3''
    have e4 : f_X6_mixPlant S H5 = some H6 := c4''
    have e5 : f_X6_mixAhead S H6 = some (H7, setV S 1 (PHn 24 w)) := by
      unfold f_X6_mixAhead f_X5_passHours
      rw [w1, pu_some, setV_at]
      have hp' : f_X5_passHours_2 24 fuel 0 w = some (PHn 24 w) := hp
      rw [hp', pu_some, pu_let, setV_up]
      exact c5'
    have e6 : f_X6_met (setV S 1 (PHn 24 w)) = some r := by rw [sp_met (by rw [hS3]; exact g.1) (by rw [hS3]; exact g.2.1), hS3, hr]
    have e7 : f_X6_mixText (setV S 1 (PHn 24 w)) (31 * H7 + x) = some H8 := by
      unfold f_X6_mixText
      rw [mix_some, pu_some, hS12, l2]
      exact c6'
    rw [e1, pu_some, e2, pu_some, e3, pu_some, e4, pu_some, e5, pu_some, e6, pu_some, x1, pu_some, mix_some, pu_some, e7, pu_some]
  · have e1 : f_X7_digest R = f_X7_digest_9 fuel (nI 0) (R.1, 2111) := rfl
    have e2 : f_X7_mixThings (R.1, H3) = some (R.1, H6) := d4'
    rw [e1, d1, d2 _ (by omega) (fuel_gt (by omega)), d3 _ (by omega) (fuel_gt (by omega)), hh3, e2, pu_some, q1]
    show (if (5 : Int32) ≤ nI 5 then (bnd2 (f_X7_met Q') fun r_3 => bnd2 (f_Jxe99ae_doubleToLongBits_ccdee r_3) fun r_4 => bnd2 (f_X7_mix Q' r_4) fun r_5 => bnd2 (f_X7_mix r_5 ((r_5.1 7 2).toInt64)) fun r_6 => f_X7_digest_129 fuel (nI 0) r_6) else _) = _
    rw [if_pos (by decide), hm, pu_some, x2, pu_some, show f_X7_mix Q' x = some (Q'.1, 31 * H7 + x) by rw [← q3']; rfl, pu_some, rmix, pu_some]
    show f_X7_digest_129 fuel (nI 0) (Q'.1, 31 * (31 * H7 + x) + (Q'.1 7 2).toInt64) = _
    rw [hl]
    exact d5
  · have h0 : Rel n S (R.1, H8) := h
    exact rel_back h0 (by omega) _ ⟨q2.1, rfl, q2.2⟩
