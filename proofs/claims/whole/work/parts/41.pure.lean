/-! the beginning; batteries, new houses, new loans -/
theorem vr0 : ∀ k, k < 23 → ∀ j, j < 48 → inRb k j = true → ref0.1 0 (zi k j) = vinit k j := by decide +kernel
theorem hk0 (c t : Nat) : HK c t vinit (ref0.1 0) := by
  have eh : hsz vinit = 0 := by decide +kernel
  have el : lsz vinit = 0 := by decide +kernel
  have eq : qsz vinit = 1 := by decide +kernel
  have er : hrz vinit = 0 := by decide +kernel
  refine ⟨⟨⟨?_, ?_, ?_, ?_, ?_, ?_, ?_, ?_, ?_, ?_⟩, ?_, ?_, ?_, ⟨?_, ?_⟩, ⟨?_, ?_⟩, ?_⟩, ⟨?_, ?_⟩, ?_⟩
  · rw [eh]; decide +kernel
  · rw [eh]; decide
  · rw [el]; decide +kernel
  · rw [el]; decide
  · rw [eq]; decide +kernel
  · rw [eq]; decide
  · rw [eq]; decide
  · rw [er]; decide +kernel
  · rw [er]; decide
  · exact Or.inl (by decide +kernel)
  · intro h hh; rw [eh] at hh; omega
  · intro h hh; rw [el] at hh; omega
  · intro b hb
    refine ⟨0, 20, 90, 0, by decide, by decide, by decide, by decide, by decide, ?_⟩
    have : b = 0 ∨ b = 1 := by omega
    rcases this with e | e <;> subst e <;> decide +kernel
  · exact ⟨5, by decide, by decide +kernel⟩
  · intro k hk
    have : k = 0 ∨ k = 1 ∨ k = 2 ∨ k = 3 := by omega
    rcases this with e | e | e | e <;> subst e
    · exact ⟨5, by decide, by decide +kernel⟩
    · exact ⟨40, by decide, by decide +kernel⟩
    · exact ⟨50, by decide, by decide +kernel⟩
    · exact ⟨50, by decide, by decide +kernel⟩
  · decide +kernel
  · intro f hf
    have : f = 0 ∨ f = 1 ∨ f = 2 := by omega
    rcases this with e | e | e <;> subst e <;> exact ⟨0, by decide, by decide +kernel⟩
  · intro k hk
    rw [eq] at hk
    obtain rfl : k = 0 := by omega
    exact ⟨20, by decide, by decide +kernel⟩
  · intro h hh; rw [eh] at hh; omega
  · rw [er]; omega
  · intro k j hr
    have hin : inR k j := by
      unfold relv at hr
      rw [eh, el, eq] at hr
      unfold inR
      omega
    refine vr0 k (by unfold inR at hin; omega) j (by unfold inR at hin; omega) ?_
    unfold inR at hin
    simp only [inRb, Bool.or_eq_true, Bool.and_eq_true, decide_eq_true_eq]
    omega
theorem rel_0 : Rel 0 pool0 ref0 := by
  refine ⟨hk0 _ _, ⟨0, by decide, rfl, rfl, fun i hi => absurd hi (Nat.not_lt_zero _)⟩, ⟨0, by decide, rfl, rfl, ?_, ?_, fun i hi => absurd hi (Nat.not_lt_zero _)⟩, ⟨0, 0, by decide, by decide, rfl, rfl, rfl, fun z => absurd z (by decide), fun z => absurd z (by decide)⟩⟩
  · intro i hi
    show 4 ≤ 4 + i ∧ 4 + i < 12
    omega
  · intro i j hi hj he
    have : 4 + i = 4 + j := he
    omega
theorem jmax0_sub {q c : Nat} (hq : q < 2 ^ 30) (hc : c < 2 ^ 30) : jmax 0 (nI q - nI c) = nI (q - c) := by
  rw [jmax0]
  have e := pk_sub_toInt hq hc
  by_cases h : c ≤ q
  · rw [if_pos (by rw [Int32.le_iff_toInt_le, e]; show (0 : Int) ≤ _; omega), pk_sub h]
  · rw [if_neg (by rw [Int32.le_iff_toInt_le, e]; show ¬ (0 : Int) ≤ _; omega), show q - c = 0 by omega]
    rfl
theorem op_setBattery : Op_setBattery Rel := by
  intro n S R a0 a1 a2 hn h
  have hbad : ∃ (r : Int32) (S2 : PS) (R2 : RS), (some ((-1000002 : Int32), S) : Option (Int32 × PS)) = some (r, S2) ∧ (some ((-1000002 : Int32), R) : Option (Int32 × RS)) = some (r, R2) ∧ Rel (n + 1) S2 R2 := ⟨_, S, R, rfl, rfl, rel_mono h (by omega)⟩
  unfold f_X6_setBattery f_X7_setBattery f_X6_isBattery
  rw [some_id, wi_67]
  rcases wi0 (p := a0) 1 (by decide) with h1 | ⟨h1, b, hb, rfl⟩
  · rw [show f_X6_within a0 0 1 = some 0 from h1, pu_some, pu_some, ite00, ite00]; exact hbad
  · rw [show f_X6_within (nI b) 0 1 = some 1 from h1, pu_some, pu_some, ite10, ite10]
    rcases wi0 (p := a1) 2 (by decide) with h3 | ⟨h3, k, hk, rfl⟩
    · rw [show f_X6_within a1 0 2 = some 0 from h3, pu_some, ite00]
      have hp : f_X7_isBattery a1 a2 = some 0 := by
        have e : ∀ m : Nat, m ≤ 2 → a1 ≠ nI m := fun m hm z => by
          subst z
          have : m = 0 ∨ m = 1 ∨ m = 2 := by omega
          rcases this with e | e | e <;> subst e <;> exact absurd h3 (by decide)
        unfold f_X7_isBattery
        rw [if_neg (show ¬ a1 = 0 from e 0 (by decide)), if_neg (show ¬ a1 = 1 from e 1 (by decide)), if_neg (show ¬ a1 = 2 from e 2 (by decide))]
      rw [hp, pu_some, ite00]; exact hbad
    · have hk3 : k = 0 ∨ k = 1 ∨ k = 2 := by omega
      have hst : ∃ L M, stBL k = nI L ∧ stBM k = nI M ∧ L = (if k = 2 then 50 else 0) ∧ M = (if k = 0 then 500 else 100) := by
        rcases hk3 with e | e | e <;> subst e
        · exact ⟨0, 500, rfl, rfl, rfl, rfl⟩
        · exact ⟨0, 100, rfl, rfl, rfl, rfl⟩
        · exact ⟨50, 100, rfl, rfl, rfl, rfl⟩
      obtain ⟨L, M, s1, s2, s3, s4⟩ := hst
      have hL : L ≤ 500 := by rw [s3]; split <;> omega
      have hM : M ≤ 500 := by rw [s4]; split <;> omega
      have hp : f_X7_isBattery (nI k) a2 = f_X6_within a2 (nI L) (nI M) := by
        rcases hk3 with e | e | e <;> subst e <;> subst s3 <;> subst s4 <;> (unfold f_X7_isBattery; simp only [some_id, wi_67])
        · rfl
        · rfl
        · show (bnd2 (f_X6_within a2 50 100) fun r_3 => if r_3 = 0 then some 0 else some 1) = f_X6_within a2 50 100
          rcases wi (p := a2) 50 100 (by decide) (by decide) with q | ⟨q, _⟩
          · rw [show f_X6_within a2 50 100 = some 0 from q]; rfl
          · rw [show f_X6_within a2 50 100 = some 1 from q]; rfl
      rw [show f_X6_within (nI k) 0 2 = some 1 from h3, pu_some, ite10, hp]
      simp (disch := omega) only [pu_inb, pu_bnd, nI_clamp, s1, s2]
      rcases wi (p := a2) L M (by omega) (by omega) with h4 | ⟨h4, y, hy1, hy2, rfl⟩
      · rw [h4, pu_some, pu_some, ite00, ite00]; exact hbad
      · rw [h4, pu_some, pu_some, ite10, ite10]
        obtain ⟨S1, R1, b1, b2, b3, b4, _⟩ := rel_record h
        rw [b1, b2, pu_some, pu_some]
        obtain ⟨⟨g, gn, hv⟩, _⟩ := id b3
        obtain ⟨c, r, e, q, g1, g2, g3, g4, g5, e1, e2, e3, e4⟩ := g.2.2.2.1 b (by omega)
        have et : f_X0_told (S1.1 0) (nI b) (nI k) = some (S1.1 0 (13 + k) b) := by
          rcases hk3 with e | e | e <;> subst e <;> (unfold f_X0_told; simp (disch := omega) only [pu_lit, nI_eq, Nat.reduceEqDiff, if_true, if_false, pu_inb, pu_bnd, pu_rd])
        have ec : f_X0_change (S1.1 0) (nI b) (nI k) (nI y) = some (wn (S1.1 0) (13 + k) b (nI y)) := by
          rcases hk3 with e | e | e <;> subst e <;> (unfold f_X0_change; simp (disch := omega) only [pu_lit, nI_eq, Nat.reduceEqDiff, if_true, if_false, pu_inb, pu_bnd, pu_wr, pu_let])
        obtain ⟨c', hc1, hc2, hc3⟩ : ∃ c', wn (S1.1 0) (13 + k) b (nI y) 13 b = nI c' ∧ c' ≤ 500 ∧ (k ≠ 0 → q ≤ c') := by
          rw [pu_wn]
          by_cases hk0 : k = 0
          · subst hk0
            exact ⟨y, if_pos ⟨rfl, rfl⟩, by omega, fun z => absurd rfl z⟩
          · exact ⟨c, by rw [if_neg (by omega)]; exact e1, g1, fun _ => g5⟩
        have h16 : wn (S1.1 0) (13 + k) b (nI y) 16 b = nI q := by rw [pu_wn, if_neg (by omega)]; exact e4
        have hg : GA (wn (S1.1 0) (13 + k) b (nI y)) := g.1.congr' fun j => pu_wn_k _ _ _ _ (by omega)
        have r1 := RV.wz (v := S1.1 0) hv g.1 (k := 13 + k) (j := b) (i := 116 + 4 * b + k) (x := nI y) (by unfold zi; rw [if_neg (by omega), if_neg (by omega), if_pos (by omega)]; omega) (by unfold inR; omega) (Or.inl (by omega))
        have h18 : ∀ i, wn (S1.1 0) (13 + k) b (nI y) 18 i = S1.1 0 18 i := fun i => pu_wn_k _ _ _ _ (by omega)
        refine ⟨S1.1 0 (13 + k) b, setV S1 0 (wn (wn (wn (S1.1 0) (13 + k) b (nI y)) 16 b (nI (q - (q - c')))) 18 4 (S1.1 0 18 4 + nI (q - c'))), if q ≤ c' then wz R1 (116 + 4 * b + k) (nI y) else wz (wz (wz R1 (116 + 4 * b + k) (nI y)) (116 + 4 * b + 3) (nI (q - (q - c')))) 185 (S1.1 0 18 4 + nI (q - c')), ?_, ?_, op_fin b3 ?_ ?_ ?_ ?_⟩
        · rw [et, pu_some, ec, pu_some, pu_let]
          unfold f_X0_discardExcess
          simp (disch := omega) only [pu_lit, pu_inb, pu_bnd, pu_rd, pu_wr, pu_let, setV_at, h16, hc1]
          rw [show jmax (nI 0) (nI q - nI c') = nI (q - c') from jmax0_sub (by omega) (by omega), pu_some]
          simp (disch := omega) only [setV_at, setV_up, pk_sub, h18, pu_wr]
        · have hr := rz_b (v := S1.1 0) hv (k := 13 + k) (j := b) (i := 116 + 4 * b + k) (by omega) (by omega) (by omega)
          have hr3 := rz_b (v := wn (S1.1 0) (13 + k) b (nI y)) r1 (k := 16) (j := b) (i := 116 + 4 * b + 3) (by omega) (by omega) (by omega)
          have hr0 := rz_b (v := wn (S1.1 0) (13 + k) b (nI y)) r1 (k := 13) (j := b) (i := 116 + 4 * b + 0) (by omega) (by omega) (by omega)
          rw [h16] at hr3
          rw [hc1] at hr0
          simp (disch := omega) only [pu_lit, pk_mul, nI_add, pu_inb, pu_bnd, pu_rd, pu_wr, pu_let, hr]
          rw [show setR R1 (wn R1.1 0 (116 + 4 * b + k) (nI y)) = wz R1 (116 + 4 * b + k) (nI y) from rfl, hr3, hr0]
          by_cases hqc : q ≤ c'
          · rw [if_pos hqc, if_pos]
            rw [Int32.le_iff_toInt_le, pk_sub_toInt (by omega) (by omega), nI_toInt (by omega)]
            omega
          · rw [if_neg hqc, if_neg (by
              rw [Int32.le_iff_toInt_le, pk_sub_toInt (by omega) (by omega), nI_toInt (by omega)]
              omega), pk_sub (by omega : c' ≤ q), pk_sub (by omega : q - c' ≤ q)]
            have r2 := RV.wz (v := wn (S1.1 0) (13 + k) b (nI y)) r1 hg (k := 16) (j := b) (i := 116 + 4 * b + 3) (x := nI (q - (q - c'))) (by unfold zi; simp) (by unfold inR; omega) (Or.inl (by decide))
            have h185 := rz_18 r2 (j := 4) (i := 185) (by decide) rfl
            rw [pu_wn_k _ _ _ _ (by decide), h18] at h185
            rw [show setR (wz R1 (116 + 4 * b + k) (nI y)) (wn (wz R1 (116 + 4 * b + k) (nI y)).1 0 (116 + 4 * b + 3) (nI (q - (q - c')))) = wz (wz R1 (116 + 4 * b + k) (nI y)) (116 + 4 * b + 3) (nI (q - (q - c'))) from rfl, h185]
            rfl
        · refine G_upd g (fun j => by rw [pu_wn_k _ _ _ _ (by decide), pu_wn_k _ _ _ _ (by decide), pu_wn_k _ _ _ _ (by omega)]) (Or.inl fun k' j hk' => by rw [pu_wn_k _ _ _ _ (by omega), pu_wn_k _ _ _ _ (by omega), pu_wn_k _ _ _ _ (by omega)]) (Or.inl fun k' j _ _ => by rw [pu_wn_k _ _ _ _ (by omega), pu_wn_k _ _ _ _ (by omega), pu_wn_k _ _ _ _ (by omega)]) (Or.inr ?_) (Or.inl fun j => by rw [pu_wn_k _ _ _ _ (by omega), pu_wn_k _ _ _ _ (by omega), pu_wn_k _ _ _ _ (by omega)]) (fun k' j _ _ => by rw [pu_wn_k _ _ _ _ (by omega), pu_wn_k _ _ _ _ (by omega), pu_wn_k _ _ _ _ (by omega)])
          intro i hi
          obtain ⟨ci, ri, ei, qi, f1, f2, f3, f4, f5, d1, d2, d3, d4⟩ := g.2.2.2.1 i hi
          have p18 : ∀ (w : VS) (k' : Nat) (x : Int32), k' < 18 → wn w 18 4 x k' i = w k' i := fun w k' x hk' => pu_wn_k _ _ _ _ (by omega)
          rw [p18 _ 13 _ (by decide), p18 _ 14 _ (by decide), p18 _ 15 _ (by decide), p18 _ 16 _ (by decide)]
          by_cases hib : i = b
          · subst hib
            have p16 : ∀ (w : VS) (k' : Nat) (x : Int32), k' ≠ 16 → wn w 16 i x k' i = w k' i := fun w k' x hk' => pu_wn_k _ _ _ _ hk'
            rw [pu_wn_s, p16 _ 13 _ (by decide), p16 _ 14 _ (by decide), p16 _ 15 _ (by decide), hc1]
            have e14 : ∃ r', r' ≤ 100 ∧ wn (S1.1 0) (13 + k) i (nI y) 14 i = nI r' := by
              rw [pu_wn]
              split
              · rename_i cc; exact ⟨y, by rw [if_neg (by omega)] at s4; omega, rfl⟩
              · exact ⟨r, g2, e2⟩
            have e15 : ∃ e', 50 ≤ e' ∧ e' ≤ 100 ∧ wn (S1.1 0) (13 + k) i (nI y) 15 i = nI e' := by
              rw [pu_wn]
              split
              · rename_i cc; exact ⟨y, by rw [if_pos (by omega)] at s3; omega, by rw [if_neg (by omega)] at s4; omega, rfl⟩
              · exact ⟨e, g3, g4, e3⟩
            obtain ⟨r', r1', r2'⟩ := e14
            obtain ⟨e', e1', e2', e3'⟩ := e15
            exact ⟨c', r', e', q - (q - c'), hc2, r1', e1', e2', by omega, rfl, r2', e3', rfl⟩
          · rw [pu_wn_j _ _ _ _ hib, pu_wn_j _ _ _ _ hib, pu_wn_j _ _ _ _ hib, pu_wn_j _ _ _ _ hib, pu_wn_j _ _ _ _ hib, pu_wn_j _ _ _ _ hib, pu_wn_j _ _ _ _ hib, pu_wn_j _ _ _ _ hib]
            exact ⟨ci, ri, ei, qi, f1, f2, f3, f4, f5, d1, d2, d3, d4⟩
        · exact GN_upd gn (by rw [pu_wn_k _ _ _ _ (by decide), pu_wn_k _ _ _ _ (by decide), pu_wn_k _ _ _ _ (by omega)]) (by rw [pu_wn_k _ _ _ _ (by decide), pu_wn_k _ _ _ _ (by decide), pu_wn_k _ _ _ _ (by omega)]) (fun j => by rw [pu_wn_k _ _ _ _ (by decide), pu_wn_k _ _ _ _ (by decide), pu_wn_k _ _ _ _ (by omega)]) (by omega) (by omega)
        · by_cases hqc : q ≤ c'
          · rw [if_pos hqc]
            refine RV.to (v := wn (S1.1 0) (13 + k) b (nI y)) r1 ?_ (fun k' j _ => ?_)
            · refine ⟨?_, ?_, ?_⟩ <;> rw [pu_wn_k _ _ _ _ (by decide), pu_wn_k _ _ _ _ (by decide)]
            · rw [show q - c' = 0 by omega, Nat.sub_zero, nI_0, Int32.add_zero, pu_wn]
              by_cases z : k' = 18 ∧ j = 4
              · rw [if_pos z, z.1, z.2, h18]
              · rw [if_neg z, pu_wn]
                by_cases z2 : k' = 16 ∧ j = b
                · rw [if_pos z2, z2.1, z2.2, h16]
                · rw [if_neg z2]
          · rw [if_neg hqc]
            have r2 := RV.wz (v := wn (S1.1 0) (13 + k) b (nI y)) r1 hg (k := 16) (j := b) (i := 116 + 4 * b + 3) (x := nI (q - (q - c'))) (by unfold zi; simp) (by unfold inR; omega) (Or.inl (by decide))
            exact RV.wz r2 (hg.congr' fun j => pu_wn_k _ _ _ _ (by decide)) (k := 18) (j := 4) (i := 185) rfl (by unfold inR; omega) (Or.inl (by decide))
        · by_cases hqc : q ≤ c'
          · rw [if_pos hqc]; exact wz_Fr _ _ _
          · rw [if_neg hqc]; exact ((wz_Fr _ _ _).trans (wz_Fr _ _ _)).trans (wz_Fr _ _ _)
