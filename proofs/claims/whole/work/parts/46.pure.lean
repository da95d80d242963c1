/-! looking ahead -/
def dkF (v : VS) : Nat → Int32 := fun j => if v 1 j ≤ v 5 j then 0 else 1
theorem sp_unmet {v : VS} (g : GA v) : f_X2_unmet v = some (smF (dkF v) 0 (hsz v) 0) := by
  have h10 := g.2.1
  have lp : ∀ (d i n : Nat) (acc : Int32), i + d = hsz v → d < n → f_X2_unmet_4 v n acc (nI i) = some (smF (dkF v) i d acc) := by
    intro d
    induction d with
    | zero =>
      intro i n acc hi hn
      obtain ⟨n, rfl⟩ : ∃ m, n = m + 1 := ⟨n - 1, by omega⟩
      have h1 : hsz v ≤ i := by omega
      simp (disch := omega) only [f_X2_unmet_4, g.1, pu_bnd, pu_some, pu_let, pu_inb, pu_rd, pu_wr, nI_1, nI_leI, nI_ltI, nI_eq, pu_lit, nI_add, pk_mul, h1, if_true]
      rfl
    | succ d ih =>
      intro i n acc hi hn
      obtain ⟨n, rfl⟩ : ∃ m, n = m + 1 := ⟨n - 1, by omega⟩
      have h1 : ¬ hsz v ≤ i := by omega
      have e := ih (i + 1) n (acc + dkF v i) (by omega) (by omega)
      show _ = some (smF _ (i + 1) d (acc + dkF v i))
      by_cases hc : v 1 i ≤ v 5 i
      · simp (disch := omega) only [f_X2_unmet_4, f_X2_unmet_33, g.1, pu_bnd, pu_some, pu_let, pu_inb, pu_rd, pu_wr, nI_1, nI_leI, nI_ltI, nI_eq, pu_lit, nI_add, pk_mul, h1, if_false, hc, if_true]
        rw [← e, dkF, if_pos hc]
        rfl
      · simp (disch := omega) only [f_X2_unmet_4, f_X2_unmet_33, g.1, pu_bnd, pu_some, pu_let, pu_inb, pu_rd, pu_wr, nI_1, nI_leI, nI_ltI, nI_eq, pu_lit, nI_add, pk_mul, h1, if_false, hc]
        rw [← e, dkF, if_neg hc]
        rfl
  exact lp (hsz v) 0 fuel 0 (by omega) (fuel_gt (by omega))
theorem sr_dark {v : VS} {R : RS} (h : RV v R) (g : GA v) : f_X7_dark R = some (smF (dkF v) 0 (hsz v) 0) := by
  have h10 := g.2.1
  have lp : ∀ (d i n : Nat) (acc : Int32), i + d = hsz v → d < n → f_X7_dark_4 R n acc (nI i) = some (smF (dkF v) i d acc) := by
    intro d
    induction d with
    | zero =>
      intro i n acc hi hn
      obtain ⟨n, rfl⟩ : ∃ m, n = m + 1 := ⟨n - 1, by omega⟩
      have h1 : hsz v ≤ i := by omega
      simp (disch := omega) only [f_X7_dark_4, rz_172 h g, pu_bnd, pu_some, pu_let, pu_inb, pu_rd, pu_wr, nI_1, nI_leI, nI_ltI, nI_eq, pu_lit, nI_add, pk_mul, h1, if_true]
      rfl
    | succ d ih =>
      intro i n acc hi hn
      obtain ⟨n, rfl⟩ : ∃ m, n = m + 1 := ⟨n - 1, by omega⟩
      have h1 : ¬ hsz v ≤ i := by omega
      have e := ih (i + 1) n (acc + dkF v i) (by omega) (by omega)
      have h5 := sr_of h g (k := 5) (j := i) (by decide) (by omega)
      have h11 := sr_of h g (k := 1) (j := i) (by decide) (by omega)
      show _ = some (smF _ (i + 1) d (acc + dkF v i))
      by_cases hc : v 1 i ≤ v 5 i
      · simp (disch := omega) only [f_X7_dark_4, f_X7_dark_37, rz_172 h g, pu_bnd, pu_some, pu_let, pu_inb, pu_rd, pu_wr, nI_1, nI_leI, nI_ltI, nI_eq, pu_lit, nI_add, pk_mul, h1, if_false, h5, h11, hc, if_true]
        rw [← e, dkF, if_pos hc]
        rfl
      · simp (disch := omega) only [f_X7_dark_4, f_X7_dark_37, rz_172 h g, pu_bnd, pu_some, pu_let, pu_inb, pu_rd, pu_wr, nI_1, nI_leI, nI_ltI, nI_eq, pu_lit, nI_add, pk_mul, h1, if_false, h5, h11, hc]
        rw [← e, dkF, if_neg hc]
        rfl
  exact lp (hsz v) 0 fuel 0 (by omega) (fuel_gt (by omega))
theorem sr_sheddings {v : VS} {R : RS} (h : RV v R) (gt : GT v) : f_X7_sheddings R = some (v 19 1 + v 19 2) := by
  unfold f_X7_sheddings
  simp (disch := omega) only [pu_lit, pu_inb, pu_bnd, pu_rd]
  rw [rz_19 h (j := 0) (by decide) rfl, rz_19 h (j := 1) (by decide) rfl, rz_19 h (j := 2) (by decide) rfl, gt.1, nI_0, Int32.zero_add]
def ahV (k : Nat) (v w : VS) : Int32 := if k = 0 then w 18 1 - v 18 1 else if k = 1 then (w 19 1 + w 19 2) - (v 19 1 + v 19 2) else if k = 2 then w 18 3 - v 18 3 else if k = 3 then w 16 0 + w 16 1 else smF (dkF w) 0 (hsz w) 0
theorem sr_ahead42 {a k c : Nat} (ha : a < 2 ^ 20) (hk : k ≤ 4) (u : VS) : ∀ (d i n t : Nat) (v : VS) (R : RS), i + d = a → d < n → G v → GN c t v → t + d < 2 ^ 29 → RV v R →
    ∃ R', f_X7_ahead_42 (nI a) (nI k) (u 18 1) (u 18 3) (u 19 1 + u 19 2) n (nI i) R = some (ahV k u (PHn d v), cpR R' 1 0 0 0 198) ∧ Fr R R' := by
  intro d
  induction d with
  | zero =>
    intro i n t v R hi hn g gn ht h
    obtain ⟨n, rfl⟩ : ∃ m, n = m + 1 := ⟨n - 1, by omega⟩
    obtain rfl : i = a := by omega
    have hc := sr_copy (k1 := 1) (k3 := 0) (by decide) R (a := 0) (b := 0) (by decide) (by decide) (by decide) (by decide)
    refine ⟨R, ?_, Fr.rfl' R⟩
    have e1 := rz_18 h (j := 1) (i := 182) (by decide) rfl
    have e3 := rz_18 h (j := 3) (i := 184) (by decide) rfl
    have es := sr_sheddings h g.2.2.2.2.2.1
    have ed := sr_dark h g.1
    have s0 := sr_cell h (by omega : 3 < 4) (by omega : 0 < 2)
    have s1 := sr_cell h (by omega : 3 < 4) (by omega : 1 < 2)
    unfold f_X7_ahead_42 f_X7_ahead_126 f_X7_accountNow PHn ahV
    have : k = 0 ∨ k = 1 ∨ k = 2 ∨ k = 3 ∨ k = 4 := by omega
    rcases this with e | e | e | e | e <;> subst e <;> simp (disch := omega) only [pu_lit, pu_inb, pu_bnd, pu_rd, pu_some, nI_eq, nI_leI, Nat.le_refl, Nat.reduceEqDiff, if_true, if_false, e1, e3, es, ed, s0, s1, hc]
  | succ d ih =>
    intro i n t v R hi hn g gn ht h
    obtain ⟨n, rfl⟩ : ∃ m, n = m + 1 := ⟨n - 1, by omega⟩
    have h1 : ¬ a ≤ i := by omega
    have hG := PH_G g gn (by omega)
    obtain ⟨R1, a1, a2, a3⟩ := sr_pass h g
    obtain ⟨R', b1, b2⟩ := ih (i + 1) n (t + 1) (PH v) R1 (by omega) (by omega) hG.1 hG.2 (by omega) a2
    refine ⟨R', ?_, a3.trans b2⟩
    simp (disch := omega) only [f_X7_ahead_42, pu_bnd, pu_some, pu_let, pu_inb, pu_rd, pu_wr, nI_1, nI_leI, nI_ltI, nI_eq, pu_lit, nI_add, pk_mul, h1, if_false, a1]
    exact b1
/-- the reference after a look ahead: as before where it matters -/
def Back (R R' : RS) : Prop := Fs R R' ∧ R'.2 = R.2 ∧ ∀ i, i < 195 → R'.1 0 i = R.1 0 i
theorem bk_of {R R' : RS} (h : Fr (cpR R 0 1 0 0 198) R') : Back R (cpR R' 1 0 0 0 198) := by
  refine ⟨⟨fun k hk => funext fun j => ?_, fun j hj => ?_⟩, h.1, fun i hi => ?_⟩
  · rw [cpR_ne _ _ (by omega), h.2 k (by omega) (by omega), cpR_ne _ _ (by omega)]
  · rw [cpR_ne _ _ (by decide), h.2 7 (by decide) (by decide), cpR_ne _ _ (by decide)]
  · show (if 0 = 0 ∧ 0 ≤ i ∧ i < 0 + 198 then R'.1 1 (0 + (i - 0)) else _) = _
    rw [if_pos (by omega), h.2 1 (by decide) (by decide)]
    show (if 1 = 1 ∧ 0 ≤ 0 + (i - 0) ∧ 0 + (i - 0) < 0 + 198 then R.1 0 (0 + (0 + (i - 0) - 0)) else _) = _
    rw [if_pos (by omega), show 0 + (0 + (i - 0) - 0) = i by omega]
theorem rel_back {n n' : Nat} {S : PS} {R R' : RS} (h : Rel n S R) (hn : n ≤ n') (w : VS) (hb : Back R R') : Rel n' (setV S 1 w) R' := ⟨by
  rw [setV_ne S w (by decide)]
  exact HK_to (h.1.mono (by omega) (by omega)) (fun _ _ _ => rfl) hb.2.2, rel_rest h hn (by decide) w hb.1⟩
theorem sr_ahead {c t a k : Nat} {v : VS} {R : RS} (h : HK c t v (R.1 0)) (ha : a ≤ 100) (ht : t + a < 2 ^ 29) (hk : k ≤ 4) : ∃ R', f_X7_ahead R (nI a) (nI k) = some (ahV k v (PHn a v), R') ∧ Back R R' := by
  have hc := sr_copy (k1 := 0) (k3 := 1) (by decide) R (a := 0) (b := 0) (by decide) (by decide) (by decide) (by decide)
  have h1 : RV v (cpR R 0 1 0 0 198) := fun k j hr => by
    rw [cpR_ne _ _ (by decide)]
    exact h.2.2 k j hr
  obtain ⟨R', a1, a2⟩ := sr_ahead42 (k := k) (c := c) (a := a) (by omega) hk v a 0 fuel t v (cpR R 0 1 0 0 198) (by omega) (fuel_gt (by omega)) h.1 h.2.1 ht h1
  refine ⟨_, ?_, bk_of a2⟩
  rw [← a1]
  unfold f_X7_ahead
  simp (disch := omega) only [pv_lit, hc, pv_some, pv_let, pu_inb, pv_bnd, pu_rd, sr_sheddings h1 h.1.2.2.2.2.2.1]
  rw [rz_18 h1 (j := 1) (by decide) rfl, rz_18 h1 (j := 3) (by decide) rfl]
theorem sp_seen {S : PS} (g : GA (S.1 1)) {k : Nat} (hk : k ≤ 4) : f_X6_seenAhead S (nI k) = some (ahV k (S.1 0) (S.1 1)) := by
  unfold f_X6_seenAhead ahV f_X5_timesShed f_X0_chargeOfAll
  have : k = 0 ∨ k = 1 ∨ k = 2 ∨ k = 3 ∨ k = 4 := by omega
  rcases this with e | e | e | e | e <;> subst e <;> simp (disch := omega) only [pu_lit, pu_inb, pu_bnd, pu_rd, pu_some, nI_eq, Nat.reduceEqDiff, if_true, if_false, sp_unmet g]
theorem ahV_ag {u v w : VS} {k : Nat} (h : Ag u v) : ahV k v w = ahV k u w := by
  unfold ahV
  rw [h 18 1 (by unfold inR; omega), h 18 3 (by unfold inR; omega), h 19 1 (by unfold inR; omega), h 19 2 (by unfold inR; omega)]
theorem op_ifRun : Op_ifRun Rel := by
  intro n S R a0 a1 hn h
  have hbad : ∀ e : Int32, ∃ (r : Int32) (S2 : PS) (R2 : RS), (some (e, S) : Option (Int32 × PS)) = some (r, S2) ∧ (some (e, R) : Option (Int32 × RS)) = some (r, R2) ∧ Rel (n + 1) S2 R2 := fun e => ⟨_, S, R, rfl, rfl, rel_mono h (by omega)⟩
  unfold f_X6_ifRun f_X7_ifRun
  simp only [wi_67]
  rcases wi (p := a0) 1 100 (by decide) (by decide) with h1 | ⟨h1, a, ha1, ha2, rfl⟩
  · rw [show f_X6_within a0 1 100 = some 0 from h1, pu_some, pu_some, ite00, ite00]; exact hbad _
  · rw [show f_X6_within (nI a) 1 100 = some 1 from h1, pu_some, pu_some, ite10, ite10]
    rcases wi0 (p := a1) 4 (by decide) with h2 | ⟨h2, k, hk, rfl⟩
    · rw [show f_X6_within a1 0 4 = some 0 from h2, pu_some, pu_some, ite00, ite00]; exact hbad _
    · rw [show f_X6_within (nI k) 0 4 = some 1 from h2, pu_some, pu_some, ite10, ite10]
      obtain ⟨w, w1, w2⟩ := sp_copy (i := 1) (j := 0) (by decide) S
      have hw := w2.HK h.1
      have hp := sp_passHours (c := 1000 * n) (a := a) (by omega) a 0 fuel (100 * n) w (by omega) (fuel_gt (by omega)) hw.1 hw.2.1 (by omega)
      have hG := PHn_G a (100 * n) w hw.1 hw.2.1 (by omega)
      obtain ⟨R', b1, b2⟩ := sr_ahead (k := k) hw ha2 (by omega) hk
      refine ⟨ahV k (S.1 0) (PHn a w), setV S 1 (PHn a w), R', ?_, ?_, rel_back h (by omega) _ b2⟩
      · rw [w1, pu_some, setV_at]
        unfold f_X5_passHours
        rw [show (0 : Int32) = nI 0 from rfl, hp, pu_some, pu_let, setV_up]
        have e := sp_seen (S := setV S 1 (PHn a w)) (by rw [setV_at]; exact hG.1.1) hk
        rw [setV_at, setV_ne S _ (by decide)] at e
        rw [e, pu_some]
      · rw [b1, pu_some, ahV_ag w2]
