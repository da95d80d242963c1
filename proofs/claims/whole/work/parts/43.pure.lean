/-! what is told -/
def owF (v : VS) (k : Nat) (p : Int32) : Nat → Int32 := fun j => if v k j = p then v 12 j else 0
theorem sp_sumOwed {v : VS} (g : GA v) {k : Nat} (hk : k = 10 ∨ k = 11) (p : Int32) : f_X4_sumOwed k v p = some (smF (owF v k p) 0 (lsz v) 0) := by
  have h12 := g.2.2.2.1
  have hv : vlen k = 12 := by rcases hk with e | e <;> subst e <;> rfl
  have lp : ∀ (d i n : Nat) (acc : Int32), i + d = lsz v → d < n → f_X4_sumOwed_5 k v p n acc (nI i) = some (smF (owF v k p) i d acc) := by
    intro d
    induction d with
    | zero =>
      intro i n acc hi hn
      obtain ⟨n, rfl⟩ : ∃ m, n = m + 1 := ⟨n - 1, by omega⟩
      have h1 : lsz v ≤ i := by omega
      simp (disch := omega) only [f_X4_sumOwed_5, g.2.2.1, pu_bnd, pu_some, pu_let, pu_inb, pu_rd, pu_wr, nI_1, nI_leI, nI_ltI, nI_eq, pu_lit, nI_add, pk_mul, h1, if_true]
      rfl
    | succ d ih =>
      intro i n acc hi hn
      obtain ⟨n, rfl⟩ : ∃ m, n = m + 1 := ⟨n - 1, by omega⟩
      have h1 : ¬ lsz v ≤ i := by omega
      have e := ih (i + 1) n (acc + owF v k p i) (by omega) (by omega)
      show _ = some (smF _ (i + 1) d (acc + owF v k p i))
      by_cases hc : v k i = p
      · simp (disch := omega) only [f_X4_sumOwed_5, f_X4_sumOwed_34, g.2.2.1, pu_bnd, pu_some, pu_let, pu_inb, pu_rd, pu_wr, nI_1, nI_leI, nI_ltI, nI_eq, pu_lit, nI_add, pk_mul, h1, if_false, hc, if_true]
        rw [← e, owF, if_pos hc]
      · simp (disch := omega) only [f_X4_sumOwed_5, f_X4_sumOwed_34, g.2.2.1, pu_bnd, pu_some, pu_let, pu_inb, pu_rd, pu_wr, nI_1, nI_leI, nI_ltI, nI_eq, pu_lit, nI_add, pk_mul, h1, if_false, hc]
        rw [← e, owF, if_neg hc]
        rfl
  exact lp (lsz v) 0 fuel 0 (by omega) (fuel_gt (by omega))
theorem sr_owed {v : VS} {R : RS} (h : RV v R) (g : GA v) {e : Nat} (he : e < 2) (p : Int32) : f_X7_owed R p (nI e) = some (smF (owF v (10 + e) p) 0 (lsz v) 0) := by
  have h12 := g.2.2.2.1
  have lp : ∀ (d i n : Nat) (acc : Int32), i + d = lsz v → d < n → f_X7_owed_5 R p (nI e) n acc (nI i) = some (smF (owF v (10 + e) p) i d acc) := by
    intro d
    induction d with
    | zero =>
      intro i n acc hi hn
      obtain ⟨n, rfl⟩ : ∃ m, n = m + 1 := ⟨n - 1, by omega⟩
      have h1 : lsz v ≤ i := by omega
      simp (disch := omega) only [f_X7_owed_5, rz_173 h g, pu_bnd, pu_some, pu_let, pu_inb, pu_rd, pu_wr, nI_1, nI_leI, nI_ltI, nI_eq, pu_lit, nI_add, pk_mul, h1, if_true]
      rfl
    | succ d ih =>
      intro i n acc hi hn
      obtain ⟨n, rfl⟩ : ∃ m, n = m + 1 := ⟨n - 1, by omega⟩
      have h1 : ¬ lsz v ≤ i := by omega
      have e1 := ih (i + 1) n (acc + owF v (10 + e) p i) (by omega) (by omega)
      have hl := sr_loanOf h g (k := e) (j := i) (by omega) (by omega)
      have hl2 := sr_loanOf h g (k := 2) (j := i) (by omega) (by omega)
      show _ = some (smF _ (i + 1) d (acc + owF v (10 + e) p i))
      by_cases hc : v (10 + e) i = p
      · simp (disch := omega) only [f_X7_owed_5, f_X7_owed_41, rz_173 h g, pu_bnd, pu_some, pu_let, pu_inb, pu_rd, pu_wr, nI_1, nI_leI, nI_ltI, nI_eq, pu_lit, nI_add, pk_mul, h1, if_false, hl, hl2, hc, if_true]
        rw [← e1, owF, if_pos hc]
      · simp (disch := omega) only [f_X7_owed_5, f_X7_owed_41, rz_173 h g, pu_bnd, pu_some, pu_let, pu_inb, pu_rd, pu_wr, nI_1, nI_leI, nI_ltI, nI_eq, pu_lit, nI_add, pk_mul, h1, if_false, hl, hc]
        rw [← e1, owF, if_neg hc]
        rfl
  exact lp (lsz v) 0 fuel 0 (by omega) (fuel_gt (by omega))
def szF (v : VS) (p : Int32) : Nat → Int32 := ofF v p (fun _ => 1)
def drF (v : VS) (p od : Int32) : Nat → Int32 := ofF v p (fun j => cdr (v 4 j) (v 1 j) (v 3 j) od)
def ngF (v : VS) : Nat → Int32 := fun j => if 0 ≤ v 4 j then 0 else 1
theorem sp_sizeOf {v : VS} (g : GA v) (p : Int32) : f_X2_sizeOf v p = some (smF (szF v p) 0 (hsz v) 0) := by
  have h10 := g.2.1
  have lp : ∀ (d i n : Nat) (acc : Int32), i + d = hsz v → d < n → f_X2_sizeOf_4 v p n acc (nI i) = some (smF (szF v p) i d acc) := by
    intro d
    induction d with
    | zero =>
      intro i n acc hi hn
      obtain ⟨n, rfl⟩ : ∃ m, n = m + 1 := ⟨n - 1, by omega⟩
      have h1 : hsz v ≤ i := by omega
      simp (disch := omega) only [f_X2_sizeOf_4, g.1, pu_bnd, pu_some, pu_let, pu_inb, pu_rd, pu_wr, nI_1, nI_leI, nI_ltI, nI_eq, pu_lit, nI_add, pk_mul, h1, if_true]
      rfl
    | succ d ih =>
      intro i n acc hi hn
      obtain ⟨n, rfl⟩ : ∃ m, n = m + 1 := ⟨n - 1, by omega⟩
      have h1 : ¬ hsz v ≤ i := by omega
      have e := ih (i + 1) n (acc + szF v p i) (by omega) (by omega)
      show _ = some (smF _ (i + 1) d (acc + szF v p i))
      by_cases hc : v 0 i = p
      · simp (disch := omega) only [f_X2_sizeOf_4, f_X2_sizeOf_28, g.1, pu_bnd, pu_some, pu_let, pu_inb, pu_rd, pu_wr, nI_1, nI_leI, nI_ltI, nI_eq, pu_lit, nI_add, pk_mul, h1, if_false, hc, if_true]
        rw [← e, szF, ofF, if_pos hc]
        rfl
      · simp (disch := omega) only [f_X2_sizeOf_4, f_X2_sizeOf_28, g.1, pu_bnd, pu_some, pu_let, pu_inb, pu_rd, pu_wr, nI_1, nI_leI, nI_ltI, nI_eq, pu_lit, nI_add, pk_mul, h1, if_false, hc]
        rw [← e, szF, ofF, if_neg hc]
        rfl
  exact lp (hsz v) 0 fuel 0 (by omega) (fuel_gt (by omega))
theorem sp_drawnFrom {v : VS} (g : GA v) (p od : Int32) : f_X2_drawnFrom v p od = some (smF (drF v p od) 0 (hsz v) 0) := by
  have h10 := g.2.1
  have lp : ∀ (d i n : Nat) (acc : Int32), i + d = hsz v → d < n → f_X2_drawnFrom_5 v p od n acc (nI i) = some (smF (drF v p od) i d acc) := by
    intro d
    induction d with
    | zero =>
      intro i n acc hi hn
      obtain ⟨n, rfl⟩ : ∃ m, n = m + 1 := ⟨n - 1, by omega⟩
      have h1 : hsz v ≤ i := by omega
      simp (disch := omega) only [f_X2_drawnFrom_5, g.1, pu_bnd, pu_some, pu_let, pu_inb, pu_rd, pu_wr, nI_1, nI_leI, nI_ltI, nI_eq, pu_lit, nI_add, pk_mul, h1, if_true]
      rfl
    | succ d ih =>
      intro i n acc hi hn
      obtain ⟨n, rfl⟩ : ∃ m, n = m + 1 := ⟨n - 1, by omega⟩
      have h1 : ¬ hsz v ≤ i := by omega
      have e := ih (i + 1) n (acc + drF v p od i) (by omega) (by omega)
      show _ = some (smF _ (i + 1) d (acc + drF v p od i))
      by_cases hc : v 0 i = p
      · simp (disch := omega) only [f_X2_drawnFrom_5, f_X2_drawnFrom_37, g.1, pu_bnd, pu_some, pu_let, pu_inb, pu_rd, pu_wr, nI_1, nI_leI, nI_ltI, nI_eq, pu_lit, nI_add, pk_mul, h1, if_false, hc, if_true, sp_canDraw]
        rw [← e, drF, ofF, if_pos hc]
      · simp (disch := omega) only [f_X2_drawnFrom_5, f_X2_drawnFrom_37, g.1, pu_bnd, pu_some, pu_let, pu_inb, pu_rd, pu_wr, nI_1, nI_leI, nI_ltI, nI_eq, pu_lit, nI_add, pk_mul, h1, if_false, hc]
        rw [← e, drF, ofF, if_neg hc]
        rfl
  exact lp (hsz v) 0 fuel 0 (by omega) (fuel_gt (by omega))
theorem sp_overdrawn {v : VS} (g : GA v) : f_X2_overdrawn v = some (smF (ngF v) 0 (hsz v) 0) := by
  have h10 := g.2.1
  have lp : ∀ (d i n : Nat) (acc : Int32), i + d = hsz v → d < n → f_X2_overdrawn_4 v n acc (nI i) = some (smF (ngF v) i d acc) := by
    intro d
    induction d with
    | zero =>
      intro i n acc hi hn
      obtain ⟨n, rfl⟩ : ∃ m, n = m + 1 := ⟨n - 1, by omega⟩
      have h1 : hsz v ≤ i := by omega
      simp (disch := omega) only [f_X2_overdrawn_4, g.1, pu_bnd, pu_some, pu_let, pu_inb, pu_rd, pu_wr, nI_1, nI_leI, nI_ltI, nI_eq, pu_lit, nI_add, pk_mul, h1, if_true]
      rfl
    | succ d ih =>
      intro i n acc hi hn
      obtain ⟨n, rfl⟩ : ∃ m, n = m + 1 := ⟨n - 1, by omega⟩
      have h1 : ¬ hsz v ≤ i := by omega
      have e := ih (i + 1) n (acc + ngF v i) (by omega) (by omega)
      show _ = some (smF _ (i + 1) d (acc + ngF v i))
      by_cases hc : nI 0 ≤ v 4 i
      · simp (disch := omega) only [f_X2_overdrawn_4, f_X2_overdrawn_27, g.1, pu_bnd, pu_some, pu_let, pu_inb, pu_rd, pu_wr, nI_1, nI_leI, nI_ltI, nI_eq, pu_lit, nI_add, pk_mul, h1, if_false, hc, if_true]
        rw [← e, ngF, if_pos (show 0 ≤ v 4 i from hc)]
        rfl
      · simp (disch := omega) only [f_X2_overdrawn_4, f_X2_overdrawn_27, g.1, pu_bnd, pu_some, pu_let, pu_inb, pu_rd, pu_wr, nI_1, nI_leI, nI_ltI, nI_eq, pu_lit, nI_add, pk_mul, h1, if_false, hc]
        rw [← e, ngF, if_neg (show ¬ 0 ≤ v 4 i from hc)]
        rfl
  exact lp (hsz v) 0 fuel 0 (by omega) (fuel_gt (by omega))
theorem sr_negative {v : VS} {R : RS} (h : RV v R) (g : GA v) : f_X7_negative R = some (smF (ngF v) 0 (hsz v) 0) := by
  have h10 := g.2.1
  have lp : ∀ (d i n : Nat) (acc : Int32), i + d = hsz v → d < n → f_X7_negative_4 R n acc (nI i) = some (smF (ngF v) i d acc) := by
    intro d
    induction d with
    | zero =>
      intro i n acc hi hn
      obtain ⟨n, rfl⟩ : ∃ m, n = m + 1 := ⟨n - 1, by omega⟩
      have h1 : hsz v ≤ i := by omega
      simp (disch := omega) only [f_X7_negative_4, rz_172 h g, pu_bnd, pu_some, pu_let, pu_inb, pu_rd, pu_wr, nI_1, nI_leI, nI_ltI, nI_eq, pu_lit, nI_add, pk_mul, h1, if_true]
      rfl
    | succ d ih =>
      intro i n acc hi hn
      obtain ⟨n, rfl⟩ : ∃ m, n = m + 1 := ⟨n - 1, by omega⟩
      have h1 : ¬ hsz v ≤ i := by omega
      have e := ih (i + 1) n (acc + ngF v i) (by omega) (by omega)
      have h4 := sr_of h g (k := 4) (j := i) (by decide) (by omega)
      show _ = some (smF _ (i + 1) d (acc + ngF v i))
      by_cases hc : nI 0 ≤ v 4 i
      · simp (disch := omega) only [f_X7_negative_4, f_X7_negative_31, rz_172 h g, pu_bnd, pu_some, pu_let, pu_inb, pu_rd, pu_wr, nI_1, nI_leI, nI_ltI, nI_eq, pu_lit, nI_add, pk_mul, h1, if_false, h4, hc, if_true]
        rw [← e, ngF, if_pos (show 0 ≤ v 4 i from hc)]
        rfl
      · simp (disch := omega) only [f_X7_negative_4, f_X7_negative_31, rz_172 h g, pu_bnd, pu_some, pu_let, pu_inb, pu_rd, pu_wr, nI_1, nI_leI, nI_ltI, nI_eq, pu_lit, nI_add, pk_mul, h1, if_false, h4, hc]
        rw [← e, ngF, if_neg (show ¬ 0 ≤ v 4 i from hc)]
        rfl
  exact lp (hsz v) 0 fuel 0 (by omega) (fuel_gt (by omega))
theorem sr_ofHouses {v : VS} {R : RS} (h : RV v R) (g : GA v) (p : Int32) {q : Nat} (hq : q < 3) : f_X7_ofHouses R p (nI q) = some (smF (if q = 0 then szF v p else if q = 1 then drF v p (v 17 0) else ofF v p (v 4)) 0 (hsz v) 0) := by
  have h10 := g.2.1
  have lp : ∀ (d i n : Nat) (acc : Int32), i + d = hsz v → d < n → f_X7_ofHouses_5 R p (nI q) n acc (nI i) = some (smF (if q = 0 then szF v p else if q = 1 then drF v p (v 17 0) else ofF v p (v 4)) i d acc) := by
    intro d
    induction d with
    | zero =>
      intro i n acc hi hn
      obtain ⟨n, rfl⟩ : ∃ m, n = m + 1 := ⟨n - 1, by omega⟩
      have h1 : hsz v ≤ i := by omega
      simp (disch := omega) only [f_X7_ofHouses_5, rz_172 h g, pu_bnd, pu_some, pu_let, pu_inb, pu_rd, pu_wr, nI_1, nI_leI, nI_ltI, nI_eq, pu_lit, nI_add, pk_mul, h1, if_true]
      rfl
    | succ d ih =>
      intro i n acc hi hn
      obtain ⟨n, rfl⟩ : ∃ m, n = m + 1 := ⟨n - 1, by omega⟩
      have h1 : ¬ hsz v ≤ i := by omega
      have h0 := sr_of h g (k := 0) (j := i) (by decide) (by omega)
      have h4 := sr_of h g (k := 4) (j := i) (by decide) (by omega)
      have hd := sr_canDraw h g (j := i) (by omega)
      have e := ih (i + 1) n (acc + (if q = 0 then szF v p else if q = 1 then drF v p (v 17 0) else ofF v p (v 4)) i) (by omega) (by omega)
      show _ = some (smF _ (i + 1) d (acc + _))
      rw [← e]
      have hq3 : q = 0 ∨ q = 1 ∨ q = 2 := by omega
      by_cases hc : v 0 i = p
      · rcases hq3 with e | e | e <;> subst e <;> simp (disch := omega) only [f_X7_ofHouses_5, f_X7_ofHouses_59, f_X7_ofHouses_61, rz_172 h g, pu_bnd, pu_some, pu_let, pu_inb, pu_rd, pu_wr, nI_1, nI_leI, nI_ltI, nI_eq, pu_lit, nI_add, pk_mul, h1, if_false, h0, h4, hd, hc, if_true, Nat.reduceEqDiff, szF, drF, ofF]
      · rcases hq3 with e | e | e <;> subst e <;> simp (disch := omega) only [f_X7_ofHouses_5, f_X7_ofHouses_59, f_X7_ofHouses_61, rz_172 h g, pu_bnd, pu_some, pu_let, pu_inb, pu_rd, pu_wr, nI_1, nI_leI, nI_ltI, nI_eq, pu_lit, nI_add, pk_mul, h1, if_false, h0, hc, if_true, Nat.reduceEqDiff, szF, drF, ofF] <;> rw [show acc + nI 0 = acc from Int32.add_zero acc]
  exact lp (hsz v) 0 fuel 0 (by omega) (fuel_gt (by omega))
theorem op_setting : Op_setting Rel := by
  intro n S R a0 hn h
  unfold f_X6_setting f_X7_setting f_X6_isSetting
  rw [some_id, wi_67]
  rcases wi0 (p := a0) 3 (by decide) with h1 | ⟨h1, x, hx, rfl⟩
  · rw [show f_X6_within a0 0 3 = some 0 from h1, pu_some, pu_some, ite00, ite00]
    exact ⟨_, rfl, rfl, rel_mono h (by omega)⟩
  · rw [show f_X6_within (nI x) 0 3 = some 1 from h1, pu_some, pu_some, ite10, ite10, sr_setting1 (v := S.1 0) h.1.2.2 (by omega), pu_some]
    simp (disch := omega) only [pu_inb, pu_bnd, pu_rd]
    exact ⟨_, rfl, rfl, rel_mono h (by omega)⟩
theorem op_supply : Op_supply Rel := by
  intro n S R a0 hn h
  unfold f_X6_supply f_X7_supply
  by_cases h0 : 0 ≤ a0
  · rw [if_pos h0, if_pos h0, some_id, some_id]
    rw [Int32.le_iff_toInt_le] at h0
    obtain ⟨x, e1, e2, e3⟩ := i32_nat (x := a0) h0
    rw [e1, sp_supplyOf h.1.1.1 e3, sr_supplyAt (v := S.1 0) h.1.2.2 h.1.1.1 e3]
    exact ⟨_, rfl, rfl, rel_mono h (by omega)⟩
  · rw [if_neg h0, if_neg h0]
    exact ⟨_, rfl, rfl, rel_mono h (by omega)⟩
theorem op_account : Op_account Rel := by
  intro n S R a0 hn h
  unfold f_X6_account f_X7_account
  rw [wi_67, some_id, some_id]
  rcases wi0 (p := a0) 7 (by decide) with h1 | ⟨h1, x, hx, rfl⟩
  · rw [show f_X6_within a0 0 7 = some 0 from h1, pu_some, pu_some, ite00, ite00]
    exact ⟨_, rfl, rfl, rel_mono h (by omega)⟩
  · rw [show f_X6_within (nI x) 0 7 = some 1 from h1, pu_some, pu_some, ite10, ite10]
    unfold f_X7_accountNow
    by_cases h5 : x = 5
    · subst h5
      rw [if_pos (show nI 5 = 5 from rfl), if_pos (show nI 5 = 5 from rfl)]
      unfold f_X0_chargeOfAll
      simp (disch := omega) only [pu_lit, pu_inb, pu_bnd, pu_rd, sr_cell (v := S.1 0) h.1.2.2 (by omega : 3 < 4) (by omega : 0 < 2), sr_cell (v := S.1 0) h.1.2.2 (by omega : 3 < 4) (by omega : 1 < 2), pu_some]
      exact ⟨_, rfl, rfl, rel_mono h (by omega)⟩
    · rw [if_neg (fun z : nI x = 5 => h5 (nI_inj0 (b := 5) (by omega) (by decide) z)), if_neg (fun z : nI x = 5 => h5 (nI_inj0 (b := 5) (by omega) (by decide) z))]
      simp (disch := omega) only [pu_lit, nI_add, pu_inb, pu_bnd, pu_rd]
      rw [rz_18 (v := S.1 0) h.1.2.2 (j := x) (by omega) rfl]
      exact ⟨_, rfl, rfl, rel_mono h (by omega)⟩
theorem op_loan : Op_loan Rel := by
  intro n S R a0 a1 hn h
  unfold f_X6_loan f_X7_loan
  rcases is_loan h a0 with ⟨h1, h2⟩ | ⟨x, hx, rfl, h1, h2⟩
  · rw [h1, h2, pu_some, pu_some, ite00, ite00]; exact ⟨_, rfl, rfl, rel_mono h (by omega)⟩
  · rw [h1, h2, pu_some, pu_some, ite10, ite10, wi_67]
    rcases wi0 (p := a1) 2 (by decide) with h3 | ⟨h3, k, hk, rfl⟩
    · rw [show f_X6_within a1 0 2 = some 0 from h3, pu_some, pu_some, ite00, ite00]; exact ⟨_, rfl, rfl, rel_mono h (by omega)⟩
    · rw [show f_X6_within (nI k) 0 2 = some 1 from h3, pu_some, pu_some, ite10, ite10, some_id, some_id, sr_loanOf (v := S.1 0) h.1.2.2 h.1.1.1 (by omega) hx]
      have h12 := h.1.1.1.2.2.2.1
      refine ⟨S.1 0 (10 + k) x, ?_, rfl, rel_mono h (by omega)⟩
      have : k = 0 ∨ k = 1 ∨ k = 2 := by omega
      rcases this with e | e | e <;> subst e <;> (unfold f_X4_told; simp (disch := omega) only [pu_lit, nI_eq, Nat.reduceEqDiff, if_true, if_false, pu_inb, pu_bnd, pu_rd])
theorem op_battery : Op_battery Rel := by
  intro n S R a0 a1 hn h
  unfold f_X6_battery f_X7_battery f_X6_isBattery
  rw [some_id, wi_67, wi_67]
  rcases wi0 (p := a0) 1 (by decide) with h1 | ⟨h1, x, hx, rfl⟩
  · rw [show f_X6_within a0 0 1 = some 0 from h1, pu_some, pu_some, ite00, ite00]; exact ⟨_, rfl, rfl, rel_mono h (by omega)⟩
  · rw [show f_X6_within (nI x) 0 1 = some 1 from h1, pu_some, pu_some, ite10, ite10]
    rcases wi0 (p := a1) 4 (by decide) with h3 | ⟨h3, k, hk, rfl⟩
    · rw [show f_X6_within a1 0 4 = some 0 from h3, pu_some, pu_some, ite00, ite00]; exact ⟨_, rfl, rfl, rel_mono h (by omega)⟩
    · rw [show f_X6_within (nI k) 0 4 = some 1 from h3, pu_some, pu_some, ite10, ite10, some_id, some_id]
      unfold f_X0_told f_X7_batteryNow
      have : k = 0 ∨ k = 1 ∨ k = 2 ∨ k = 3 ∨ k = 4 := by omega
      rcases this with e | e | e | e | e <;> subst e <;> simp (disch := omega) only [pu_lit, nI_eq, Nat.reduceEqDiff, if_true, if_false, pu_inb, pu_bnd, pu_rd, some_id, sp_canGive, sr_canGive (v := S.1 0) h.1.2.2 (by omega : x < 2), sr_cell (v := S.1 0) h.1.2.2 (by omega : 0 < 4) (by omega : x < 2), sr_cell (v := S.1 0) h.1.2.2 (by omega : 1 < 4) (by omega : x < 2), sr_cell (v := S.1 0) h.1.2.2 (by omega : 2 < 4) (by omega : x < 2), sr_cell (v := S.1 0) h.1.2.2 (by omega : 3 < 4) (by omega : x < 2)] <;> exact ⟨_, rfl, rfl, rel_mono h (by omega)⟩
