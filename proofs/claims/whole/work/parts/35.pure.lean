/-! reasons, credits, batteries: the reference -/
theorem sr_why {v : VS} {R : RS} (h : RV v R) (g : GA v) (gf : GF v) {j : Nat} (hj : j < hsz v) : f_X7_why R (nI j) = some (rsn (v 5 j) (v 1 j) (v 3 j) (cdr (v 4 j) (v 1 j) (v 3 j) (v 17 0)) (late v j)) := by
  obtain ⟨f1, f2⟩ := gf j hj
  unfold f_X7_why
  simp only [pu_lit, sr_of h g (by omega : 5 < 8) hj, sr_of h g (by omega : 1 < 8) hj, sr_of h g (by omega : 3 < 8) hj, sr_of h g (by omega : 0 < 8) hj, sr_canDraw h g hj, pu_some, f2]
  unfold rsn
  by_cases c1 : v 5 j = v 1 j
  · rw [if_pos c1, if_pos c1]; rfl
  · rw [if_neg c1, if_neg c1]
    by_cases c2 : v 3 j = 0
    · rw [if_pos (show v 3 j = nI 0 from c2), if_pos c2]; rfl
    · rw [if_neg (show ¬ v 3 j = nI 0 from c2), if_neg c2]
      by_cases c3 : v 1 j ≤ cdr (v 4 j) (v 1 j) (v 3 j) (v 17 0)
      · rw [if_pos c3, if_pos c3]
        simp (disch := omega) only [nI_add, pu_inb, pu_bnd, pu_rd]
        rw [rz_20 h f1 rfl]
        unfold late
        by_cases c4 : v 20 (fe v j) = 1
        · rw [if_pos (show v 20 (fe v j) = nI 1 from c4), decide_eq_true c4]; rfl
        · rw [if_neg (show ¬ v 20 (fe v j) = nI 1 from c4), decide_eq_false c4]; rfl
      · rw [if_neg c3, if_neg c3]; rfl
def ltB (i : Nat) : Nat → Bool := fun j => decide (j < i)
theorem ltB_step (i j : Nat) : ltB (i + 1) j = (ltB i j || decide (j = i)) := by
  unfold ltB
  rw [← Bool.decide_or]
  exact decide_eq_decide.mpr (by omega)
theorem SX_why (v : VS) (n : Nat) (g : Nat → Int32) (i : Nat) (hi : i < n) : wn (SX v (ltB n) (ltB i) nB g) 6 i (rsn (g i) (v 1 i) (v 3 i) (v 8 i) (late v i)) = SX v (ltB n) (ltB (i + 1)) nB g := by
  refine vs_ext fun k j => ?_
  simp only [pu_wn, SX, nB, ltB_step]
  by_cases hj : j = i
  · subst hj
    by_cases h6 : k = 6
    · subst h6; simp
    · simp [h6]
  · simp [hj]
theorem SX_drop (v : VS) (n : Nat) (g : Nat → Int32) (i : Nat) : wn (SX v (ltB n) (ltB n) (ltB i) g) 4 i (v 4 i - g i) = SX v (ltB n) (ltB n) (ltB (i + 1)) g := by
  refine vs_ext fun k j => ?_
  simp only [pu_wn, SX, ltB_step]
  by_cases hj : j = i
  · subst hj
    by_cases h4 : k = 4
    · subst h4; simp
    · simp [h4]
  · simp [hj]
theorem sr_116 {v : VS} (g : GA v) (gf : GF v) (h8 : ∀ j, j < hsz v → v 8 j = cdr (v 4 j) (v 1 j) (v 3 j) (v 17 0)) (w : Nat → Int32) (x1 x3 : Int32) : ∀ (d i n : Nat) (R : RS), i + d = hsz v → d < n → RV (SX v (ltB (hsz v)) (ltB i) nB w) R →
    ∃ R', f_X7_pass_116 x1 x3 n (nI i) R = f_X7_pass_157 x1 x3 fuel 0 R' ∧ RV (SX v (ltB (hsz v)) (ltB (hsz v)) nB w) R' ∧ Fr R R' := by
  have h10 := g.2.1
  intro d
  induction d with
  | zero =>
    intro i n R hi hn h
    obtain ⟨n, rfl⟩ : ∃ m, n = m + 1 := ⟨n - 1, by omega⟩
    obtain rfl : i = hsz v := by omega
    have hh := rz_172 h (SX_GA g _ _ _ _)
    rw [SX_hsz] at hh
    refine ⟨R, ?_, h, Fr.rfl' R⟩
    simp (disch := omega) only [f_X7_pass_116, hh, pu_bnd, pu_some, pu_let, pu_inb, pu_rd, pu_wr, nI_1, nI_leI, nI_ltI, nI_eq, pu_lit, nI_add, pk_mul, Nat.le_refl, if_true]
  | succ d ih =>
    intro i n R hi hn h
    obtain ⟨n, rfl⟩ : ∃ m, n = m + 1 := ⟨n - 1, by omega⟩
    have h1 : ¬ hsz v ≤ i := by omega
    have gx : GA (SX v (ltB (hsz v)) (ltB i) nB w) := SX_GA g _ _ _ _
    have hh := rz_172 h gx
    rw [SX_hsz] at hh
    have hix : i < hsz (SX v (ltB (hsz v)) (ltB i) nB w) := by rw [SX_hsz]; omega
    have gfx : GF (SX v (ltB (hsz v)) (ltB i) nB w) := fun j hj => by
      rw [SX_hsz] at hj
      unfold fe
      rw [SX_same' (by omega)]
      exact gf j hj
    have hy := sr_why h gx gfx hix
    have e5 : SX v (ltB (hsz v)) (ltB i) nB w 5 i = w i := by
      unfold SX
      rw [if_pos ⟨rfl, decide_eq_true (by omega)⟩]
    have el : late (SX v (ltB (hsz v)) (ltB i) nB w) i = late v i := by
      unfold late fe
      rw [SX_same' (by omega), SX_same' (by omega)]
    have e4 : SX v (ltB (hsz v)) (ltB i) nB w 4 i = v 4 i := SX_same (fun e => absurd e (by decide)) (fun e => absurd e (by decide)) (fun e => absurd e (by decide)) (fun _ => rfl)
    rw [e5, el, e4, SX_same' (by omega), SX_same' (by omega), SX_same' (by omega), ← h8 i (by omega)] at hy
    have r1 := RV.wz h gx (k := 6) (j := i) (i := 8 * i + 6) (x := rsn (w i) (v 1 i) (v 3 i) (v 8 i) (late v i)) (by unfold zi; simp) (by unfold inR; omega) (Or.inl (by decide))
    rw [SX_why v (hsz v) w i (by omega)] at r1
    obtain ⟨R', e1, e2, e3⟩ := ih (i + 1) n _ (by omega) (by omega) r1
    refine ⟨R', ?_, e2, (wz_Fr _ _ _).trans e3⟩
    rw [← e1]
    simp (disch := omega) only [f_X7_pass_116, hh, hy, pu_bnd, pu_some, pu_let, pu_inb, pu_rd, pu_wr, nI_1, nI_leI, nI_ltI, nI_eq, pu_lit, nI_add, pk_mul, h1, if_false]
    rfl
theorem sr_157 {v : VS} (g : GA v) (w : Nat → Int32) (x1 x3 : Int32) : ∀ (d i n : Nat) (R : RS), i + d = hsz v → d < n → RV (SX v (ltB (hsz v)) (ltB (hsz v)) (ltB i) w) R →
    ∃ R', f_X7_pass_157 x1 x3 n (nI i) R = (if x3 ≤ x1 then bnd2 (f_X7_charge R' (x1 - x3)) fun r => f_X7_pass_213 r x1 x3 else bnd2 (f_X7_take R' (x3 - x1)) fun r => f_X7_pass_213 r x1 x3) ∧ RV (SX v (ltB (hsz v)) (ltB (hsz v)) (ltB (hsz v)) w) R' ∧ Fr R R' := by
  have h10 := g.2.1
  intro d
  induction d with
  | zero =>
    intro i n R hi hn h
    obtain ⟨n, rfl⟩ : ∃ m, n = m + 1 := ⟨n - 1, by omega⟩
    obtain rfl : i = hsz v := by omega
    have hh := rz_172 h (SX_GA g _ _ _ _)
    rw [SX_hsz] at hh
    refine ⟨R, ?_, h, Fr.rfl' R⟩
    simp (disch := omega) only [f_X7_pass_157, hh, pu_bnd, pu_some, pu_let, pu_inb, pu_rd, pu_wr, nI_1, nI_leI, nI_ltI, nI_eq, pu_lit, nI_add, pk_mul, Nat.le_refl, if_true]
  | succ d ih =>
    intro i n R hi hn h
    obtain ⟨n, rfl⟩ : ∃ m, n = m + 1 := ⟨n - 1, by omega⟩
    have h1 : ¬ hsz v ≤ i := by omega
    have gx : GA (SX v (ltB (hsz v)) (ltB (hsz v)) (ltB i) w) := SX_GA g _ _ _ _
    have hh := rz_172 h gx
    rw [SX_hsz] at hh
    have hix : i < hsz (SX v (ltB (hsz v)) (ltB (hsz v)) (ltB i) w) := by rw [SX_hsz]; omega
    have h5 := sr_of h gx (by omega : 5 < 8) hix
    have e5 : SX v (ltB (hsz v)) (ltB (hsz v)) (ltB i) w 5 i = w i := by
      unfold SX
      rw [if_pos ⟨rfl, decide_eq_true (by omega)⟩]
    have e4 : SX v (ltB (hsz v)) (ltB (hsz v)) (ltB i) w 4 i = v 4 i := SX_same (fun e => absurd e (by decide)) (fun e => absurd e (by decide)) (fun e => absurd e (by decide)) (fun _ => by unfold ltB; simp)
    rw [e5] at h5
    have ha := sr_add h gx (by omega : 4 < 8) hix (-(w i))
    rw [e4, ← Int32.sub_eq_add_neg] at ha
    have r1 := RV.wz h gx (k := 4) (j := i) (i := 8 * i + 4) (x := v 4 i - w i) (by unfold zi; simp) (by unfold inR; omega) (Or.inl (by decide))
    rw [SX_drop v (hsz v) w i] at r1
    obtain ⟨R', e1, e2, e3⟩ := ih (i + 1) n _ (by omega) (by omega) r1
    refine ⟨R', ?_, e2, (wz_Fr _ _ _).trans e3⟩
    rw [← e1]
    simp (disch := omega) only [f_X7_pass_157, hh, h5, ha, pu_bnd, pu_some, pu_let, pu_inb, pu_rd, pu_wr, nI_1, nI_leI, nI_ltI, nI_eq, pu_lit, nI_add, pk_mul, h1, if_false]
/-- taking from the batteries -/
theorem sr_take {v : VS} {R : RS} (h : RV v R) (g : GA v) (x : Int32) : ∃ R', f_X7_take R x = some R' ∧ RV (gvS v x) R' ∧ Fr R R' := by
  obtain ⟨n, hn⟩ : ∃ n, fuel = n + 1 + 1 + 1 := ⟨99997, rfl⟩
  have st : ∀ (w : VS) (Q : RS), RV w Q → GA w → ∀ b, b < 2 → ∀ (m : Nat) (y : Int32), f_X7_take_4 (m + 1) y (nI b) Q = f_X7_take_4 m (y - jmin y (cgv w b)) (nI (b + 1)) (wz Q (116 + 4 * b + 3) (w 16 b - jmin y (cgv w b))) := fun w Q hQ gw b hb m y => by
    have h2 : ¬ 2 ≤ b := by omega
    have hg := sr_canGive hQ hb
    have h16 : Q.1 0 (116 + 4 * b + 3) = w 16 b := rz_b hQ (k := 16) (by omega) hb (by omega)
    simp (disch := omega) only [f_X7_take_4, f_X7_take_27, pu_bnd, pu_some, pu_let, pu_inb, pu_rd, pu_wr, nI_1, nI_leI, nI_ltI, nI_eq, pu_lit, nI_add, pk_mul, h2, if_false, hg, h16]
    rw [jmin_le]
    by_cases c : y ≤ cgv w b
    · rw [if_pos c, if_pos c]; rfl
    · rw [if_neg c, if_neg c]; rfl
  have e16 : ∀ x, cgv (wn v 16 0 x) 1 = cgv v 1 := fun x => by unfold cgv; rw [pu_wn_j _ _ _ _ (by decide), pu_wn_k _ _ _ _ (by decide)]
  have e1 : ∀ x, (wn v 16 0 x) 16 1 = v 16 1 := fun x => by rw [pu_wn_j _ _ _ _ (by decide)]
  have c1 : GA (wn v 16 0 (v 16 0 - jmin x (cgv v 0))) := g.congr' fun j => pu_wn_k _ _ _ _ (by decide)
  have r1 := RV.wz h g (k := 16) (j := 0) (i := 119) (x := v 16 0 - jmin x (cgv v 0)) rfl (by unfold inR; omega) (Or.inl (by decide))
  have r2 := RV.wz r1 c1 (k := 16) (j := 1) (i := 123) (x := v 16 1 - jmin (x - jmin x (cgv v 0)) (cgv v 1)) rfl (by unfold inR; omega) (Or.inl (by decide))
  refine ⟨_, ?_, r2, (wz_Fr _ _ _).trans (wz_Fr _ _ _)⟩
  unfold f_X7_take
  rw [show f_X7_take_4 fuel x 0 R = f_X7_take_4 (n + 1 + 1 + 1) x (nI 0) R by rw [hn]; rfl, st v R h g 0 (by decide), st _ _ r1 c1 1 (by decide), e16, e1]
  simp (disch := omega) only [f_X7_take_4, pu_bnd, pu_some, pu_let, pu_inb, pu_rd, pu_wr, nI_1, nI_leI, nI_ltI, nI_eq, pu_lit, nI_add, pk_mul, Nat.reduceLeDiff, Nat.reduceAdd, Nat.reduceMul, if_true]
/-- charging the batteries -/
theorem div_fit {c cap e a : Nat} (hc : c ≤ cap) (he : 0 < e) : c + a * e / 100 ≤ cap ↔ a ≤ ((cap - c) * 100 + 99) / e := by
  rw [Nat.le_div_iff_mul_le he]
  have := Nat.div_add_mod (a * e) 100
  have := Nat.mod_lt (a * e) (by decide : 100 > 0)
  omega
def tkN (v : VS) (b x : Nat) : Nat := min ((((v 13 b).toNatClampNeg - (v 16 b).toNatClampNeg) * 100 + 99) / (v 15 b).toNatClampNeg) (min (v 14 b).toNatClampNeg x)
theorem tk0_nat {v : VS} (gb : GB v) {b : Nat} (hb : b < 2) {x : Nat} (hx : x < 2 ^ 31) : tk0 v b (nI x) = nI (tkN v b x) ∧ tkN v b x ≤ x ∧ tkN v b x ≤ 100 := by
  obtain ⟨c, r, e, g, h1, h2, h3, h4, h5, e1, e2, e3, e4⟩ := gb b hb
  have hN : tkN v b x = min (((c - g) * 100 + 99) / e) (min r x) := by
    unfold tkN
    rw [e1, e2, e3, e4, nI_clamp (by omega), nI_clamp (by omega), nI_clamp (by omega), nI_clamp (by omega)]
  have hd : ((c - g) * 100 + 99) / e ≤ (c - g) * 100 + 99 := Nat.div_le_self _ _
  refine ⟨?_, ?_, ?_⟩
  · rw [hN]
    unfold tk0
    rw [e1, e2, e3, e4, if_neg (by rw [show (0 : Int32) = nI 0 from rfl, nI_leI (by omega) (by omega)]; omega), pk_sub h5, show (100 : Int32) = nI 100 from rfl, show (99 : Int32) = nI 99 from rfl, pk_mul, nI_add, pk_div (by omega) (by omega) (by omega), jmin_nI (by omega) hx, jmin_nI (by omega) (by omega)]
  · rw [hN]; omega
  · rw [hN]; omega
theorem stP_same {v : VS} {b : Nat} {x : Int32} {k j : Nat} (h : ¬ (k = 16 ∧ j = b) ∧ ¬ (k = 18 ∧ j = 2)) : stP v b x k j = v k j := by
  unfold stP
  rw [pu_wn, if_neg h.2, pu_wn, if_neg h.1]
theorem stP_GB {v : VS} (gb : GB v) {b : Nat} (hb : b < 2) {x : Nat} (hx : x < 2 ^ 31) : GB (stP v b (nI x)) := by
  intro i hi
  obtain ⟨c, r, e, g, h1, h2, h3, h4, h5, e1, e2, e3, e4⟩ := gb i hi
  rw [stP_same (k := 13) (by omega), stP_same (k := 14) (by omega), stP_same (k := 15) (by omega)]
  by_cases hib : i = b
  · subst hib
    obtain ⟨t1, t2, t3⟩ := tk0_nat gb hi hx
    have hv : stP v i (nI x) 16 i = nI (g + tkN v i x * e / 100) := by
      unfold stP
      rw [pu_wn_k _ _ _ _ (by decide), pu_wn_s, t1, e3, e4]
      have hm : tkN v i x * e ≤ 100 * 100 := Nat.mul_le_mul t3 (by omega)
      rw [show (100 : Int32) = nI 100 from rfl, pk_mul, pk_div (by omega) (by omega) (by omega), nI_add]
    refine ⟨c, r, e, g + tkN v i x * e / 100, h1, h2, h3, h4, ?_, e1, e2, e3, hv⟩
    refine (div_fit h5 (by omega)).mpr ?_
    unfold tkN
    rw [e1, e2, e3, e4, nI_clamp (by omega), nI_clamp (by omega), nI_clamp (by omega), nI_clamp (by omega)]
    omega
  · rw [stP_same (by omega)]
    exact ⟨c, r, e, g, h1, h2, h3, h4, h5, e1, e2, e3, e4⟩
theorem stP_GA {v : VS} (g : GA v) (b : Nat) (x : Int32) : GA (stP v b x) := g.congr' fun j => stP_same (by omega)
theorem sr_charge31 {v : VS} {R : RS} (h : RV v R) (g : GA v) (gb : GB v) {b : Nat} (hb : b < 2) (K : Int32 → Int32 → RS → Option RS) {x : Nat} (hx : x < 2 ^ 31) : ∀ (a n : Nat), a ≤ 100 → tkN v b x ≤ a → a ≤ min (v 14 b).toNatClampNeg x → a < n →
    ∃ R', f_X7_charge_31 K R (nI x) (nI b) n (nI a) = K (nI (x - tkN v b x)) (nI (b + 1)) R' ∧ RV (stP v b (nI x)) R' ∧ Fr R R' := by
  obtain ⟨c, r, e, q, h1, h2, h3, h4, h5, e1, e2, e3, e4⟩ := gb b hb
  obtain ⟨t1, t2, t3⟩ := tk0_nat gb hb hx
  have hN : tkN v b x = min (((c - q) * 100 + 99) / e) (min r x) := by
    unfold tkN
    rw [e1, e2, e3, e4, nI_clamp (by omega), nI_clamp (by omega), nI_clamp (by omega), nI_clamp (by omega)]
  rw [e2, nI_clamp (by omega)]
  intro a
  induction a with
  | zero =>
    intro n ha htk hmin hn
    obtain ⟨n, rfl⟩ : ∃ m, n = m + 1 := ⟨n - 1, by omega⟩
    have ht0 : tkN v b x = 0 := by omega
    have hfit : q + 0 * e / 100 ≤ c := by rw [Nat.zero_mul]; omega
    have s3 := sr_cell h (by omega : 3 < 4) hb
    have s2 := sr_cell h (by omega : 2 < 4) hb
    have s0 := sr_cell h (by omega : 0 < 4) hb
    rw [e4] at s3
    rw [e3] at s2
    rw [e1] at s0
    have h16 : R.1 0 (116 + 4 * b + 3) = nI q := by rw [rz_b h (k := 16) (by omega) hb (by omega), e4]
    have r1 := RV.wz h g (k := 16) (j := b) (i := 116 + 4 * b + 3) (x := nI q + nI (0 * e / 100)) (by unfold zi; simp) (by unfold inR; omega) (Or.inl (by decide))
    have c1 : GA (wn v 16 b (nI q + nI (0 * e / 100))) := g.congr' fun j => pu_wn_k _ _ _ _ (by decide)
    have h18 := rz_18 r1 (j := 2) (i := 183) (by decide) rfl
    rw [pu_wn_k _ _ _ _ (by decide)] at h18
    have r2 := RV.wz r1 c1 (k := 18) (j := 2) (i := 183) (x := v 18 2 + (nI 0 - nI (0 * e / 100))) rfl (by unfold inR; omega) (Or.inl (by decide))
    have r3 : stP v b (nI x) = wn (wn v 16 b (nI q + nI (0 * e / 100))) 18 2 (v 18 2 + (nI 0 - nI (0 * e / 100))) := by
      unfold stP
      rw [t1, ht0, e3, e4, show (100 : Int32) = nI 100 from rfl, pk_mul, pk_div (by omega) (by omega) (by omega)]
    rw [← r3] at r2
    refine ⟨_, ?_, r2, (wz_Fr _ _ _).trans (wz_Fr _ _ _)⟩
    · rw [ht0]
      have hm : 0 * e < 2 ^ 31 := by omega
      simp (disch := omega) only [f_X7_charge_31, pu_bnd, pu_some, pu_let, pu_inb, pu_rd, pu_wr, nI_1, nI_leI, nI_ltI, nI_eq, pu_lit, nI_add, pk_mul, s3, s2, s0, pk_div, hfit, if_true, h16]
      rw [show setR R (wn R.1 0 (116 + 4 * b + 3) (nI (q + 0 * e / 100))) = wz R (116 + 4 * b + 3) (nI q + nI (0 * e / 100)) by rw [nI_add]; rfl, h18, pk_sub (Nat.zero_le _)]
      rw [nI_add]
      rfl
  | succ a ih =>
    intro n ha htk hmin hn
    obtain ⟨n, rfl⟩ : ∃ m, n = m + 1 := ⟨n - 1, by omega⟩
    have s3 := sr_cell h (by omega : 3 < 4) hb
    have s2 := sr_cell h (by omega : 2 < 4) hb
    have s0 := sr_cell h (by omega : 0 < 4) hb
    rw [e4] at s3
    rw [e3] at s2
    rw [e1] at s0
    have hm : (a + 1) * e ≤ 100 * 100 := Nat.mul_le_mul ha (by omega)
    have hm' : (a + 1) * e < 2 ^ 31 := by omega
    have hdv : (a + 1) * e / 100 ≤ (a + 1) * e := Nat.div_le_self _ _
    by_cases hfit : q + (a + 1) * e / 100 ≤ c
    · have hta : tkN v b x = a + 1 := by
        have := (div_fit h5 (by omega)).mp hfit
        omega
      have h16 : R.1 0 (116 + 4 * b + 3) = nI q := by rw [rz_b h (k := 16) (by omega) hb (by omega), e4]
      have r1 := RV.wz h g (k := 16) (j := b) (i := 116 + 4 * b + 3) (x := nI q + nI ((a + 1) * e / 100)) (by unfold zi; simp) (by unfold inR; omega) (Or.inl (by decide))
      have c1 : GA (wn v 16 b (nI q + nI ((a + 1) * e / 100))) := g.congr' fun j => pu_wn_k _ _ _ _ (by decide)
      have h18 := rz_18 r1 (j := 2) (i := 183) (by decide) rfl
      rw [pu_wn_k _ _ _ _ (by decide)] at h18
      have r2 := RV.wz r1 c1 (k := 18) (j := 2) (i := 183) (x := v 18 2 + (nI (a + 1) - nI ((a + 1) * e / 100))) rfl (by unfold inR; omega) (Or.inl (by decide))
      have r3 : stP v b (nI x) = wn (wn v 16 b (nI q + nI ((a + 1) * e / 100))) 18 2 (v 18 2 + (nI (a + 1) - nI ((a + 1) * e / 100))) := by
        unfold stP
        rw [t1, hta, e3, e4, show (100 : Int32) = nI 100 from rfl, pk_mul, pk_div (by omega) (by omega) (by omega)]
      rw [← r3] at r2
      refine ⟨_, ?_, r2, (wz_Fr _ _ _).trans (wz_Fr _ _ _)⟩
      · rw [hta]
        simp (disch := omega) only [f_X7_charge_31, pu_bnd, pu_some, pu_let, pu_inb, pu_rd, pu_wr, nI_1, nI_leI, nI_ltI, nI_eq, pu_lit, nI_add, pk_mul, s3, s2, s0, pk_div, hfit, if_true, h16]
        rw [show setR R (wn R.1 0 (116 + 4 * b + 3) (nI (q + (a + 1) * e / 100))) = wz R (116 + 4 * b + 3) (nI q + nI ((a + 1) * e / 100)) by rw [nI_add]; rfl, h18, pk_sub (by omega)]
        rw [nI_add]
        rfl
    · have hne : tkN v b x ≠ a + 1 := fun z => hfit ((div_fit h5 (by omega)).mpr (by omega))
      obtain ⟨R', a1, a2, a3⟩ := ih n (by omega) (by omega) (by omega) (by omega)
      refine ⟨R', ?_, a2, a3⟩
      rw [← a1]
      simp (disch := omega) only [f_X7_charge_31, pu_bnd, pu_some, pu_let, pu_inb, pu_rd, pu_wr, nI_1, nI_leI, nI_ltI, nI_eq, pu_lit, nI_add, pk_mul, s3, s2, s0, pk_div, hfit, if_false]
      rw [← Int32.sub_eq_add_neg, pk_sub (by omega), Nat.add_sub_cancel]
theorem sr_charge {v : VS} {R : RS} (h : RV v R) (g : GA v) (gb : GB v) {x : Nat} (hx : x < 2 ^ 31) : ∃ R', f_X7_charge R (nI x) = some R' ∧ RV (stS v (nI x)) R' ∧ Fr R R' := by
  obtain ⟨n, hn⟩ : ∃ n, fuel = n + 1 + 1 + 1 := ⟨99997, rfl⟩
  have st : ∀ (w : VS) (Q : RS), RV w Q → GA w → GB w → ∀ b, b < 2 → ∀ (m y : Nat), y < 2 ^ 31 → ∃ Q', f_X7_charge_4 (m + 1) (nI y) (nI b) Q = f_X7_charge_4 m (nI (y - tkN w b y)) (nI (b + 1)) Q' ∧ RV (stP w b (nI y)) Q' ∧ Fr Q Q' := fun w Q hQ gw gbw b hb m y hy => by
    have h2 : ¬ 2 ≤ b := by omega
    obtain ⟨c, r, e, q, h1, h2', h3, h4, h5, e1, e2, e3, e4⟩ := gbw b hb
    have hr : (w 14 b).toNatClampNeg = r := by rw [e2, nI_clamp (by omega)]
    have s1 := sr_cell hQ (by omega : 1 < 4) hb
    rw [e2] at s1
    obtain ⟨Q', a1, a2, a3⟩ := sr_charge31 hQ gw gbw hb (f_X7_charge_4 m) hy (min r y) fuel (by omega) (by unfold tkN; rw [hr]; omega) (by rw [hr]; omega) (fuel_gt (by omega))
    refine ⟨Q', ?_, a2, a3⟩
    rw [← a1]
    simp (disch := omega) only [f_X7_charge_4, f_X7_charge_29, pu_bnd, pu_some, pu_let, pu_inb, pu_rd, pu_wr, nI_1, nI_leI, nI_ltI, nI_eq, pu_lit, nI_add, pk_mul, h2, if_false, s1]
    by_cases hc : y ≤ r
    · rw [if_pos hc, Nat.min_eq_right hc]
    · rw [if_neg hc, Nat.min_eq_left (by omega)]
  obtain ⟨R1, a1, a2, a3⟩ := st v R h g gb 0 (by decide) (n + 1 + 1) x hx
  obtain ⟨R2, b1, b2, b3⟩ := st _ R1 a2 (stP_GA g _ _) (stP_GB gb (by decide) hx) 1 (by decide) (n + 1) (x - tkN v 0 x) (by omega)
  have k0 := tk0_nat gb (by decide : 0 < 2) hx
  have k1 := tk0_nat (stP_GB gb (by decide : 0 < 2) hx) (by decide : 1 < 2) (x := x - tkN v 0 x) (by omega)
  have h18 := rz_18 b2 (j := 3) (i := 184) (by decide) rfl
  have r3 := RV.wz b2 (stP_GA (stP_GA g _ _) _ _) (k := 18) (j := 3) (i := 184) (x := stP (stP v 0 (nI x)) 1 (nI (x - tkN v 0 x)) 18 3 + nI (x - tkN v 0 x - tkN (stP v 0 (nI x)) 1 (x - tkN v 0 x))) rfl (by unfold inR; omega) (Or.inl (by decide))
  have r4 : stS v (nI x) = wn (stP (stP v 0 (nI x)) 1 (nI (x - tkN v 0 x))) 18 3 (stP (stP v 0 (nI x)) 1 (nI (x - tkN v 0 x)) 18 3 + nI (x - tkN v 0 x - tkN (stP v 0 (nI x)) 1 (x - tkN v 0 x))) := by
    unfold stS
    rw [k0.1, pk_sub k0.2.1, k1.1, pk_sub k1.2.1]
  rw [← r4] at r3
  refine ⟨_, ?_, r3, (a3.trans b3).trans (wz_Fr _ _ _)⟩
  · unfold f_X7_charge
    rw [show f_X7_charge_4 fuel (nI x) 0 R = f_X7_charge_4 (n + 1 + 1 + 1) (nI x) (nI 0) R by rw [hn]; rfl, a1, b1]
    simp (disch := omega) only [f_X7_charge_4, pu_bnd, pu_some, pu_let, pu_inb, pu_rd, pu_wr, nI_1, nI_leI, nI_ltI, nI_eq, pu_lit, nI_add, pk_mul, Nat.reduceLeDiff, Nat.reduceAdd, if_true, h18]
    rfl
