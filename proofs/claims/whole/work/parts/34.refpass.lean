/-! the reference's hour, as if on a village -/
def RW (v : VS) (R : RS) : Prop := ∀ j, j < hsz v → R.1 5 j = v 9 j
theorem sr_29 {v : VS} (g : GA v) (x1 x2 : Int32) : ∀ (d i n : Nat) (R : RS), i + d = hsz v → d < n → RV v R → (∀ j, j < i → R.1 5 j = cdr (v 4 j) (v 1 j) (v 3 j) (v 17 0)) →
    ∃ R', f_X7_pass_29 x1 x2 n (nI i) R = f_X7_pass_60 x1 x2 fuel 0 R' ∧ RV v R' ∧ Fr R R' ∧ ∀ j, j < hsz v → R'.1 5 j = cdr (v 4 j) (v 1 j) (v 3 j) (v 17 0) := by
  have h10 := g.2.1
  intro d
  induction d with
  | zero =>
    intro i n R hi hn h hw
    obtain ⟨n, rfl⟩ : ∃ m, n = m + 1 := ⟨n - 1, by omega⟩
    obtain rfl : i = hsz v := by omega
    refine ⟨R, ?_, h, Fr.rfl' R, hw⟩
    simp (disch := omega) only [f_X7_pass_29, pu_bnd, pu_some, pu_let, pu_inb, pu_rd, pu_wr, nI_1, nI_leI, nI_ltI, nI_eq, pu_lit, nI_add, pk_mul, rz_172 h g, Nat.le_refl, if_true]
  | succ d ih =>
    intro i n R hi hn h hw
    obtain ⟨n, rfl⟩ : ∃ m, n = m + 1 := ⟨n - 1, by omega⟩
    have h1 : ¬ hsz v ≤ i := by omega
    obtain ⟨R', e1, e2, e3, e4⟩ := ih (i + 1) n (w5 R i (cdr (v 4 i) (v 1 i) (v 3 i) (v 17 0))) (by omega) (by omega) (h.w5 _ _) (fun j hj => by
      rw [w55]
      by_cases hji : j = i
      · rw [if_pos hji, hji]
      · rw [if_neg hji]; exact hw j (by omega))
    refine ⟨R', ?_, e2, (w5_Fr R i _).trans e3, e4⟩
    simp (disch := omega) only [f_X7_pass_29, pu_bnd, pu_some, pu_let, pu_inb, pu_rd, pu_wr, nI_1, nI_leI, nI_ltI, nI_eq, pu_lit, nI_add, pk_mul, rz_172 h g, h1, if_false, sr_canDraw h g (by omega : i < hsz v)]
    exact e1
theorem sr_60 {v : VS} (g : GA v) {R : RS} (h : RV v R) (x1 x2 : Int32) : ∃ R', f_X7_pass_60 x1 x2 fuel 0 R = f_X7_pass_84 x1 x2 fuel 0 R' ∧ RV (rs0 v) R' ∧ Fr R R' ∧ ∀ j, R'.1 5 j = R.1 5 j := by
  obtain ⟨n, hn⟩ : ∃ n, fuel = n + 1 + 1 + 1 + 1 := ⟨99996, rfl⟩
  refine ⟨wz (wz (wz R 192 0) 193 0) 194 0, ?_, ?_, ((wz_Fr _ _ _).trans (wz_Fr _ _ _)).trans (wz_Fr _ _ _), fun j => by rw [wz5, wz5, wz5]⟩
  · rw [show f_X7_pass_60 x1 x2 fuel 0 R = f_X7_pass_60 x1 x2 (n + 1 + 1 + 1 + 1) 0 R by rw [hn]]
    simp (disch := omega) only [f_X7_pass_60, pu_bnd, pu_some, pu_let, pu_inb, pu_rd, pu_wr, nI_1, nI_leI, nI_ltI, nI_eq, pu_lit, nI_add, pk_mul, Nat.reduceLeDiff, Nat.reduceAdd, if_true, if_false]
    rfl
  · have c1 : GA (wn v 20 0 0) := g.congr' fun j => pu_wn_k _ _ _ _ (by decide)
    have c2 : GA (wn (wn v 20 0 0) 20 1 0) := c1.congr' fun j => pu_wn_k _ _ _ _ (by decide)
    exact RV.wz (RV.wz (RV.wz h g (k := 20) (j := 0) rfl (by unfold inR; omega) (Or.inl (by decide))) c1 (k := 20) (j := 1) rfl (by unfold inR; omega) (Or.inl (by decide))) c2 (k := 20) (j := 2) rfl (by unfold inR; omega) (Or.inl (by decide))
theorem sr_wanted0 {v : VS} (g : GA v) {R : RS} (h : RV v R) (hw : RW v R) : ∀ (d i n : Nat) (acc : Int32), i + d = hsz v → d < n → f_X7_wanted_4 R n acc (nI i) = some (smF (v 9) i d acc) := by
  have h10 := g.2.1
  intro d
  induction d with
  | zero =>
    intro i n acc hi hn
    obtain ⟨n, rfl⟩ : ∃ m, n = m + 1 := ⟨n - 1, by omega⟩
    have h1 : hsz v ≤ i := by omega
    simp (disch := omega) only [f_X7_wanted_4, rz_172 h g, pu_bnd, pu_some, pu_let, pu_inb, pu_rd, pu_wr, nI_1, nI_leI, nI_ltI, nI_eq, pu_lit, nI_add, pk_mul, h1, if_true]
    rfl
  | succ d ih =>
    intro i n acc hi hn
    obtain ⟨n, rfl⟩ : ∃ m, n = m + 1 := ⟨n - 1, by omega⟩
    have h1 : ¬ hsz v ≤ i := by omega
    simp (disch := omega) only [f_X7_wanted_4, rz_172 h g, pu_bnd, pu_some, pu_let, pu_inb, pu_rd, pu_wr, nI_1, nI_leI, nI_ltI, nI_eq, pu_lit, nI_add, pk_mul, h1, if_false, hw i (by omega)]
    exact ih (i + 1) n _ (by omega) (by omega)
theorem sr_wanted {v : VS} (g : GA v) {R : RS} (h : RV v R) (hw : RW v R) : f_X7_wanted R = some (wsum v) := by
  have := g.2.1
  exact sr_wanted0 g h hw (hsz v) 0 fuel 0 (by omega) (fuel_gt (by omega))
theorem sr_shed1 {v : VS} (g : GA v) (F : Int32) : ∀ (d i n : Nat) (acc : Int32) (R : RS), i + d = hsz v → d < n → RV v R → (∀ j, j < hsz v → R.1 5 j = if j < i ∧ v 0 j = F then 0 else v 9 j) →
    ∃ m R1, f_X7_shed_13 F n acc (nI i) R = f_X7_shed_13 F (m + 1) (smF (ofF v F (v 9)) i d acc) (nI (hsz v)) R1 ∧ RV v R1 ∧ Fr R R1 ∧ (∀ j, j < hsz v → R1.1 5 j = if v 0 j = F then 0 else v 9 j) := by
  have h10 := g.2.1
  intro d
  induction d with
  | zero =>
    intro i n acc R hi hn h hw
    obtain ⟨n, rfl⟩ : ∃ m, n = m + 1 := ⟨n - 1, by omega⟩
    obtain rfl : i = hsz v := by omega
    refine ⟨n, R, rfl, h, Fr.rfl' R, fun j hj => ?_⟩
    rw [hw j hj]
    simp [hj]
  | succ d ih =>
    intro i n acc R hi hn h hw
    obtain ⟨n, rfl⟩ : ∃ m, n = m + 1 := ⟨n - 1, by omega⟩
    have h1 : ¬ hsz v ≤ i := by omega
    have h5 : R.1 5 i = v 9 i := by
      rw [hw i (by omega), if_neg (fun z => Nat.lt_irrefl _ z.1)]
    by_cases hc : v 0 i = F
    · obtain ⟨m, R1, e1, e2, e3, e4⟩ := ih (i + 1) n (acc + ofF v F (v 9) i) (w5 R i 0) (by omega) (by omega) (h.w5 _ _) (fun j hj => by
        rw [w55, hw j hj]
        by_cases hji : j = i
        · subst hji
          rw [if_pos rfl, if_pos ⟨by omega, hc⟩]
        · rw [if_neg hji]
          by_cases hz : j < i ∧ v 0 j = F
          · rw [if_pos hz, if_pos ⟨by omega, hz.2⟩]
          · rw [if_neg hz, if_neg (fun z => hz ⟨by omega, z.2⟩)])
      refine ⟨m, R1, ?_, e2, (w5_Fr R i 0).trans e3, e4⟩
      show _ = f_X7_shed_13 F (m + 1) (smF _ (i + 1) d (acc + ofF v F (v 9) i)) (nI (hsz v)) R1
      rw [← e1]
      simp (disch := omega) only [f_X7_shed_13, f_X7_shed_51, rz_172 h g, pu_bnd, pu_some, pu_let, pu_inb, pu_rd, pu_wr, nI_1, nI_leI, nI_ltI, nI_eq, pu_lit, nI_add, pk_mul, h1, if_false, sr_of h g (by omega : 0 < 8) (by omega : i < hsz v), hc, if_true, h5]
      rw [ofF, if_pos hc]
      rfl
    · obtain ⟨m, R1, e1, e2, e3, e4⟩ := ih (i + 1) n (acc + ofF v F (v 9) i) R (by omega) (by omega) h (fun j hj => by
        rw [hw j hj]
        by_cases hz : j < i ∧ v 0 j = F
        · rw [if_pos hz, if_pos ⟨by omega, hz.2⟩]
        · rw [if_neg hz, if_neg (fun z => hz ⟨by
            by_cases hji : j = i
            · subst hji; exact absurd z.2 hc
            · omega, z.2⟩)])
      refine ⟨m, R1, ?_, e2, e3, e4⟩
      show _ = f_X7_shed_13 F (m + 1) (smF _ (i + 1) d (acc + ofF v F (v 9) i)) (nI (hsz v)) R1
      rw [← e1]
      simp (disch := omega) only [f_X7_shed_13, f_X7_shed_51, rz_172 h g, pu_bnd, pu_some, pu_let, pu_inb, pu_rd, pu_wr, nI_1, nI_leI, nI_ltI, nI_eq, pu_lit, nI_add, pk_mul, h1, if_false, sr_of h g (by omega : 0 < 8) (by omega : i < hsz v), hc]
      rw [ofF, if_neg hc, Int32.add_zero]
theorem sr_shed {v : VS} (g : GA v) (gw : GW v) {R : RS} (h : RV v R) (hw : RW v R) : ∃ R', f_X7_shed R = some R' ∧ RV (shS v) R' ∧ RW (shS v) R' ∧ Fr R R' := by
  have h10 := g.2.1
  have ht := trn_of g
  obtain ⟨m, R1, e1, e2, e3, e4⟩ := sr_shed1 g (nI (trn v)) (hsz v) 0 fuel 0 R (by omega) (fuel_gt (by omega)) h (fun j hj => by rw [hw j hj, if_neg (fun z => Nat.not_lt_zero _ z.1)])
  have h86 : ∀ (w : VS) (Q : RS), f_X7_shed_86 Q (nI (trn v)) = some (wz Q 176 (nI (3 - trn v))) := fun w Q => by
    unfold f_X7_shed_86
    simp (disch := omega) only [pu_bnd, pu_some, pu_let, pu_inb, pu_rd, pu_wr, nI_1, nI_leI, nI_ltI, nI_eq, pu_lit, nI_add, pk_mul, pk_sub (by omega : trn v ≤ 3)]
    rfl
  have hs : f_X7_shed R = f_X7_shed_13 (nI (trn v)) fuel 0 (nI 0) R := by
    unfold f_X7_shed
    simp (disch := omega) only [pu_bnd, pu_some, pu_let, pu_inb, pu_rd, pu_wr, nI_1, nI_leI, nI_ltI, nI_eq, pu_lit, nI_add, pk_mul, rz_176 h, ht.2]
  rw [hs, e1]
  unfold shS shW
  rw [ht.2]
  by_cases hc : smF (ofF v (nI (trn v)) (v 9)) 0 (hsz v) 0 ≤ 0
  · refine ⟨wz R1 176 (nI (3 - trn v)), ?_, ?_, ?_, e3.trans (wz_Fr _ _ _)⟩
    · simp (disch := omega) only [f_X7_shed_13, rz_172 e2 g, pu_bnd, pu_some, pu_let, pu_inb, pu_rd, pu_wr, nI_1, nI_leI, nI_ltI, nI_eq, pu_lit, nI_add, pk_mul, Nat.le_refl, if_true, h86 v]
      exact if_pos hc
    · rw [if_pos hc]
      exact RV.wz e2 g (k := 22) (j := 4) rfl (by unfold inR; omega) (Or.inr (by decide))
    · rw [if_pos hc]
      intro j hj
      have hj' : j < hsz v := by rw [show hsz (wn v 22 4 (nI (3 - trn v))) = hsz v from hsz_congr (pu_wn_j _ _ _ _ (by decide))] at hj; exact hj
      rw [wz5, e4 j hj', pu_wn_k _ _ _ _ (by decide)]
      by_cases hf : v 0 j = nI (trn v)
      · rw [if_pos hf]
        obtain ⟨S, s1, s2, s3⟩ := smF_nat (f := ofF v (nI (trn v)) (v 9)) (m := 50) (hsz v) 0 0 (fun j _ hj => by
          unfold ofF
          split
          · exact gw j (by omega)
          · exact ⟨0, by omega, rfl⟩)
        have hS : S = 0 := by
          rw [show (0 : Int32) = nI 0 from rfl, s1, Nat.zero_add] at hc
          have := (nI_leI (by omega) (by omega)).mp hc
          omega
        have := s3 hS j (by omega) (by omega)
        unfold ofF at this
        rw [if_pos hf] at this
        exact this.symm
      · rw [if_neg hf]
  · refine ⟨wz (wz (wz R1 (189 + trn v) (v 19 (trn v) + 1)) (192 + trn v) 1) 176 (nI (3 - trn v)), ?_, ?_, ?_, ((e3.trans (wz_Fr _ _ _)).trans (wz_Fr _ _ _)).trans (wz_Fr _ _ _)⟩
    · simp (disch := omega) only [f_X7_shed_13, rz_172 e2 g, pu_bnd, pu_some, pu_let, pu_inb, pu_rd, pu_wr, nI_1, nI_leI, nI_ltI, nI_eq, pu_lit, nI_add, pk_mul, Nat.le_refl, if_true, h86 v]
      rw [rz_19 e2 (j := trn v) (by omega) rfl]
      exact if_neg hc
    · rw [if_neg hc]
      have c1 : GA (wn v 19 (trn v) (v 19 (trn v) + 1)) := g.congr' fun j => pu_wn_k _ _ _ _ (by decide)
      have c2 : GA (wn (wn v 19 (trn v) (v 19 (trn v) + 1)) 20 (trn v) 1) := c1.congr' fun j => pu_wn_k _ _ _ _ (by decide)
      have r3 := RV.wz (RV.wz (RV.wz e2 g (k := 19) (j := trn v) (i := 189 + trn v) (x := v 19 (trn v) + 1) (by unfold zi; simp) (by unfold inR; omega) (Or.inl (by decide))) c1 (k := 20) (j := trn v) (i := 192 + trn v) (x := 1) (by unfold zi; simp) (by unfold inR; omega) (Or.inl (by decide))) c2 (k := 22) (j := 4) (i := 176) (x := nI (3 - trn v)) rfl (by unfold inR; omega) (Or.inr (by decide))
      refine r3.to ?_ ?_
      · simp [pu_wn, nS]
      · intro k j hr
        have hk : k ≠ 9 := by unfold relv at hr; omega
        simp only [pu_wn, nS]
        by_cases h22 : k = 22 ∧ j = 4
        · rw [if_pos h22, if_pos h22]
        · rw [if_neg h22, if_neg h22]
          by_cases h19 : k = 19 ∧ j = trn v
          · rw [if_pos h19, if_neg (by omega), if_pos h19]
          · rw [if_neg h19]
            by_cases h20 : k = 20 ∧ j = trn v
            · rw [if_pos h20, if_pos h20]
            · rw [if_neg h20, if_neg h20, if_neg h19, if_neg (fun z => hk z.1)]
    · rw [if_neg hc]
      intro j hj
      have hj' : j < hsz v := by
        rw [show hsz _ = hsz v from hsz_congr (by simp [pu_wn, nS])] at hj; exact hj
      rw [wz5, wz5, wz5, e4 j hj']
      simp only [pu_wn, nS]
      simp [hj']
/-! serving -/
def SX (v : VS) (P Q T : Nat → Bool) (g : Nat → Int32) : VS := fun k j => if k = 5 ∧ P j = true then g j else if k = 7 ∧ P j = true then v 7 j + g j else if k = 6 ∧ Q j = true then rsn (g j) (v 1 j) (v 3 j) (v 8 j) (late v j) else if k = 4 ∧ T j = true then v 4 j - g j else v k j
def nB : Nat → Bool := fun _ => false
theorem SX_same {v : VS} {P Q T : Nat → Bool} {g : Nat → Int32} {k j : Nat} (h5 : k = 5 → P j = false) (h7 : k = 7 → P j = false) (h6 : k = 6 → Q j = false) (h4 : k = 4 → T j = false) : SX v P Q T g k j = v k j := by
  unfold SX
  rw [if_neg (fun z => by rw [h5 z.1] at z; exact absurd z.2 (by decide)), if_neg (fun z => by rw [h7 z.1] at z; exact absurd z.2 (by decide)), if_neg (fun z => by rw [h6 z.1] at z; exact absurd z.2 (by decide)), if_neg (fun z => by rw [h4 z.1] at z; exact absurd z.2 (by decide))]
theorem SX_same' {v : VS} {P Q T : Nat → Bool} {g : Nat → Int32} {k j : Nat} (h : k ≠ 5 ∧ k ≠ 7 ∧ k ≠ 6 ∧ k ≠ 4) : SX v P Q T g k j = v k j := SX_same (fun e => absurd e h.1) (fun e => absurd e h.2.1) (fun e => absurd e h.2.2.1) (fun e => absurd e h.2.2.2)
theorem SX_step (v : VS) (P P' : Nat → Bool) (g : Nat → Int32) (i : Nat) (p : Int32) (hP' : ∀ j, P' j = (P j || decide (j = i))) : wn (wn (SX v P nB nB g) 5 i p) 7 i (v 7 i + p) = SX v P' nB nB (upd g i p) := by
  refine vs_ext fun k j => ?_
  simp only [pu_wn, SX, nB, hP', upd]
  by_cases hj : j = i
  · subst hj
    by_cases h7 : k = 7
    · subst h7; simp
    · by_cases h5 : k = 5
      · subst h5; simp
      · simp [h5, h7]
  · simp [hj]
theorem SX_GA {v : VS} (g : GA v) (P Q T : Nat → Bool) (w : Nat → Int32) : GA (SX v P Q T w) := g.congr' fun j => SX_same' (by omega)
theorem SX_hsz (v : VS) (P Q T : Nat → Bool) (w : Nat → Int32) : hsz (SX v P Q T w) = hsz v := hsz_congr (SX_same' (by omega))
theorem SX_congrP (v : VS) {P P' : Nat → Bool} (Q T : Nat → Bool) (g : Nat → Int32) (h : ∀ j, P j = P' j) : SX v P Q T g = SX v P' Q T g := by rw [show P = P' from funext h]
theorem PP_step {v : VS} {f i : Nat} (hi : i < hsz v) (hc : fe v i = f) (j : Nat) : PP v f (i + 1) j = (PP v f i j || decide (j = i)) := by
  unfold PP
  rw [← Bool.decide_or]
  refine decide_eq_decide.mpr ?_
  constructor
  · intro h; by_cases hj : j = i
    · exact Or.inr hj
    · exact Or.inl (by omega)
  · rintro (h | h)
    · omega
    · subst h; omega
theorem PP_skip {v : VS} {f i : Nat} (hc : ¬ fe v i = f) (j : Nat) : PP v f i j = PP v f (i + 1) j := by
  unfold PP
  refine decide_eq_decide.mpr ?_
  constructor
  · intro h; omega
  · intro h
    by_cases hj : j = i
    · subst hj; omega
    · omega
theorem PP_next {v : VS} {f : Nat} (j : Nat) : PP v f (hsz v) j = PP v (f + 1) 0 j := by
  unfold PP
  refine decide_eq_decide.mpr ?_
  constructor <;> intro h <;> omega
theorem sr_serve1 {v : VS} (g : GA v) (gf : GF v) (K : Int32 → Int32 → RS → Option (Int32 × RS)) (x1 : Int32) {f : Nat} (hf : f < 3) : ∀ (d i n : Nat) (s : Int32 × (Nat → Int32)) (R : RS), i + d = hsz v → d < n → RV (SX v (PP v f i) nB nB s.2) R → RW v R →
    ∃ R', f_X7_serve_12 K x1 (nI f) n s.1 (nI i) R = K (sv1 v f i d s).1 (nI (f + 1)) R' ∧ RV (SX v (PP v f (hsz v)) nB nB (sv1 v f i d s).2) R' ∧ RW v R' ∧ Fr R R' := by
  have h10 := g.2.1
  intro d
  induction d with
  | zero =>
    intro i n s R hi hn h hw
    obtain ⟨n, rfl⟩ : ∃ m, n = m + 1 := ⟨n - 1, by omega⟩
    obtain rfl : i = hsz v := by omega
    have hh := rz_172 h (SX_GA g _ _ _ _)
    rw [SX_hsz] at hh
    refine ⟨R, ?_, h, hw, Fr.rfl' R⟩
    simp (disch := omega) only [f_X7_serve_12, hh, pu_bnd, pu_some, pu_let, pu_inb, pu_rd, pu_wr, nI_1, nI_leI, nI_ltI, nI_eq, pu_lit, nI_add, pk_mul, Nat.le_refl, if_true]
    rfl
  | succ d ih =>
    intro i n s R hi hn h hw
    obtain ⟨n, rfl⟩ : ∃ m, n = m + 1 := ⟨n - 1, by omega⟩
    have h1 : ¬ hsz v ≤ i := by omega
    have gx : GA (SX v (PP v f i) nB nB s.2) := SX_GA g _ _ _ _
    have hh := rz_172 h gx
    rw [SX_hsz] at hh
    have hix : i < hsz (SX v (PP v f i) nB nB s.2) := by rw [SX_hsz]; omega
    have hof := sr_of h gx (by omega : 0 < 8) hix
    rw [SX_same' (by omega), (gf i (by omega)).2] at hof
    have hfe := (gf i (by omega)).1
    have hs3 := sr_setting1 h (by omega : 3 < 4)
    rw [SX_same' (by omega)] at hs3
    have h9 := hw i (by omega)
    by_cases hc : fe v i = f
    · have hPi : PP v f i i = false := by unfold PP; simp; omega
      have e7 : ∀ p, (wn (SX v (PP v f i) nB nB s.2) 5 i p) 7 i = v 7 i := fun p => by
        rw [pu_wn_k _ _ _ _ (by decide)]
        exact SX_same (fun e => absurd e (by decide)) (fun _ => hPi) (fun e => absurd e (by decide)) (fun e => absurd e (by decide))
      have hgo : ∀ p, f_X7_serve_82 (f_X7_serve_12 K x1 (nI f) n) R x1 s.1 (nI f) (nI i) p = f_X7_serve_12 K x1 (nI f) n (s.1 - p) (nI (i + 1)) (wz (wz R (8 * i + 5) p) (8 * i + 7) (v 7 i + p)) := fun p => by
        have r1 : RV (wn (SX v (PP v f i) nB nB s.2) 5 i p) (wz R (8 * i + 5) p) := RV.wz h gx (k := 5) (j := i) (by unfold zi; simp) (by unfold inR; omega) (Or.inl (by decide))
        have c1 : GA (wn (SX v (PP v f i) nB nB s.2) 5 i p) := gx.congr' fun j => pu_wn_k _ _ _ _ (by decide)
        have a1 := sr_add r1 c1 (k := 7) (j := i) (by decide) (by rw [show hsz (wn (SX v (PP v f i) nB nB s.2) 5 i p) = hsz v from (hsz_congr (pu_wn_k _ _ _ _ (by decide))).trans (SX_hsz _ _ _ _ _)]; omega) p
        rw [e7] at a1
        unfold f_X7_serve_82 f_X7_serve_113
        simp (disch := omega) only [pu_bnd, pu_some, pu_let, pu_inb, pu_rd, pu_wr, nI_1, nI_leI, nI_ltI, nI_eq, pu_lit, nI_add, pk_mul]
        rw [show setR R (wn R.1 0 (8 * i + 5) p) = wz R (8 * i + 5) p from rfl, a1, pu_some]
      have r2 : ∀ p, RV (SX v (PP v f (i + 1)) nB nB (upd s.2 i p)) (wz (wz R (8 * i + 5) p) (8 * i + 7) (v 7 i + p)) := fun p => by
        rw [← SX_step v (PP v f i) (PP v f (i + 1)) s.2 i p (PP_step (by omega) hc)]
        exact RV.wz (RV.wz h gx (k := 5) (j := i) (by unfold zi; simp) (by unfold inR; omega) (Or.inl (by decide))) (gx.congr' fun j => pu_wn_k _ _ _ _ (by decide)) (k := 7) (j := i) (by unfold zi; simp) (by unfold inR; omega) (Or.inl (by decide))
      obtain ⟨R', e1, e2, e3, e4⟩ := ih (i + 1) n (s.1 - pt v (v 9 i) s.1, upd s.2 i (pt v (v 9 i) s.1)) _ (by omega) (by omega) (r2 (pt v (v 9 i) s.1)) (fun j hj => by rw [wz5, wz5]; exact hw j hj)
      have hsv : sv1 v f i (d + 1) s = sv1 v f (i + 1) d (s.1 - pt v (v 9 i) s.1, upd s.2 i (pt v (v 9 i) s.1)) := by
        show sv1 v f (i + 1) d (if fe v i = f then _ else _) = _
        rw [if_pos hc]
      rw [hsv]
      refine ⟨R', ?_, e2, e3, ((wz_Fr _ _ _).trans (wz_Fr _ _ _)).trans e4⟩
      rw [← e1]
      have hfi : nI (fe v i) = nI f := by rw [hc]
      simp (disch := omega) only [f_X7_serve_12, hh, hof, hs3, h9, hfi, pu_bnd, pu_some, pu_let, pu_inb, pu_rd, pu_wr, nI_1, nI_leI, nI_ltI, nI_eq, pu_lit, nI_add, pk_mul, h1, if_false, if_true, hgo]
      unfold pt
      by_cases q1 : s.1 < v 9 i
      · rw [if_pos q1, if_pos q1]
        by_cases q2 : s.1 * 100 < v 9 i * v 17 3
        · rw [if_pos (show s.1 * nI 100 < v 9 i * v 17 3 from q2), if_pos q2]; rfl
        · rw [if_neg (show ¬ s.1 * nI 100 < v 9 i * v 17 3 from q2), if_neg q2]
      · rw [if_neg q1, if_neg q1]
    · obtain ⟨R', e1, e2, e3, e4⟩ := ih (i + 1) n s R (by omega) (by omega) (by rw [← SX_congrP v nB nB s.2 (PP_skip hc)]; exact h) hw
      have hsv : sv1 v f i (d + 1) s = sv1 v f (i + 1) d s := by
        show sv1 v f (i + 1) d (if fe v i = f then _ else _) = _
        rw [if_neg hc]
      rw [hsv]
      refine ⟨R', ?_, e2, e3, e4⟩
      rw [← e1]
      simp (disch := omega) only [f_X7_serve_12, f_X7_serve_113, hh, hof, pu_bnd, pu_some, pu_let, pu_inb, pu_rd, pu_wr, nI_1, nI_leI, nI_ltI, nI_eq, pu_lit, nI_add, pk_mul, h1, if_false, hc]
theorem sr_serve {v : VS} (g : GA v) (gf : GF v) {R : RS} (h : RV v R) (hw : RW v R) (av : Int32) : ∃ R', f_X7_serve R av = some (av - (svAll v av).1, R') ∧ RV (SX v (fun j => decide (j < hsz v)) nB nB (svAll v av).2) R' ∧ RW v R' ∧ Fr R R' := by
  have h10 := g.2.1
  obtain ⟨n, hn⟩ : ∃ n, fuel = n + 1 + 1 + 1 + 1 := ⟨99996, rfl⟩
  have st : ∀ f, f < 3 → ∀ (m : Nat) (s : Int32 × (Nat → Int32)) (Q : RS), RV (SX v (PP v f 0) nB nB s.2) Q → RW v Q → ∃ Q', f_X7_serve_4 av (m + 1) s.1 (nI f) Q = f_X7_serve_4 av m (sv1 v f 0 (hsz v) s).1 (nI (f + 1)) Q' ∧ RV (SX v (PP v (f + 1) 0) nB nB (sv1 v f 0 (hsz v) s).2) Q' ∧ RW v Q' ∧ Fr Q Q' := fun f hf m s Q hQ hwQ => by
    have h2 : ¬ 3 ≤ f := by omega
    obtain ⟨Q', e1, e2, e3, e4⟩ := sr_serve1 g gf (f_X7_serve_4 av m) av hf (hsz v) 0 fuel s Q (by omega) (fuel_gt (by omega)) hQ hwQ
    refine ⟨Q', ?_, ?_, e3, e4⟩
    · simp (disch := omega) only [f_X7_serve_4, pu_bnd, pu_some, pu_let, pu_inb, pu_rd, pu_wr, nI_1, nI_leI, nI_ltI, nI_eq, pu_lit, nI_add, pk_mul, h2, if_false]
      exact e1
    · rw [SX_congrP v nB nB _ (fun j => (PP_next (v := v) (f := f) j).symm)]
      exact e2
  obtain ⟨R1, a1, a2, a3, a4⟩ := st 0 (by decide) (n + 1 + 1 + 1) (av, fun _ => 0) R (by
    have e0 : SX v (PP v 0 0) nB nB (fun _ => 0) = v := vs_ext fun k j => SX_same (fun _ => by unfold PP; simp) (fun _ => by unfold PP; simp) (fun _ => rfl) (fun _ => rfl)
    rw [e0]; exact h) hw
  obtain ⟨R2, b1, b2, b3, b4⟩ := st 1 (by decide) (n + 1 + 1) (sv1 v 0 0 (hsz v) (av, fun _ => 0)) R1 a2 a3
  obtain ⟨R3, c1, c2, c3, c4⟩ := st 2 (by decide) (n + 1) (sv1 v 1 0 (hsz v) (sv1 v 0 0 (hsz v) (av, fun _ => 0))) R2 b2 b3
  refine ⟨R3, ?_, ?_, c3, (a4.trans b4).trans c4⟩
  · unfold f_X7_serve
    rw [show f_X7_serve_4 av fuel av 0 R = f_X7_serve_4 av (n + 1 + 1 + 1 + 1) av 0 R by rw [hn]]
    refine (show f_X7_serve_4 av (n + 1 + 1 + 1 + 1) av (nI 0) R = _ from a1).trans (b1.trans (c1.trans ?_))
    simp (disch := omega) only [f_X7_serve_4, pu_bnd, pu_some, pu_let, pu_inb, pu_rd, pu_wr, nI_1, nI_leI, nI_ltI, nI_eq, pu_lit, nI_add, pk_mul, Nat.reduceLeDiff, Nat.reduceAdd, if_true]
    rfl
  · rw [SX_congrP v nB nB _ (P := fun j => decide (j < hsz v)) (P' := PP v (2 + 1) 0) (fun j => by
      unfold PP
      refine decide_eq_decide.mpr ?_
      constructor
      · intro h; have := (gf j h).1; omega
      · intro h; omega)]
    exact c2
