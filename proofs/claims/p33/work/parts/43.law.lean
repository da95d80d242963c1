/-! THE LAW'S HOUR: serving -/
theorem sl_229 {w R : VS} (h : VL w R) (s : SM w) {j : Nat} (hj : j < hsz w) (hd : (0 : Int32) ≤ w 1 j) {b1 b2 : Bool} {f : Nat} (hf : f < 3) (K : Int32 → Int32 → VS → Option VS) (x5 x6 l p : Int32) : f_L_hour_229 K R x5 x6 (nI (mk2 b1 b2)) l (nI f) (nI j) p = K (l - p) (nI (j + 1)) (wn (wn R 2 j p) 2 (8 + j) (rsn p (w 1 j) (w 3 j) (cdr (w 4 j) (w 1 j) (w 3 j) (w 17 0)) (bt b1 b2 f))) := by
  have h8 := s.1
  have hin : inL 5 j := Or.inl ⟨by decide, by omega⟩
  have h' : VL (wn w 5 j p) (wn R 2 j p) := VL.put h s (k := 5) (j := j) (r := 2) (p := j) rfl rfl hin (Or.inl (by decide))
  have s' : SM (wn w 5 j p) := s.congr fun i _ => pu_wn_k _ _ _ _ (by decide)
  have z' : hsz (wn w 5 j p) = hsz w := hsz_congr (pu_wn_k _ _ _ _ (by decide))
  have hj' : j < hsz (wn w 5 j p) := by rw [z']; exact hj
  have k1 : ∀ k, k ≠ 5 → ∀ i, (wn w 5 j p) k i = w k i := fun k hk i => pu_wn_k _ _ _ _ hk
  have e1 := rl_h h' (k := 1) (by decide) hj' rfl
  have e3 := rl_h h' (k := 3) (by decide) hj' rfl
  rw [k1 1 (by decide)] at e1
  rw [k1 3 (by decide)] at e3
  have ed := sl_draw' h' s' hj' (by rw [k1 1 (by decide)]; exact hd)
  rw [k1 4 (by decide), k1 1 (by decide), k1 3 (by decide), k1 17 (by decide)] at ed
  have k320 : ∀ x, f_L_hour_320 K (wn R 2 j p) x5 x6 (nI (mk2 b1 b2)) (l - p) (nI f) (nI j) x ((8 : Int32) + nI j) = K (l - p) (nI (j + 1)) (wn (wn R 2 j p) 2 (8 + j) x) := fun x => by
    unfold f_L_hour_320 f_L_hour_321
    rw [show (8 : Int32) + nI j = nI (8 + j) from nI_add 8 j, pu_inb (by omega) (by decide), pu_bnd, pu_let, pu_let, nI_1, pu_wr (by omega)]
  have i6 : ∀ k, k < 6 → (6 : Int32) * nI j + nI k = nI (6 * j + k) := fun k _ => by rw [show (6 : Int32) * nI j = nI (6 * j) from pk_mul 6 j, nI_add]
  unfold f_L_hour_229
  rw [pu_let, pu_inb (by omega) (by decide), pu_bnd, pu_let, pu_wr (by omega), show (6 : Int32) * nI j + 1 = nI (6 * j + 1) from i6 1 (by decide), show (6 : Int32) * nI j + 3 = nI (6 * j + 3) from i6 3 (by decide), pu_inb (by omega) (by decide), pu_bnd, pu_let, pu_rd (by omega), e1, pu_inb (by omega) (by decide), pu_bnd, pu_rd (by omega), e3, ed, pu_some, bt_bit b1 b2 hf]
  unfold rsn
  by_cases c1 : p = w 1 j
  · rw [if_pos c1, if_pos c1, k320]
  · rw [if_neg c1, if_neg c1]
    by_cases c2 : w 3 j = 0
    · rw [if_pos c2, if_pos c2, k320]
    · rw [if_neg c2, if_neg c2]
      by_cases c3 : w 1 j ≤ cdr (w 4 j) (w 1 j) (w 3 j) (w 17 0)
      · rw [if_pos c3, if_pos c3]
        by_cases c4 : bt b1 b2 f = true
        · rw [if_pos c4, if_pos c4, if_pos rfl, k320]
        · rw [if_neg c4, if_neg c4, if_neg (by decide), k320]
      · rw [if_neg c3, if_neg c3, k320]
theorem sl_194 {u w R : VS} (h : VL w R) (hu : u 17 3 = w 17 3) (K : Int32 → Int32 → VS → Option VS) (x5 x6 x7 l x9 x10 p : Int32) : f_L_hour_194 K R x5 x6 x7 l x9 x10 p = f_L_hour_229 K R x5 x6 x7 l x9 x10 (pt u p l) := by
  have e7 := rl_17 h (j := 3) (by decide) rfl
  unfold f_L_hour_194 pt
  rw [show inb (7 : Int32) 20 = true from pu_inb (i := 7) (by decide) (by decide), pu_bnd, show rd R 0 (7 : Int32) = R 0 7 from pu_rd (i := 7) (by decide), e7, hu]
  by_cases c : l < p
  · rw [if_pos c, if_pos c]
    rw [show (100 : Int32) * l = l * 100 from Int32.mul_comm _ _]
    by_cases c2 : l * 100 < p * w 17 3
    · rw [if_pos c2, if_neg (by rw [Int32.lt_iff_toInt_lt] at c2; rw [Int32.le_iff_toInt_le]; omega)]
    · rw [if_neg c2, if_pos (by rw [Int32.lt_iff_toInt_lt] at c2; rw [Int32.le_iff_toInt_le]; omega)]
  · rw [if_neg c, if_neg c]
/-- what a village behind shedding has -/
def UB (u : VS) (b1 b2 : Bool) : Prop := GA u ∧ SM u ∧ GF u ∧ (∀ j, j < hsz u → (0 : Int32) ≤ u 1 j) ∧ (∀ j, j < hsz u → u 9 j = wtO u b1 b2 j) ∧ (∀ j, j < hsz u → u 8 j = cdr (u 4 j) (u 1 j) (u 3 j) (u 17 0)) ∧ (∀ f, f < 3 → u 20 f = if bt b1 b2 f = true then 1 else 0)
theorem UB_late {u : VS} {b1 b2 : Bool} (B : UB u b1 b2) {j : Nat} (hj : j < hsz u) : late u j = bt b1 b2 (fe u j) := by
  have := B.2.2.2.2.2.2 (fe u j) (B.2.2.1 j hj).1
  unfold late
  rw [this]
  cases bt b1 b2 (fe u j) <;> decide
theorem sl_serve1 {u : VS} {b1 b2 : Bool} (B : UB u b1 b2) (K : Int32 → Int32 → VS → Option VS) (x5 x6 : Int32) {f : Nat} (hf : f < 3) : ∀ (d i n : Nat) (s : Int32 × (Nat → Int32)) (R : VS), i + d = hsz u → d < n → VL (SY u (PP u f i) nBL s.2) R → OffR (mk2 b1 b2) R →
    ∃ R', f_L_hour_152 K x5 x6 (nI (mk2 b1 b2)) (nI f) n s.1 (nI i) R = K (sv1 u f i d s).1 (nI (f + 1)) R' ∧ VL (SY u (PP u f (hsz u)) nBL (sv1 u f i d s).2) R' ∧ OffR (mk2 b1 b2) R' := by
  obtain ⟨g, sm, gf, hd, h9, h8, h20⟩ := id B
  have h10 := sm.1
  intro d
  induction d with
  | zero =>
    intro i n s R hi hn h o
    obtain ⟨n, rfl⟩ : ∃ m, n = m + 1 := ⟨n - 1, by omega⟩
    obtain rfl : i = hsz u := by omega
    have r0 := rl_0 h (SY_GA g _ _ _)
    rw [SY_hsz] at r0
    refine ⟨R, ?_, h, o⟩
    rw [f_L_hour_152, show inb (0 : Int32) 20 = true from pu_inb (i := 0) (by decide) (by decide), pu_bnd, show rd R 0 (0 : Int32) = R 0 0 from pu_rd (i := 0) (by decide), r0, if_pos (by rw [nI_leI (by omega) (by omega)]; exact Nat.le_refl _), pu_let, nI_1]
    rfl
  | succ d ih =>
    intro i n s R hi hn h o
    obtain ⟨n, rfl⟩ : ∃ m, n = m + 1 := ⟨n - 1, by omega⟩
    have hj : i < hsz u := by omega
    have smw := SY_SM sm (PP u f i) nBL s.2
    have hjw : i < hsz (SY u (PP u f i) nBL s.2) := by rw [SY_hsz]; exact hj
    have r0 := rl_0 h (SY_GA g _ _ _)
    rw [SY_hsz] at r0
    have e0 := rl_h h (k := 0) (by decide) hjw rfl
    have sw : ∀ k, k ≠ 5 ∧ k ≠ 6 → ∀ j, SY u (PP u f i) nBL s.2 k j = u k j := fun k hk j => SY_nB u _ _ hk
    rw [sw 0 (by decide), (gf i hj).2] at e0
    have hdw : (0 : Int32) ≤ SY u (PP u f i) nBL s.2 1 i := by rw [sw 1 (by decide)]; exact hd i hj
    have hfe := (gf i hj).1
    have hstep : f_L_hour_152 K x5 x6 (nI (mk2 b1 b2)) (nI f) (n + 1) s.1 (nI i) R = if fe u i = f then f_L_hour_194 (f_L_hour_152 K x5 x6 (nI (mk2 b1 b2)) (nI f) n) R x5 x6 (nI (mk2 b1 b2)) s.1 (nI f) (nI i) (u 9 i) else f_L_hour_152 K x5 x6 (nI (mk2 b1 b2)) (nI f) n s.1 (nI (i + 1)) R := by
      rw [f_L_hour_152, show inb (0 : Int32) 20 = true from pu_inb (i := 0) (by decide) (by decide), pu_bnd, show rd R 0 (0 : Int32) = R 0 0 from pu_rd (i := 0) (by decide), r0, if_neg (nI_ge hj (by omega)), show (6 : Int32) * nI i = nI (6 * i) from pk_mul 6 i, pu_inb (by omega) (by decide), pu_bnd, pu_rd (by omega)]
      rw [show R 1 (6 * i) = nI (fe u i) from e0, bt_bit b1 b2 hf, sl_draw' h smw hjw hdw, pu_some, sw 1 (by decide), sw 3 (by decide), sw 4 (by decide), sw 17 (by decide)]
      by_cases c : fe u i = f
      · rw [if_pos (by rw [c]), if_pos c, h9 i hj]
        unfold wtO
        rw [c]
        by_cases c2 : bt b1 b2 f = true
        · rw [if_pos c2, if_pos c2, if_pos rfl]
        · rw [if_neg c2, if_neg c2, if_neg (by decide)]
      · rw [if_neg (fun z => c ((nI_eq (by omega) (by omega)).mp z)), if_neg c]
        unfold f_L_hour_321
        rw [pu_let, nI_1]
    rw [hstep]
    show ∃ R', _ = K (sv1 u f (i + 1) d _).1 _ R' ∧ VL (SY u _ nBL (sv1 u f (i + 1) d _).2) R' ∧ _
    by_cases c : fe u i = f
    · rw [if_pos c, if_pos c, sl_194 h (u := u) (sw 17 (by decide) 3).symm, sl_229 h smw hjw hdw hf, sw 1 (by decide), sw 3 (by decide), sw 4 (by decide), sw 17 (by decide), ← h8 i hj, ← c, ← UB_late B hj]
      obtain ⟨p, hp⟩ : ∃ p, p = pt u (u 9 i) s.1 := ⟨_, rfl⟩
      rw [← hp, c]
      have i5 : inL 5 i := Or.inl ⟨by decide, by omega⟩
      have i6 : inL 6 i := Or.inl ⟨by decide, by omega⟩
      have v1 := VL.put h smw (k := 5) (j := i) (r := 2) (p := i) (x := p) rfl rfl i5 (Or.inl (by decide))
      have v2 := VL.put v1 (smw.congr fun j _ => pu_wn_k _ _ _ _ (by decide)) (k := 6) (j := i) (r := 2) (p := 8 + i) (x := rsn p (u 1 i) (u 3 i) (u 8 i) (late u i)) rfl rfl i6 (Or.inl (by decide))
      rw [SY_step u (PP u f i) (PP u f (i + 1)) s.2 i p (fun j => PP_step hj c j)] at v2
      exact ih (i + 1) n (s.1 - p, upd s.2 i p) _ (by omega) (by omega) v2 ((o.wn _ (Or.inl (by decide))).wn _ (Or.inl (by decide)))
    · rw [if_neg c, if_neg c]
      rw [SY_congrP u nBL s.2 (fun j => PP_skip c j)] at h
      exact ih (i + 1) n s R (by omega) (by omega) h o
theorem sl_serve {u : VS} {b1 b2 : Bool} (B : UB u b1 b2) (x5 av : Int32) {R : VS} (h : VL u R) (o : OffR (mk2 b1 b2) R) : ∃ R', f_L_hour_143 x5 av (nI (mk2 b1 b2)) fuel av 0 R = f_L_hour_343 x5 (av - (svAll u av).1) fuel 0 R' ∧ VL (SY u (fun j => decide (j < hsz u)) nBL (svAll u av).2) R' ∧ OffR (mk2 b1 b2) R' := by
  obtain ⟨g, sm, gf, hd, h9, h8, h20⟩ := id B
  have h10 := sm.1
  obtain ⟨n, hn⟩ : ∃ n, fuel = n + 1 + 1 + 1 + 1 := ⟨99996, rfl⟩
  have e0 : SY u (PP u 0 0) nBL (fun _ => 0) = u := vs_ext fun k j => SY_same (fun _ => by unfold PP; simp) (fun _ => by unfold PP; simp) (fun _ => rfl) (fun _ => rfl)
  have st : ∀ f, f < 3 → ∀ (m : Nat) (s : Int32 × (Nat → Int32)) (Q : VS), VL (SY u (PP u f 0) nBL s.2) Q → OffR (mk2 b1 b2) Q → ∃ Q', f_L_hour_143 x5 av (nI (mk2 b1 b2)) (m + 1) s.1 (nI f) Q = f_L_hour_143 x5 av (nI (mk2 b1 b2)) m (sv1 u f 0 (hsz u) s).1 (nI (f + 1)) Q' ∧ VL (SY u (PP u (f + 1) 0) nBL (sv1 u f 0 (hsz u) s).2) Q' ∧ OffR (mk2 b1 b2) Q' := fun f hf m s Q hQ oQ => by
    have h3 : ¬ (3 : Int32) ≤ nI f := nI_ge (b := 3) (by omega) (by decide)
    obtain ⟨Q', a1, a2, a3⟩ := sl_serve1 B (f_L_hour_143 x5 av (nI (mk2 b1 b2)) m) x5 av hf (hsz u) 0 fuel s Q (by omega) (fuel_gt (by omega)) hQ oQ
    refine ⟨Q', ?_, ?_, a3⟩
    · rw [f_L_hour_143, if_neg h3]
      exact a1
    · rw [SY_congrP u nBL _ (fun j => PP_next j)] at a2
      exact a2
  obtain ⟨Q1, a1, a2, a3⟩ := st 0 (by decide) (n + 1 + 1 + 1) (av, fun _ => 0) R (by rw [e0]; exact h) o
  obtain ⟨Q2, c1, c2, c3⟩ := st 1 (by decide) (n + 1 + 1) _ Q1 a2 a3
  obtain ⟨Q3, d1, d2, d3⟩ := st 2 (by decide) (n + 1) _ Q2 c2 c3
  refine ⟨Q3, ?_, ?_, d3⟩
  · rw [show f_L_hour_143 x5 av (nI (mk2 b1 b2)) fuel av 0 R = f_L_hour_143 x5 av (nI (mk2 b1 b2)) (n + 1 + 1 + 1 + 1) av 0 R by rw [hn]]
    refine a1.trans (c1.trans (d1.trans ?_))
    rw [f_L_hour_143, if_pos (by decide), pu_let]
    rfl
  · rw [SY_congrP u nBL _ (P := PP u (2 + 1) 0) (P' := fun j => decide (j < hsz u)) (fun j => by
      unfold PP
      refine decide_eq_decide.mpr ?_
      constructor
      · intro z; omega
      · intro z; have := (gf j z).1; omega)] at d2
    exact d2
/-- credits: each house pays what it got -/
theorem sl_pay {u : VS} (g : GA u) (sm : SM u) (w : Nat → Int32) {m : Nat} (x5 x9 : Int32) : ∀ (d i n : Nat) (R : VS), i + d = hsz u → d < n → VL (SY u (fun j => decide (j < hsz u)) (fun j => decide (j < i)) w) R → OffR m R →
    ∃ R', f_L_hour_343 x5 x9 n (nI i) R = f_L_hour_399 x5 x9 fuel (x5 - x9) 0 R' ∧ VL (SV u (fun j => decide (j < hsz u)) w) R' ∧ OffR m R' := by
  have h10 := sm.1
  intro d
  induction d with
  | zero =>
    intro i n R hi hn h o
    obtain ⟨n, rfl⟩ : ∃ m, n = m + 1 := ⟨n - 1, by omega⟩
    obtain rfl : i = hsz u := by omega
    have r0 := rl_0 h (SY_GA g _ _ _)
    rw [SY_hsz] at r0
    rw [SY_all] at h
    refine ⟨R, ?_, h, o⟩
    rw [f_L_hour_343, show inb (0 : Int32) 20 = true from pu_inb (i := 0) (by decide) (by decide), pu_bnd, show rd R 0 (0 : Int32) = R 0 0 from pu_rd (i := 0) (by decide), r0, if_pos (by rw [nI_leI (by omega) (by omega)]; exact Nat.le_refl _), pu_let]
  | succ d ih =>
    intro i n R hi hn h o
    obtain ⟨n, rfl⟩ : ∃ m, n = m + 1 := ⟨n - 1, by omega⟩
    have hj : i < hsz u := by omega
    have smw := SY_SM sm (fun j => decide (j < hsz u)) (fun j => decide (j < i)) w
    have hjw : i < hsz (SY u (fun j => decide (j < hsz u)) (fun j => decide (j < i)) w) := by rw [SY_hsz]; exact hj
    have r0 := rl_0 h (SY_GA g _ _ _)
    rw [SY_hsz] at r0
    have e4 := rl_h h (k := 4) (by decide) hjw rfl
    have e7 := rl_h7 h hjw rfl
    have e5 := rl_h5 h hjw
    have f4 : SY u (fun j => decide (j < hsz u)) (fun j => decide (j < i)) w 4 i = u 4 i := SY_same (fun e => absurd e (by decide)) (fun e => absurd e (by decide)) (fun _ => by simp) (fun _ => by simp)
    have f7 : SY u (fun j => decide (j < hsz u)) (fun j => decide (j < i)) w 7 i = u 7 i := SY_same (fun e => absurd e (by decide)) (fun e => absurd e (by decide)) (fun _ => by simp) (fun _ => by simp)
    have f5 : SY u (fun j => decide (j < hsz u)) (fun j => decide (j < i)) w 5 i = w i := by
      unfold SY
      rw [if_pos ⟨rfl, by simp; exact hj⟩]
    rw [f4] at e4
    rw [f7] at e7
    rw [f5] at e5
    have i4 : inL 4 i := Or.inl ⟨by decide, by omega⟩
    have i7 : inL 7 i := Or.inl ⟨by decide, by omega⟩
    have v1 := VL.put h smw (k := 4) (j := i) (r := 1) (p := 6 * i + 4) (x := u 4 i - w i) rfl rfl i4 (Or.inl (by decide))
    have v2 := VL.put v1 (smw.congr fun j _ => pu_wn_k _ _ _ _ (by decide)) (k := 7) (j := i) (r := 1) (p := 6 * i + 5) (x := u 7 i + w i) rfl rfl i7 (Or.inl (by decide))
    rw [SY_pay] at v2
    obtain ⟨R', a1, a2, a3⟩ := ih (i + 1) n _ (by omega) (by omega) v2 ((o.wn _ (Or.inl (by decide))).wn _ (Or.inl (by decide)))
    refine ⟨R', ?_, a2, a3⟩
    rw [← a1]
    have i6 : ∀ k, k < 6 → (6 : Int32) * nI i + nI k = nI (6 * i + k) := fun k _ => by rw [show (6 : Int32) * nI i = nI (6 * i) from pk_mul 6 i, nI_add]
    have g1 : (wn R 1 (6 * i + 4) (u 4 i - w i)) 1 (6 * i + 5) = u 7 i := by rw [pu_wn_j _ _ _ _ (by omega)]; exact e7
    have g2 : (wn R 1 (6 * i + 4) (u 4 i - w i)) 2 i = w i := by rw [pu_wn_k _ _ _ _ (by decide)]; exact e5
    rw [f_L_hour_343, show inb (0 : Int32) 20 = true from pu_inb (i := 0) (by decide) (by decide), pu_bnd, show rd R 0 (0 : Int32) = R 0 0 from pu_rd (i := 0) (by decide), r0, if_neg (nI_ge hj (by omega)), show (6 : Int32) * nI i + 4 = nI (6 * i + 4) from i6 4 (by decide), show (6 : Int32) * nI i + 5 = nI (6 * i + 5) from i6 5 (by decide), pu_inb (by omega) (by decide), pu_bnd, pu_inb (by omega) (by decide), pu_bnd, pu_bnd, pu_let, pu_rd (by omega), pu_rd (by omega), e4, e5, pu_wr (i := 6 * i + 4) (by omega), pu_inb (by omega) (by decide), pu_bnd, pu_bnd, pu_bnd, pu_let, pu_rd (by omega), g1, pu_rd (by omega), g2, pu_wr (i := 6 * i + 5) (by omega), pu_let, nI_1]
