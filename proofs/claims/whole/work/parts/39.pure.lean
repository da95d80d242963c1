/-! calls: the hours, and small changes -/
def PHn : Nat → VS → VS
  | 0, v => v
  | d + 1, v => PHn d (PH v)
theorem PHn_G {c : Nat} : ∀ (d t : Nat) (v : VS), G v → GN c t v → t + d < 2 ^ 29 → G (PHn d v) ∧ GN c (t + d) (PHn d v) := by
  intro d
  induction d with
  | zero => intro t v g gn _; exact ⟨g, gn⟩
  | succ d ih =>
    intro t v g gn ht
    have h := PH_G g gn (by omega)
    have := ih (t + 1) (PH v) h.1 h.2 (by omega)
    rw [show t + (d + 1) = t + 1 + d by omega]
    exact this
theorem sp_passHours {a c : Nat} (ha : a < 2 ^ 31) : ∀ (d i n t : Nat) (v : VS), i + d = a → d < n → G v → GN c t v → t + d < 2 ^ 29 → f_X5_passHours_2 (nI a) n (nI i) v = some (PHn d v) := by
  intro d
  induction d with
  | zero =>
    intro i n t v hi hn g gn ht
    obtain ⟨n, rfl⟩ : ∃ m, n = m + 1 := ⟨n - 1, by omega⟩
    obtain rfl : i = a := by omega
    simp (disch := omega) only [f_X5_passHours_2, pu_bnd, pu_some, pu_let, pu_inb, pu_rd, pu_wr, nI_1, nI_leI, nI_ltI, nI_eq, pu_lit, nI_add, pk_mul, Nat.le_refl, if_true]
    rfl
  | succ d ih =>
    intro i n t v hi hn g gn ht
    obtain ⟨n, rfl⟩ : ∃ m, n = m + 1 := ⟨n - 1, by omega⟩
    have h1 : ¬ a ≤ i := by omega
    have h := PH_G g gn (by omega)
    simp (disch := omega) only [f_X5_passHours_2, pu_bnd, pu_some, pu_let, pu_inb, pu_rd, pu_wr, nI_1, nI_leI, nI_ltI, nI_eq, pu_lit, nI_add, pk_mul, h1, if_false, sp_passHour g.1 (GF.of g.2.1)]
    exact ih (i + 1) n (t + 1) (PH v) (by omega) (by omega) h.1 h.2 (by omega)
theorem sr_run28 {a c : Nat} (ha : a < 2 ^ 31) (x2 : Int32) : ∀ (d i n t : Nat) (v : VS) (R : RS), i + d = a → d < n → G v → GN c t v → t + d < 2 ^ 29 → RV v R → ∃ R', f_X7_run_28 (nI a) x2 n (nI i) R = some (PHn d v 18 1 - x2, R') ∧ RV (PHn d v) R' ∧ Fr R R' := by
  intro d
  induction d with
  | zero =>
    intro i n t v R hi hn g gn ht h
    obtain ⟨n, rfl⟩ : ∃ m, n = m + 1 := ⟨n - 1, by omega⟩
    obtain rfl : i = a := by omega
    refine ⟨R, ?_, h, Fr.rfl' R⟩
    simp (disch := omega) only [f_X7_run_28, pu_bnd, pu_some, pu_let, pu_inb, pu_rd, pu_wr, nI_1, nI_leI, nI_ltI, nI_eq, pu_lit, nI_add, pk_mul, Nat.le_refl, if_true]
    rw [rz_18 h (j := 1) (by decide) rfl]
    rfl
  | succ d ih =>
    intro i n t v R hi hn g gn ht h
    obtain ⟨n, rfl⟩ : ∃ m, n = m + 1 := ⟨n - 1, by omega⟩
    have h1 : ¬ a ≤ i := by omega
    have hG := PH_G g gn (by omega)
    obtain ⟨R1, a1, a2, a3⟩ := sr_pass h g
    obtain ⟨R', b1, b2, b3⟩ := ih (i + 1) n (t + 1) (PH v) R1 (by omega) (by omega) hG.1 hG.2 (by omega) a2
    refine ⟨R', ?_, b2, a3.trans b3⟩
    simp (disch := omega) only [f_X7_run_28, pu_bnd, pu_some, pu_let, pu_inb, pu_rd, pu_wr, nI_1, nI_leI, nI_ltI, nI_eq, pu_lit, nI_add, pk_mul, h1, if_false, a1]
    exact b1
theorem ite10 {α : Type} (a b : α) : (if (1 : Int32) = 0 then a else b) = b := if_neg (by decide)
theorem ite00 {α : Type} (a b : α) : (if (0 : Int32) = 0 then a else b) = a := if_pos rfl
theorem wi_67 (p a b : Int32) : f_X7_within p a b = f_X6_within p a b := rfl
theorem wi {p : Int32} (a b : Nat) (ha : a < 2 ^ 31) (hb : b < 2 ^ 31) : f_X6_within p (nI a) (nI b) = some 0 ∨ (f_X6_within p (nI a) (nI b) = some 1 ∧ ∃ x, a ≤ x ∧ x ≤ b ∧ p = nI x) := by
  unfold f_X6_within
  by_cases h1 : p < nI a
  · rw [if_pos h1]; exact Or.inl rfl
  · rw [if_neg h1]
    by_cases h2 : nI b < p
    · rw [if_pos h2]; exact Or.inl rfl
    · rw [if_neg h2]
      refine Or.inr ⟨rfl, ?_⟩
      rw [Int32.lt_iff_toInt_lt, nI_toInt ha] at h1
      rw [Int32.lt_iff_toInt_lt, nI_toInt hb] at h2
      obtain ⟨x, e1, e2, e3⟩ := i32_nat (x := p) (by omega)
      exact ⟨x, by omega, by omega, e1⟩
/-- a number of a house, or of a loan -/
theorem wiL {p : Int32} (m : Nat) (hm : m ≤ 12) : f_X6_within p 0 (nI m - 1) = some 0 ∨ (f_X6_within p 0 (nI m - 1) = some 1 ∧ ∃ x, x < m ∧ p = nI x) := by
  by_cases h0 : m = 0
  · subst h0
    refine Or.inl ?_
    unfold f_X6_within
    by_cases h1 : p < 0
    · rw [if_pos h1]
    · rw [if_neg h1, if_pos]
      rw [Int32.lt_iff_toInt_lt] at h1 ⊢
      have e : (nI 0 - 1 : Int32).toInt = -1 := by decide
      have e0 : (0 : Int32).toInt = 0 := by decide
      omega
  · obtain ⟨k, rfl⟩ : ∃ k, m = k + 1 := ⟨m - 1, by omega⟩
    rw [nI_pred]
    rcases wi (p := p) 0 k (by decide) (by omega) with h | ⟨h, x, h1, h2, h3⟩
    · exact Or.inl h
    · exact Or.inr ⟨h, x, by omega, h3⟩
theorem is_house {n : Nat} {S : PS} {R : RS} (h : Rel n S R) (p : Int32) : (f_X6_isHouse S p = some 0 ∧ f_X7_isHouse R p = some 0) ∨ ∃ x, x < hsz (S.1 0) ∧ p = nI x ∧ f_X6_isHouse S p = some 1 ∧ f_X7_isHouse R p = some 1 := by
  obtain ⟨⟨g, _, hv⟩, _⟩ := h
  have g0 := g.1
  have e : f_X7_isHouse R p = f_X6_isHouse S p := by
    unfold f_X6_isHouse f_X7_isHouse
    simp (disch := omega) only [pu_lit, pu_inb, pu_bnd, pu_rd, rz_172 (v := S.1 0) hv g0, g0.1, wi_67]
  have e6 : f_X6_isHouse S p = f_X6_within p 0 (nI (hsz (S.1 0)) - 1) := by
    unfold f_X6_isHouse
    rw [g0.1]
    rcases f_X6_within p 0 (nI (hsz (S.1 0)) - 1) with _ | _ <;> rfl
  rcases wiL (p := p) (hsz (S.1 0)) (by have := g0.2.1; omega) with h1 | ⟨h1, x, h2, h3⟩
  · exact Or.inl ⟨by rw [e6, h1], by rw [e, e6, h1]⟩
  · exact Or.inr ⟨x, h2, h3, by rw [e6, h1], by rw [e, e6, h1]⟩
theorem is_loan {n : Nat} {S : PS} {R : RS} (h : Rel n S R) (p : Int32) : (f_X6_isLoan S p = some 0 ∧ f_X7_isLoan R p = some 0) ∨ ∃ x, x < lsz (S.1 0) ∧ p = nI x ∧ f_X6_isLoan S p = some 1 ∧ f_X7_isLoan R p = some 1 := by
  obtain ⟨⟨g, _, hv⟩, _⟩ := h
  have g0 := g.1
  have e : f_X7_isLoan R p = f_X6_isLoan S p := by
    unfold f_X6_isLoan f_X7_isLoan
    simp (disch := omega) only [pu_lit, pu_inb, pu_bnd, pu_rd, rz_173 (v := S.1 0) hv g0, g0.2.2.1, wi_67]
  have e6 : f_X6_isLoan S p = f_X6_within p 0 (nI (lsz (S.1 0)) - 1) := by
    unfold f_X6_isLoan
    rw [g0.2.2.1]
    rcases f_X6_within p 0 (nI (lsz (S.1 0)) - 1) with _ | _ <;> rfl
  rcases wiL (p := p) (lsz (S.1 0)) (by have := g0.2.2.2.1; omega) with h1 | ⟨h1, x, h2, h3⟩
  · exact Or.inl ⟨by rw [e6, h1], by rw [e, e6, h1]⟩
  · exact Or.inr ⟨x, h2, h3, by rw [e6, h1], by rw [e, e6, h1]⟩
theorem op_none : OpNone Rel := fun n S R _ h => rel_mono h (by omega)
theorem op_run : Op_run Rel := by
  intro n S R a0 hn h
  unfold f_X6_run f_X7_run
  rw [wi_67]
  rcases wi (p := a0) 1 100 (by decide) (by decide) with h1 | ⟨h1, a, ha1, ha2, rfl⟩
  · rw [show f_X6_within a0 1 100 = some 0 from h1]
    exact ⟨_, S, R, rfl, rfl, rel_mono h (by omega)⟩
  · rw [show f_X6_within (nI a) 1 100 = some 1 from h1]
    obtain ⟨S1, R1, b1, b2, b3, b4, b5, _⟩ := rel_record h
    obtain ⟨⟨g, gn, hv⟩, _⟩ := id b3
    have hp := sp_passHours (c := 1000 * n) (a := a) (by omega) a 0 fuel (100 * n) (S1.1 0) (by omega) (fuel_gt (by omega)) g gn (by omega)
    obtain ⟨R2, c1, c2, c3⟩ := sr_run28 (c := 1000 * n) (a := a) (by omega) (S1.1 0 18 1) a 0 fuel (100 * n) (S1.1 0) R1 (by omega) (fuel_gt (by omega)) g gn (by omega) hv
    have hG := PHn_G a (100 * n) (S1.1 0) g gn (by omega)
    refine ⟨PHn a (S1.1 0) 18 1 - S1.1 0 18 1, setV S1 0 (PHn a (S1.1 0)), R2, ?_, ?_, rel_set b3 (by omega) ⟨hG.1, hG.2.mono (by omega) (by omega), c2⟩ c3.s⟩
    · rw [pu_some, ite10, b1, pu_some]
      unfold f_X5_passHours
      rw [show (0 : Int32) = nI 0 from rfl, hp]
      simp (disch := omega) only [pu_some, pu_let, pu_lit, pu_inb, pu_bnd, pu_rd, setV_at]
    · rw [pu_some, ite10, b2, pu_some]
      simp (disch := omega) only [pu_let, pu_lit, pu_inb, pu_bnd, pu_rd]
      rw [rz_18 (v := S1.1 0) hv (j := 1) (by decide) rfl]
      exact c1
theorem op_clear : Op_clear Rel := by
  intro n S R hn h
  obtain ⟨h0, ⟨L, l1, l2, l3, l4⟩, ⟨m, m1, m2, m3, m4, m5, m6⟩, ⟨k0, k1, i1, i2, i3, i4, i5, i6, i7⟩⟩ := rel_mono h (Nat.le_succ n)
  refine ⟨nI L, setV S 12 (wn (S.1 12) 2 0 0), setR R (wn R.1 7 2 0), ?_, ?_, ?_⟩
  · unfold f_X6_clear; rw [l2]; rfl
  · unfold f_X7_clear; rw [l3]; rfl
  · have s12 : ∀ k j, ¬ (k = 2 ∧ j = 0) → (setV S 12 (wn (S.1 12) 2 0 0)).1 12 k j = S.1 12 k j := fun k j hk => by rw [setV_at, pu_wn, if_neg hk]
    have sv : ∀ i, i ≠ 12 → (setV S 12 (wn (S.1 12) 2 0 0)).1 i = S.1 i := fun i hi => setV_ne _ _ hi
    have rk : ∀ k, k ≠ 7 → (setR R (wn R.1 7 2 0)).1 k = R.1 k := fun k hk => funext fun j => pu_wn_k _ _ _ _ hk
    have r7 : ∀ j, j ≠ 2 → (setR R (wn R.1 7 2 0)).1 7 j = R.1 7 j := fun j hj => pu_wn_j R.1 7 0 7 hj
    refine ⟨by rw [sv 0 (by decide), rk 0 (by decide)]; exact h0, ⟨0, by decide, ?_, ?_, fun i hi => absurd hi (Nat.not_lt_zero _)⟩, ⟨m, m1, ?_, ?_, m4, m5, ?_⟩, ⟨k0, k1, i1, i2, ?_, ?_, ?_, ?_, ?_⟩⟩
    · rw [setV_at, pu_wn_s]; rfl
    · exact pu_wn_s R.1 7 2 0
    · rw [s12 _ _ (by decide)]; exact m2
    · rw [r7 _ (by decide)]; exact m3
    · intro i hi
      rw [setV_2, sv _ (by have := m4 i (by omega); omega), rk 2 (by decide)]
      exact m6 i hi
    · rw [s12 _ _ (by decide)]; exact i3
    · rw [s12 _ _ (by decide)]; exact i4
    · rw [r7 _ (by decide)]; exact i5
    · rw [sv 2 (by decide), rk 3 (by decide)]; exact i6
    · rw [sv 3 (by decide), rk 3 (by decide)]; exact i7
theorem op_type : Op_type Rel := by
  intro n S R a0 hn h
  have h' := rel_mono h (Nat.le_succ n)
  obtain ⟨h0, ⟨L, l1, l2, l3, l4⟩, ⟨m, m1, m2, m3, m4, m5, m6⟩, ⟨k0, k1, i1, i2, i3, i4, i5, i6, i7⟩⟩ := id h'
  unfold f_X6_type f_X7_type
  rw [wi_67]
  rcases wi (p := a0) 33 126 (by decide) (by decide) with h1 | ⟨h1, a, ha1, ha2, rfl⟩
  · rw [show f_X6_within a0 33 126 = some 0 from h1]
    exact ⟨_, S, R, rfl, rfl, h'⟩
  · rw [show f_X6_within (nI a) 33 126 = some 1 from h1, pu_some, pu_some, ite10, ite10, l2, l3]
    by_cases hL : L = 60
    · subst hL
      rw [if_neg (by decide), if_pos (show nI 60 = 60 from rfl)]
      exact ⟨_, S, R, rfl, rfl, h'⟩
    · rw [if_pos (show nI L < 60 from nI_lt (b := 60) (by omega) (by decide)), if_neg (fun z : nI L = 60 => hL (nI_inj0 (b := 60) (by omega) (by decide) z))]
      refine ⟨nI (L + 1), setV S 12 (wn (wn (S.1 12) 0 L (nI a)) 2 0 (nI (L + 1))), setR R (wn (wn R.1 4 L (nI a)) 7 2 (nI (L + 1))), ?_, ?_, ?_⟩
      · unfold f_X3_append
        rw [l2]
        simp (disch := omega) only [pu_let, pu_inb, pu_bnd, pu_wr, pu_some, setV_at]
        rw [pu_wn_s, pu_wn_k (S.1 12) (k := 0) (k' := 2) L (nI a) 0 (by decide), l2, nI_1]
      · simp (disch := omega) only [pu_let, pu_inb, pu_bnd, pu_wr, pu_some]
        have e7 : (setR R (wn R.1 4 L (nI a))).1 7 2 = nI L := (pu_wn_k R.1 (k := 4) (k' := 7) L (nI a) 2 (by decide)).trans l3
        rw [e7, nI_1]
        have e8 : (setR (setR R (wn R.1 4 L (nI a))) (wn (setR R (wn R.1 4 L (nI a))).1 7 2 (nI (L + 1)))).1 7 2 = nI (L + 1) := pu_wn_s (setR R (wn R.1 4 L (nI a))).1 7 2 (nI (L + 1))
        rw [e8]
        rfl
      · have s12 : ∀ k j, ¬ (k = 2 ∧ j = 0) → ¬ (k = 0 ∧ j = L) → (setV S 12 (wn (wn (S.1 12) 0 L (nI a)) 2 0 (nI (L + 1)))).1 12 k j = S.1 12 k j := fun k j hk hk2 => by rw [setV_at, pu_wn, if_neg hk, pu_wn, if_neg hk2]
        have sv : ∀ i, i ≠ 12 → (setV S 12 (wn (wn (S.1 12) 0 L (nI a)) 2 0 (nI (L + 1)))).1 i = S.1 i := fun i hi => setV_ne _ _ hi
        have rk : ∀ k, k ≠ 7 → k ≠ 4 → (setR R (wn (wn R.1 4 L (nI a)) 7 2 (nI (L + 1)))).1 k = R.1 k := fun k hk hk2 => funext fun j => (pu_wn_k _ _ _ _ hk).trans (pu_wn_k _ _ _ _ hk2)
        have r7 : ∀ j, j ≠ 2 → (setR R (wn (wn R.1 4 L (nI a)) 7 2 (nI (L + 1)))).1 7 j = R.1 7 j := fun j hj => (pu_wn_j (wn R.1 4 L (nI a)) 7 (nI (L + 1)) 7 hj).trans (pu_wn_k R.1 (k := 4) (k' := 7) L (nI a) j (by decide))
        refine ⟨by rw [sv 0 (by decide), rk 0 (by decide) (by decide)]; exact h0, ⟨L + 1, by omega, ?_, ?_, ?_⟩, ⟨m, m1, ?_, ?_, m4, m5, ?_⟩, ⟨k0, k1, i1, i2, ?_, ?_, ?_, ?_, ?_⟩⟩
        · rw [setV_at, pu_wn_s]
        · exact pu_wn_s (wn R.1 4 L (nI a)) 7 2 (nI (L + 1))
        · intro i hi
          have e4 : (setR R (wn (wn R.1 4 L (nI a)) 7 2 (nI (L + 1)))).1 4 i = if i = L then nI a else R.1 4 i := by
            show wn (wn R.1 4 L (nI a)) 7 2 (nI (L + 1)) 4 i = _
            rw [pu_wn_k _ _ _ _ (by decide), pu_wn]
            simp
          rw [e4]
          by_cases hi2 : i = L
          · subst hi2
            rw [if_pos rfl, setV_at, pu_wn_k _ _ _ _ (by decide), pu_wn_s]
            exact ⟨rfl, a, ha1, ha2, rfl⟩
          · rw [if_neg hi2, s12 _ _ (by omega) (by omega)]
            exact l4 i (by omega)
        · rw [s12 _ _ (by decide) (by omega)]; exact m2
        · rw [r7 _ (by decide)]; exact m3
        · intro i hi
          rw [setV_2, sv _ (by have := m4 i (by omega); omega), rk 2 (by decide) (by decide)]
          exact m6 i hi
        · rw [s12 _ _ (by decide) (by omega)]; exact i3
        · rw [s12 _ _ (by decide) (by omega)]; exact i4
        · rw [r7 _ (by decide)]; exact i5
        · rw [sv 2 (by decide), rk 3 (by decide) (by decide)]; exact i6
        · rw [sv 3 (by decide), rk 3 (by decide) (by decide)]; exact i7
