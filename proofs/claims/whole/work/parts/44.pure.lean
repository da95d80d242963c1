/-! what is told, once more; lending -/
theorem op_feeder : Op_feeder Rel := by
  intro n S R a0 a1 hn h
  unfold f_X6_feeder f_X7_feeder
  simp only [wi_67]
  rcases wi0 (p := a0) 2 (by decide) with h1 | ⟨h1, x, hx, rfl⟩
  · rw [show f_X6_within a0 0 2 = some 0 from h1, pu_some, pu_some, ite00, ite00]; exact ⟨_, rfl, rfl, rel_mono h (by omega)⟩
  · rw [show f_X6_within (nI x) 0 2 = some 1 from h1, pu_some, pu_some, ite10, ite10]
    rcases wi0 (p := a1) 4 (by decide) with h3 | ⟨h3, k, hk, rfl⟩
    · rw [show f_X6_within a1 0 4 = some 0 from h3, pu_some, pu_some, ite00, ite00]; exact ⟨_, rfl, rfl, rel_mono h (by omega)⟩
    · rw [show f_X6_within (nI k) 0 4 = some 1 from h3, pu_some, pu_some, ite10, ite10, some_id]
      have g := h.1.1.1
      have hv : RV (S.1 0) R := h.1.2.2
      unfold f_X7_feederNow
      simp only [some_id]
      have : k = 0 ∨ k = 1 ∨ k = 2 ∨ k = 3 ∨ k = 4 := by omega
      rcases this with e | e | e | e | e <;> subst e
      · simp (disch := omega) only [pu_lit, nI_eq, nI_leI, Nat.reduceLeDiff, Nat.reduceEqDiff, if_true, if_false, sp_sizeOf g, sr_ofHouses hv g (nI x) (by omega : 0 < 3)]
        exact ⟨_, rfl, rfl, rel_mono h (by omega)⟩
      · simp (disch := omega) only [pu_lit, nI_eq, nI_leI, Nat.reduceLeDiff, Nat.reduceEqDiff, if_true, if_false, pu_inb, pu_bnd, pu_rd, sp_drawnFrom g, sr_ofHouses hv g (nI x) (by omega : 1 < 3)]
        exact ⟨_, rfl, rfl, rel_mono h (by omega)⟩
      · simp (disch := omega) only [pu_lit, nI_eq, nI_leI, Nat.reduceLeDiff, Nat.reduceEqDiff, if_true, if_false, sp_sumFrom g, sr_ofHouses hv g (nI x) (by omega : 2 < 3)]
        exact ⟨_, rfl, rfl, rel_mono h (by omega)⟩
      · simp (disch := omega) only [pu_lit, nI_eq, nI_leI, Nat.reduceLeDiff, Nat.reduceEqDiff, Nat.le_refl, if_true, if_false, pu_inb, pu_bnd, pu_rd, nI_add]
        rw [rz_19 hv (j := x) (by omega) rfl]
        exact ⟨_, rfl, rfl, rel_mono h (by omega)⟩
      · simp (disch := omega) only [pu_lit, nI_eq, nI_leI, Nat.reduceLeDiff, Nat.reduceEqDiff, if_true, if_false, pu_inb, pu_bnd, pu_rd, nI_add]
        rw [rz_20 hv (j := x) (by omega) rfl]
        exact ⟨_, rfl, rfl, rel_mono h (by omega)⟩
theorem op_house : Op_house Rel := by
  intro n S R a0 a1 hn h
  unfold f_X6_house f_X7_house
  simp only [wi_67]
  rcases is_house h a0 with ⟨h1, h2⟩ | ⟨x, hx, rfl, h1, h2⟩
  · rw [h1, h2, pu_some, pu_some, ite00, ite00]; exact ⟨_, rfl, rfl, rel_mono h (by omega)⟩
  · rw [h1, h2, pu_some, pu_some, ite10, ite10]
    rcases wi0 (p := a1) 10 (by decide) with h3 | ⟨h3, k, hk, rfl⟩
    · rw [show f_X6_within a1 0 10 = some 0 from h3, pu_some, pu_some, ite00, ite00]; exact ⟨_, rfl, rfl, rel_mono h (by omega)⟩
    · rw [show f_X6_within (nI k) 0 10 = some 1 from h3, pu_some, pu_some, ite10, ite10, some_id]
      have g := h.1.1.1
      have h10 := g.2.1
      have hv : RV (S.1 0) R := h.1.2.2
      unfold f_X7_houseNow f_X2_told f_X7_houseNow_56 f_X7_houseNow_69 f_X4_owedBy f_X4_owedTo f_X2_told_97
      simp only [some_id]
      have s0 := sr_of hv g (by omega : 0 < 8) hx
      have s1 := sr_of hv g (by omega : 1 < 8) hx
      have s2 := sr_of hv g (by omega : 2 < 8) hx
      have s3 := sr_of hv g (by omega : 3 < 8) hx
      have s4 := sr_of hv g (by omega : 4 < 8) hx
      have s5 := sr_of hv g (by omega : 5 < 8) hx
      have s6 := sr_of hv g (by omega : 6 < 8) hx
      have s7 := sr_of hv g (by omega : 7 < 8) hx
      have hd := sr_canDraw hv g hx
      have o0 := sr_owed hv g (by omega : 0 < 2) (nI x)
      have o1 := sr_owed hv g (by omega : 1 < 2) (nI x)
      have hd6 := sp_canDraw (v := S.1 0) (h := x) (by omega) (S.1 0 17 0)
      have hx10 : x < 10 := by omega
      have : k = 0 ∨ k = 1 ∨ k = 2 ∨ k = 3 ∨ k = 4 ∨ k = 5 ∨ k = 6 ∨ k = 7 ∨ k = 8 ∨ k = 9 ∨ k = 10 := by omega
      rcases this with e | e | e | e | e | e | e | e | e | e | e <;> subst e <;> simp (disch := omega) only [pu_lit, nI_eq, Nat.reduceEqDiff, Nat.reduceAdd, Nat.reduceSub, if_true, if_false, pu_inb, pu_bnd, pu_rd, pk_sub, s0, s1, s2, s3, s4, s5, s6, s7, hd, hd6, o0, o1, sp_sumOwed g (Or.inl rfl), sp_sumOwed g (Or.inr rfl)] <;> exact ⟨_, rfl, rfl, rel_mono h (by omega)⟩
theorem op_count : Op_count Rel := by
  intro n S R a0 hn h
  have g := h.1.1.1
  have hv : RV (S.1 0) R := h.1.2.2
  obtain ⟨m, m1, m2, m3, _⟩ := h.2.2.1
  obtain ⟨k0, k1, i1, i2, i3, i4, i5, _⟩ := h.2.2.2
  unfold f_X7_count
  rw [wi_67]
  rcases wi0 (p := a0) 7 (by decide) with h1 | ⟨h1, x, hx, rfl⟩
  · rw [show f_X6_within a0 0 7 = some 0 from h1, pu_some, ite00]
    have e : ∀ m : Nat, m ≤ 7 → a0 ≠ nI m := fun m hm z => by
      subst z
      have : m = 0 ∨ m = 1 ∨ m = 2 ∨ m = 3 ∨ m = 4 ∨ m = 5 ∨ m = 6 ∨ m = 7 := by omega
      rcases this with e | e | e | e | e | e | e | e <;> subst e <;> exact absurd h1 (by decide)
    unfold f_X6_count
    rw [if_neg (show ¬ a0 = 0 from e 0 (by decide)), if_neg (show ¬ a0 = 1 from e 1 (by decide)), if_neg (show ¬ a0 = 2 from e 2 (by decide)), if_neg (show ¬ a0 = 3 from e 3 (by decide)), if_neg (show ¬ a0 = 4 from e 4 (by decide)), if_neg (show ¬ a0 = 5 from e 5 (by decide)), if_neg (show ¬ a0 = 6 from e 6 (by decide)), if_neg (show ¬ a0 = 7 from e 7 (by decide))]
    exact ⟨_, rfl, rfl, rel_mono h (by omega)⟩
  · rw [show f_X6_within (nI x) 0 7 = some 1 from h1, pu_some, ite10, some_id]
    unfold f_X6_count f_X7_counted
    have q2 := g.2.2.2.2.2.2.2.1
    have q1 := g.2.2.2.2.1
    have z2 := rz_172 hv g
    have z3 := rz_173 hv g
    have z4 := rz_174 hv g
    have z5 := rz_175 hv g
    have z6 := rz_176 hv
    have q0 := g.1
    have q3 := g.2.2.1
    have : x = 0 ∨ x = 1 ∨ x = 2 ∨ x = 3 ∨ x = 4 ∨ x = 5 ∨ x = 6 ∨ x = 7 := by omega
    rcases this with e | e | e | e | e | e | e | e <;> subst e
    case inr.inr.inr.inr.inr.inr.inr.inl =>
      refine ⟨nI (k0 + 2 * k1), ?_, ?_, rel_mono h (by omega)⟩
      · rw [if_neg (by decide), if_neg (by decide), if_neg (by decide), if_neg (by decide), if_neg (by decide), if_neg (by decide), if_pos (by decide)]
        unfold f_X6_count_116
        have a2 : k0 = 0 ∨ k0 = 1 := by omega
        have a3 : k1 = 0 ∨ k1 = 1 := by omega
        simp (disch := omega) only [pu_lit, pu_inb, pu_bnd, pu_rd, i3, i4]
        rcases a2 with e | e <;> rcases a3 with e' | e' <;> subst e <;> subst e' <;> rfl
      · rw [if_neg (by decide), if_neg (by decide), if_neg (by decide), if_neg (by decide), if_neg (by decide), if_neg (by decide), if_pos (by decide), i5]
    all_goals
      simp (disch := omega) only [pu_lit, nI_eq, Nat.reduceEqDiff, if_true, if_false, pu_inb, pu_bnd, pu_rd, some_id, sp_overdrawn g, sr_negative hv g, z2, z3, z4, z5, z6, q0, q1, q2, q3, m2, m3]
      exact ⟨_, rfl, rfl, rel_mono h (by omega)⟩
