/-! loading -/
theorem sr_load22 {m : Nat} (hm : m ≤ 48) {R : RS} (h3 : R.1 7 3 = nI m) : ∃ Q, f_X7_load_22 fuel 0 R = some (nI m, setR Q (wn Q.1 7 2 0)) ∧ Fr R Q ∧ (∀ i, Q.1 0 i = if i = 175 then nI m else if 124 ≤ i ∧ i < 124 + m then R.1 6 (i - 124) else R.1 0 i) := by
  have lp : ∀ (d x n : Nat) (Q : RS), x + d = m → d < n → Fr R Q → (∀ i, Q.1 0 i = if 124 ≤ i ∧ i < 124 + x then R.1 6 (i - 124) else R.1 0 i) →
      ∃ Q', f_X7_load_22 n (nI x) Q = some (nI m, setR Q' (wn Q'.1 7 2 0)) ∧ Fr R Q' ∧ (∀ i, Q'.1 0 i = if i = 175 then nI m else if 124 ≤ i ∧ i < 124 + m then R.1 6 (i - 124) else R.1 0 i) := by
    intro d
    induction d with
    | zero =>
      intro x n Q hx hn q1 q2
      obtain ⟨n, rfl⟩ : ∃ m, n = m + 1 := ⟨n - 1, by omega⟩
      obtain rfl : x = m := by omega
      have e3 : Q.1 7 3 = nI x := by rw [q1.2 7 (by decide) (by decide)]; exact h3
      refine ⟨wz Q 175 (nI x), ?_, q1.trans (wz_Fr _ _ _), fun i => by rw [wz0, q2]⟩
      show (if Q.1 7 3 ≤ nI x then _ else _) = _
      rw [e3, if_pos ((nI_leI (by omega) (by omega)).mpr (Nat.le_refl _)), show (175 : Int32) = nI 175 from rfl, pu_inb (by decide) (by decide), pu_bnd, pu_let, pu_wr (by decide), pu_let]
      have e4 : (setR (setR Q (wn Q.1 0 175 (nI x))) (wn (setR Q (wn Q.1 0 175 (nI x))).1 7 2 0)).1 7 3 = nI x := ((pu_wn_j (wn Q.1 0 175 (nI x)) 7 0 7 (by decide : (3 : Nat) ≠ 2)).trans (pu_wn_k Q.1 (k := 0) (k' := 7) 175 (nI x) 3 (by decide))).trans e3
      rw [e4]
      rfl
    | succ d ih =>
      intro x n Q hx hn q1 q2
      obtain ⟨n, rfl⟩ : ∃ m, n = m + 1 := ⟨n - 1, by omega⟩
      have e3 : Q.1 7 3 = nI m := by rw [q1.2 7 (by decide) (by decide)]; exact h3
      have e6 : Q.1 6 x = R.1 6 x := by rw [q1.2 6 (by decide) (by decide)]
      obtain ⟨Q', a1, a2⟩ := ih (x + 1) n (wz Q (124 + x) (R.1 6 x)) (by omega) (by omega) (q1.trans (wz_Fr _ _ _)) (fun i => by
        rw [wz0, q2]
        by_cases c : i = 124 + x
        · rw [if_pos c, if_pos (by omega), c, Nat.add_sub_cancel_left]
        · rw [if_neg c]
          by_cases c2 : 124 ≤ i ∧ i < 124 + x
          · rw [if_pos c2, if_pos (by omega)]
          · rw [if_neg c2, if_neg (by omega)])
      refine ⟨Q', ?_, a2⟩
      rw [← a1]
      show (if Q.1 7 3 ≤ nI x then _ else _) = _
      rw [e3, if_neg (fun z => by have := (nI_leI (by omega) (by omega)).mp z; omega), pu_inb (by omega : x < 48) (by decide), pu_bnd, show (124 : Int32) = nI 124 from rfl, nI_add, pu_inb (by omega) (by decide), pu_bnd, pu_wr (by omega), pu_rd (by omega), e6, pu_let, pu_let, nI_1]
      rfl
  exact lp m 0 fuel R (by omega) (fuel_gt (by omega)) (Fr.rfl' R) (fun i => by rw [if_neg (by omega)])
theorem op_load : Op_load Rel := by
  intro n S R hn h
  unfold f_X6_load f_X7_load
  rcases tx_all h with ⟨r, v', R', e0, e1, e2, e3, e4⟩ | ⟨s, T, val, v', R', e1, e2, e3, e4, t1, t2, t3, t4, t5, t6, t7, t8, t9⟩
  · have hne : ¬ nI r = -1000001 := fun z => by
      have hp := nI_pos' (n := r) (by omega)
      rw [z] at hp
      revert hp
      decide
    rw [e1, e2, pu_some, pu_some, pu_let, if_neg hne, if_neg hne]
    exact ⟨_, _, _, rfl, rfl, rel_txt h (by omega) e3 e4⟩
  · rw [e1, e2, pu_some, pu_some, pu_let, if_pos rfl, if_pos rfl]
    have hT := rel_txt h (Nat.le_refl n) e3 e4
    obtain ⟨S3, R3, b1, b2, b3, b4, b5, b6, b7, b8, b9⟩ := rel_record hT
    rw [b1, b2, pu_some, pu_some]
    obtain ⟨⟨g, gn, hv⟩, _⟩ := id b3
    have hv' : RV (S3.1 0) R3 := hv
    have c1 : S3.1 12 1 = v' 1 := by rw [b6 1 (by decide), setV_at]
    have c2 : S3.1 12 2 1 = nI (s + T) := by rw [b7 1 (by decide), setV_at, t4]
    obtain ⟨R4, r1, r2, r3, r4, r5, r6, r7, r8⟩ := sr_end (R := R3) (s := s) (T := T) (val := val) (by rw [b9 3 (by decide)]; exact t5) (by rw [b9 4 (by decide)]; exact t6) (by rw [b9 6 (by decide)]; exact t7) t2
    obtain ⟨Q, q1, q2, q3⟩ := sr_load22 t2 r2
    generalize hm : s + T = m at *
    have h16 : ∀ j, j < m → ∃ x, x ≤ 500 ∧ v' 1 j = nI x ∧ R4.1 6 j = nI x := fun j hj => by
      rw [r7]
      by_cases c : s ≤ j ∧ j < m
      · rw [if_pos c]; exact ⟨val, t3, t9 j c.1 c.2, rfl⟩
      · rw [if_neg c, b8 6 (by decide) (by decide)]; exact t8 j (by omega)
    generalize hW : wn (cpy (S3.1 0) 21 (v' 1) 48) 22 2 (nI m) = W
    have wk : ∀ k j, k ≠ 21 → ¬ (k = 22 ∧ j = 2) → W k j = S3.1 0 k j := fun k j k1 k2 => by rw [← hW, pu_wn, if_neg k2, pu_cpy, if_neg (fun z => k1 z.1)]
    have w21 : ∀ j, j < 48 → W 21 j = v' 1 j := fun j hj => by rw [← hW, pu_wn_k _ _ _ _ (by decide), pu_cpy, if_pos ⟨rfl, hj⟩]
    have w2 : W 22 2 = nI m := by rw [← hW, pu_wn_s]
    have hhW : hsz W = hsz (S3.1 0) := hsz_congr (wk 22 0 (by decide) (by decide))
    have hlW : lsz W = lsz (S3.1 0) := by unfold lsz; rw [wk 22 1 (by decide) (by decide)]
    have hqW : qsz W = m := by unfold qsz; rw [w2, nI_clamp (by omega)]
    have hrW : hrz W = hrz (S3.1 0) := by unfold hrz; rw [wk 22 3 (by decide) (by decide)]
    obtain ⟨ga, gh, gl, gb, gs, gt, gq⟩ := id g
    have gW : G W := by
      refine ⟨⟨?_, ?_, ?_, ?_, ?_, ?_, ?_, ?_, ?_, ?_⟩, ?_, ?_, ?_, ?_, ?_, ?_⟩
      · rw [wk 22 0 (by decide) (by decide), hhW]; exact ga.1
      · rw [hhW]; exact ga.2.1
      · rw [wk 22 1 (by decide) (by decide), hlW]; exact ga.2.2.1
      · rw [hlW]; exact ga.2.2.2.1
      · rw [w2, hqW]
      · rw [hqW]; omega
      · rw [hqW]; omega
      · rw [wk 22 3 (by decide) (by decide), hrW]; exact ga.2.2.2.2.2.2.2.1
      · rw [hrW]; exact ga.2.2.2.2.2.2.2.2.1
      · rw [wk 22 4 (by decide) (by decide)]; exact ga.2.2.2.2.2.2.2.2.2
      · intro j hj
        rw [hhW] at hj
        rw [wk 0 j (by decide) (by omega), wk 1 j (by decide) (by omega), wk 2 j (by decide) (by omega), wk 3 j (by decide) (by omega), wk 4 j (by decide) (by omega), wk 5 j (by decide) (by omega)]
        exact gh j hj
      · intro k hk
        rw [hlW] at hk
        rw [hhW, wk 10 k (by decide) (by omega), wk 11 k (by decide) (by omega), wk 12 k (by decide) (by omega)]
        exact gl k hk
      · intro b hb
        rw [wk 13 b (by decide) (by omega), wk 14 b (by decide) (by omega), wk 15 b (by decide) (by omega), wk 16 b (by decide) (by omega)]
        exact gb b hb
      · exact ⟨by rw [wk 17 0 (by decide) (by omega)]; exact gs.1, fun k hk => by rw [wk 17 k (by decide) (by omega)]; exact gs.2 k hk⟩
      · exact ⟨by rw [wk 19 0 (by decide) (by omega)]; exact gt.1, fun k hk => by rw [wk 20 k (by decide) (by omega)]; exact gt.2 k hk⟩
      · intro k hk
        rw [hqW] at hk
        obtain ⟨x, x1, x2, _⟩ := h16 k hk
        rw [w21 k (by omega), x2]
        exact ⟨x, x1, rfl⟩
    have fs : Fs R3 Q := by
      refine ⟨fun k hk => ?_, fun j hj => ?_⟩
      · rw [q2.2 k (by omega) (by omega), r8.2.1 k (by omega) (by omega)]
      · rw [q2.2 7 (by decide) (by decide), r8.2.2 j hj]
    have hR4 : ∀ i, R4.1 0 i = R3.1 0 i := fun i => by rw [r8.2.1 0 (by decide) (by decide)]
    have hrv : RV W Q := by
      intro k j hr
      show Q.1 0 (zi k j) = W k j
      have hr2 := relv_inR gW.1 hr
      rw [q3]
      by_cases c22 : k = 22 ∧ j = 2
      · rw [c22.1, c22.2, if_pos (show zi 22 2 = 175 from rfl), w2]
      · have hne : zi k j ≠ 175 := fun z => c22 (zi_inj hr2 (k' := 22) (j' := 2) (by unfold inR; omega) z)
        rw [if_neg hne]
        by_cases c21 : k = 21
        · subst c21
          have hj : j < m := by
            unfold relv at hr
            rw [hqW] at hr
            rcases hr with e | e | e | e | e | e | e | e | e <;> omega
          have ez : zi 21 j = 124 + j := by unfold zi; simp
          obtain ⟨x, x1, x2, x3⟩ := h16 j hj
          rw [ez, if_pos (by omega), Nat.add_sub_cancel_left, x3, w21 j (by omega), x2]
        · have hz : ¬ (124 ≤ zi k j ∧ zi k j < 124 + m) := fun z => by
            obtain ⟨i, hi⟩ : ∃ i, zi k j = 124 + i := ⟨zi k j - 124, by omega⟩
            have hi48 : i < 48 := by omega
            exact c21 (zi_inj hr2 (k' := 21) (j' := i) (by unfold inR; omega) (by rw [hi]; unfold zi; simp)).1
          rw [if_neg hz, hR4, wk k j c21 c22]
          refine hv' k j ?_
          unfold relv at hr ⊢
          rw [hhW, hlW] at hr
          rcases hr with e | e | e | e | e | e | e | e | e
          · exact Or.inl e
          · exact Or.inr (Or.inl e)
          · exact Or.inr (Or.inr (Or.inl e))
          · exact Or.inr (Or.inr (Or.inr (Or.inl e)))
          · exact Or.inr (Or.inr (Or.inr (Or.inr (Or.inl e))))
          · exact Or.inr (Or.inr (Or.inr (Or.inr (Or.inr (Or.inl e)))))
          · exact Or.inr (Or.inr (Or.inr (Or.inr (Or.inr (Or.inr (Or.inl e))))))
          · exact absurd e.1 c21
          · exact Or.inr (Or.inr (Or.inr (Or.inr (Or.inr (Or.inr (Or.inr (Or.inr e)))))))
    have hrel : Rel n (setV S3 0 W) Q := rel_set b3 (Nat.le_refl n) ⟨gW, GN_upd gn (wk 22 0 (by decide) (by decide)) (wk 22 3 (by decide) (by decide)) (fun j => wk 4 j (by decide) (by omega)) (Nat.le_refl _) (Nat.le_refl _), hrv⟩ fs
    obtain ⟨r, S5, R5, f1, f2, f3⟩ := op_clear n _ _ hn hrel
    have f1' : some (((setV S3 0 W).1 12) 2 0, setV (setV S3 0 W) 12 (wn ((setV S3 0 W).1 12) 2 0 0)) = some (r, S5) := f1
    have f2' : some (Q.1 7 2, setR Q (wn Q.1 7 2 0)) = some (r, R5) := f2
    have g1 := (Prod.mk.inj (Option.some.inj f1')).2
    have g2 := (Prod.mk.inj (Option.some.inj f2')).2
    refine ⟨nI m, S5, R5, ?_, ?_, f3⟩
    · unfold f_X5_takeList
      simp only [pu_let, pu_some]
      rw [setV_at, setV_up, c1, c2, hW, ← g1]
      have e0 : (setV (setV S3 0 W) 12 (wn ((setV S3 0 W).1 12) 2 0 0)).1 0 22 2 = nI m := by
        rw [setV_ne _ _ (by decide), setV_at, w2]
      rw [e0]
    · rw [r1, pu_some, q1, ← g2]
