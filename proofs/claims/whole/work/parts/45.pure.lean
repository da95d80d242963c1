/-! lending -/
theorem wz0 (R : RS) (i : Nat) (x : Int32) (q : Nat) : (wz R i x).1 0 q = if q = i then x else R.1 0 q := by
  show wn R.1 0 i x 0 q = _
  rw [pu_wn]
  simp
theorem VP_put {P : Nat → Nat → Prop} {v : VS} {R : RS} (h : ∀ k j, P k j → R.1 0 (zi k j) = v k j) (hP : ∀ k j, P k j → inR k j) {k j i : Nat} {x : Int32} (hi : zi k j = i) (hin : inR k j) : (∀ k' j', (P k' j' ∨ (k' = k ∧ j' = j)) → (wz R i x).1 0 (zi k' j') = wn v k j x k' j') ∧ ∀ k' j', (P k' j' ∨ (k' = k ∧ j' = j)) → inR k' j' := by
  refine ⟨fun k' j' hp => ?_, fun k' j' hp => ?_⟩
  · rw [wz0, pu_wn, ← hi]
    by_cases c : k' = k ∧ j' = j
    · rw [if_pos c, c.1, c.2, if_pos rfl]
    · have hp' : P k' j' := by
        rcases hp with hp | hp
        · exact hp
        · exact absurd hp c
      rw [if_neg c, if_neg (fun z => c (zi_inj (hP _ _ hp') hin z))]
      exact h k' j' hp'
  · rcases hp with hp | hp
    · exact hP _ _ hp
    · rw [hp.1, hp.2]; exact hin
theorem op_lend : Op_lend Rel := by
  intro n S R a0 a1 a2 hn h
  have hbad : ∀ e : Int32, ∃ (r : Int32) (S2 : PS) (R2 : RS), (some (e, S) : Option (Int32 × PS)) = some (r, S2) ∧ (some (e, R) : Option (Int32 × RS)) = some (r, R2) ∧ Rel (n + 1) S2 R2 := fun e => ⟨_, S, R, rfl, rfl, rel_mono h (by omega)⟩
  unfold f_X6_lend f_X7_lend
  simp only [wi_67]
  rcases is_house h a0 with ⟨h1, h2⟩ | ⟨a, ha, rfl, h1, h2⟩
  · rw [h1, h2, pu_some, pu_some, ite00, ite00]; exact hbad _
  · rw [h1, h2, pu_some, pu_some, ite10, ite10]
    rcases is_house h a1 with ⟨h3, h4⟩ | ⟨b, hb, rfl, h3, h4⟩
    · rw [h3, h4, pu_some, pu_some, ite00, ite00]; exact hbad _
    · rw [h3, h4, pu_some, pu_some, ite10, ite10]
      have g0 := h.1.1.1
      have h10 := g0.2.1
      have h12 := g0.2.2.2.1
      by_cases hab : a = b
      · rw [if_pos (by rw [hab]), if_pos (by rw [hab])]; exact hbad _
      · have hab' : ¬ nI a = nI b := fun z => hab (nI_inj0 (by omega) (by omega) z)
        rw [if_neg hab', if_neg hab']
        rcases wi (p := a2) 1 200 (by decide) (by decide) with h5 | ⟨h5, p, hp1, hp2, rfl⟩
        · rw [show f_X6_within a2 1 200 = some 0 from h5, pu_some, pu_some, ite00, ite00]; exact hbad _
        · rw [show f_X6_within (nI p) 1 200 = some 1 from h5, pu_some, pu_some, ite10, ite10]
          have s4 := sr_of (v := S.1 0) h.1.2.2 g0 (by omega : 4 < 8) ha
          have z3 := rz_173 (v := S.1 0) h.1.2.2 g0
          rw [show (4 : Int32) = nI 4 from rfl, s4, pu_some, pu_inb (by omega : a < 10) (by decide), pu_bnd, pu_rd (by omega)]
          by_cases hc : nI p ≤ S.1 0 4 a
          · rw [if_pos hc, if_pos hc, g0.2.2.1]
            by_cases hm : lsz (S.1 0) = 12
            · simp (disch := omega) only [pu_lit, pu_inb, pu_bnd, pu_rd, z3, hm, nI_ltI, nI_eq, Nat.lt_irrefl, if_true, if_false]
              exact hbad _
            · have hlt : lsz (S.1 0) < 12 := by omega
              simp (disch := omega) only [pu_lit, pu_inb, pu_bnd, pu_rd, z3, hm, hlt, nI_ltI, nI_eq, if_true, if_false]
              obtain ⟨S1, R1, b1, b2, b3, b4, _⟩ := rel_record h
              rw [b1, b2, pu_some, pu_some]
              obtain ⟨⟨g, gn, hv⟩, _⟩ := id b3
              have hv' : RV (S1.1 0) R1 := hv
              rw [← b4] at ha hb hlt hc
              have ga := g.1
              have h10' := ga.2.1
              have e4b : (wn (S1.1 0) 4 a (S1.1 0 4 a - nI p)) 4 b = S1.1 0 4 b := pu_wn_j _ _ _ _ (fun z => hab z.symm)
              have r1 := RV.wz hv' ga (k := 4) (j := a) (i := 8 * a + 4) (x := S1.1 0 4 a - nI p) (by unfold zi; simp) (by unfold inR; omega) (Or.inl (by decide))
              have c1 : GA (wn (S1.1 0) 4 a (S1.1 0 4 a - nI p)) := ga.congr' fun j => pu_wn_k _ _ _ _ (by decide)
              have r2 := RV.wz r1 c1 (k := 4) (j := b) (i := 8 * b + 4) (x := S1.1 0 4 b + nI p) (by unfold zi; simp) (by unfold inR; omega) (Or.inl (by decide))
              have c2 : GA (wn (wn (S1.1 0) 4 a (S1.1 0 4 a - nI p)) 4 b (S1.1 0 4 b + nI p)) := c1.congr' fun j => pu_wn_k _ _ _ _ (by decide)
              have f1 := sr_add hv' ga (by omega : 4 < 8) ha (-(nI p))
              rw [← Int32.sub_eq_add_neg] at f1
              have f2 := sr_add r1 c1 (k := 4) (j := b) (by omega) (by rw [show hsz (wn (S1.1 0) 4 a (S1.1 0 4 a - nI p)) = hsz (S1.1 0) from hsz_congr (pu_wn_k _ _ _ _ (by decide))]; exact hb) (nI p)
              rw [e4b] at f2
              have z3' := rz_173 r2 c2
              generalize hV : wn (wn (S1.1 0) 4 a (S1.1 0 4 a - nI p)) 4 b (S1.1 0 4 b + nI p) = V at r2 c2 z3'
              generalize hQ : wz (wz R1 (8 * a + 4) (S1.1 0 4 a - nI p)) (8 * b + 4) (S1.1 0 4 b + nI p) = Q at r2 z3' f2
              have hk : ∀ k j, k ≠ 4 → V k j = S1.1 0 k j := fun k j hk4 => by rw [← hV, pu_wn_k _ _ _ _ hk4, pu_wn_k _ _ _ _ hk4]
              have hlV : lsz V = lsz (S1.1 0) := by unfold lsz; rw [hk 22 1 (by decide)]
              have hhV : hsz V = hsz (S1.1 0) := by unfold hsz; rw [hk 22 0 (by decide)]
              rw [hlV] at z3'
              generalize hm' : lsz (S1.1 0) = m at z3' hlt hlV
              have p1 := VP_put (P := relv V) (R := Q) r2 (fun k j hr => relv_inR c2 hr) (k := 10) (j := m) (i := 80 + 3 * m) (x := nI a) (by unfold zi; simp) (by unfold inR; omega)
              have p2 := VP_put p1.1 p1.2 (k := 11) (j := m) (i := 80 + 3 * m + 1) (x := nI b) (by unfold zi; simp) (by unfold inR; omega)
              have p3 := VP_put p2.1 p2.2 (k := 12) (j := m) (i := 80 + 3 * m + 2) (x := nI p) (by unfold zi; simp) (by unfold inR; omega)
              have p4 := VP_put p3.1 p3.2 (k := 22) (j := 1) (i := 173) (x := nI (m + 1)) rfl (by unfold inR; omega)
              generalize hW : wn (wn (wn (wn V 10 m (nI a)) 11 m (nI b)) 12 m (nI p)) 22 1 (nI (m + 1)) = W at p4
              have wk : ∀ k j, ¬ (k = 22 ∧ j = 1) → ¬ (10 ≤ k ∧ k < 13 ∧ j = m) → W k j = V k j := fun k j q1 q2 => by
                rw [← hW, pu_wn, if_neg q1, pu_wn, if_neg (by omega), pu_wn, if_neg (by omega), pu_wn, if_neg (by omega)]
              have w1 : W 22 1 = nI (m + 1) := by rw [← hW, pu_wn_s]
              have w10 : W 10 m = nI a := by rw [← hW]; simp [pu_wn]
              have w11 : W 11 m = nI b := by rw [← hW]; simp [pu_wn]
              have w12 : W 12 m = nI p := by rw [← hW]; simp [pu_wn]
              have ws : ∀ k j, k ≠ 4 → ¬ (k = 22 ∧ j = 1) → ¬ (10 ≤ k ∧ k < 13 ∧ j = m) → W k j = S1.1 0 k j := fun k j q0 q1 q2 => by rw [wk k j q1 q2, hk k j q0]
              have hhW : hsz W = hsz (S1.1 0) := hsz_congr (ws 22 0 (by decide) (by decide) (by omega))
              have hlW : lsz W = m + 1 := by unfold lsz; rw [w1, nI_clamp (by omega)]
              have hqW : qsz W = qsz (S1.1 0) := by unfold qsz; rw [ws 22 2 (by decide) (by decide) (by omega)]
              have hrW : hrz W = hrz (S1.1 0) := by unfold hrz; rw [ws 22 3 (by decide) (by decide) (by omega)]
              have h4 : ∀ j, j < hsz (S1.1 0) → -50 ≤ (W 4 j).toInt ∧ (W 4 j).toInt ≤ ((1000 * (n + 1) : Nat) : Int) := fun j hj => by
                obtain ⟨_, _, _, _, _, q6⟩ := g.2.1 j hj
                have q7 := gn.1 j hj
                have hpI : (nI p).toInt = p := nI_toInt (by omega)
                rw [wk 4 j (by omega) (by omega), ← hV, pu_wn, pu_wn]
                by_cases cb : j = b
                · subst cb
                  rw [if_pos ⟨rfl, rfl⟩, Int32.toInt_add, hpI, show ((S1.1 0 4 j).toInt + (p : Int)).bmod (2 ^ 32) = (S1.1 0 4 j).toInt + p from Int.bmod_eq_of_le (by omega) (by omega)]
                  omega
                · rw [if_neg (fun z => cb z.2)]
                  by_cases ca : j = a
                  · subst ca
                    rw [Int32.le_iff_toInt_le, hpI] at hc
                    rw [if_pos ⟨rfl, rfl⟩, Int32.toInt_sub, hpI, show ((S1.1 0 4 j).toInt - (p : Int)).bmod (2 ^ 32) = (S1.1 0 4 j).toInt - p from Int.bmod_eq_of_le (by omega) (by omega)]
                    omega
                  · rw [if_neg (fun z => ca z.2)]
                    omega
              refine ⟨nI (m + 1), setV S1 0 W, wz (wz (wz (wz Q (80 + 3 * m) (nI a)) (80 + 3 * m + 1) (nI b)) (80 + 3 * m + 2) (nI p)) 173 (nI (m + 1)), ?_, ?_, op_fin b3 ⟨⟨?_, ?_, ?_, ?_, ?_, ?_, ?_, ?_, ?_, ?_⟩, ?_, ?_, ?_, ?_, ?_, ?_⟩ ⟨?_, ?_⟩ ?_ ?_⟩
              · simp (disch := omega) only [pu_inb, pu_bnd, pu_rd, pu_wr, pu_let, setV_at, setV_up, e4b, hV]
                unfold f_X4_add
                have e22 : V 22 1 = nI m := by rw [hk 22 1 (by decide), ga.2.2.1, hm']
                have e22a : (wn V 10 m (nI a)) 22 1 = nI m := by rw [pu_wn_k _ _ _ _ (by decide), e22]
                have e22b : (wn (wn V 10 m (nI a)) 11 m (nI b)) 22 1 = nI m := by rw [pu_wn_k _ _ _ _ (by decide), e22a]
                have e22c : (wn (wn (wn V 10 m (nI a)) 11 m (nI b)) 12 m (nI p)) 22 1 = nI m := by rw [pu_wn_k _ _ _ _ (by decide), e22b]
                simp (disch := omega) only [e22, e22a, e22b, e22c, pu_inb, pu_bnd, pu_wr, pu_let, nI_1, hW, pu_some, setV_at, setV_up, w1]
              · rw [f1, pu_some, f2, pu_some]
                simp (disch := omega) only [pu_inb, pu_bnd, pu_rd, pu_wr, pu_let, z3', pk_mul, nI_add]
                have e173 : (wz (wz (wz Q (80 + 3 * m) (nI a)) (80 + 3 * m + 1) (nI b)) (80 + 3 * m + 2) (nI p)).1 0 173 = nI m := by
                  rw [wz0, if_neg (by omega), wz0, if_neg (by omega), wz0, if_neg (by omega), z3']
                have fin : ∀ Z : RS, Z.1 0 173 = nI m → (some ((setR Z (wn Z.1 0 173 (Z.1 0 173 + nI 1))).1 0 173, setR Z (wn Z.1 0 173 (Z.1 0 173 + nI 1))) : Option (Int32 × RS)) = some (nI (m + 1), wz Z 173 (nI (m + 1))) := fun Z hZ => by
                  rw [hZ, nI_add]
                  have ew : (wz Z 173 (nI (m + 1))).1 0 173 = nI (m + 1) := by rw [wz0, if_pos rfl]
                  exact congrArg some (Prod.ext ew rfl)
                exact fin (wz (wz (wz Q (80 + 3 * m) (nI a)) (80 + 3 * m + 1) (nI b)) (80 + 3 * m + 2) (nI p)) e173
              · rw [ws 22 0 (by decide) (by decide) (by omega), hhW]; exact ga.1
              · rw [hhW]; exact ga.2.1
              · rw [w1, hlW]
              · rw [hlW]; omega
              · rw [ws 22 2 (by decide) (by decide) (by omega), hqW]; exact ga.2.2.2.2.1
              · rw [hqW]; exact ga.2.2.2.2.2.1
              · rw [hqW]; exact ga.2.2.2.2.2.2.1
              · rw [ws 22 3 (by decide) (by decide) (by omega), hrW]; exact ga.2.2.2.2.2.2.2.1
              · rw [hrW]; exact ga.2.2.2.2.2.2.2.2.1
              · rw [ws 22 4 (by decide) (by decide) (by omega)]; exact ga.2.2.2.2.2.2.2.2.2
              · intro j hj
                rw [hhW] at hj
                obtain ⟨q1, q2, q3, q4, q5, q6⟩ := g.2.1 j hj
                rw [ws 0 j (by decide) (by omega) (by omega), ws 1 j (by decide) (by omega) (by omega), ws 2 j (by decide) (by omega) (by omega), ws 3 j (by decide) (by omega) (by omega), ws 5 j (by decide) (by omega) (by omega)]
                exact ⟨q1, q2, q3, q4, q5, (h4 j hj).1⟩
              · intro k hk2
                rw [hlW] at hk2
                rw [hhW]
                by_cases hkm : k = m
                · subst hkm
                  rw [w10, w11, w12]
                  exact ⟨a, b, p, ha, hb, hab, hp1, hp2, rfl, rfl, rfl⟩
                · rw [ws 10 k (by decide) (by omega) (by omega), ws 11 k (by decide) (by omega) (by omega), ws 12 k (by decide) (by omega) (by omega)]
                  exact g.2.2.1 k (by omega)
              · intro i hi
                rw [ws 13 i (by decide) (by omega) (by omega), ws 14 i (by decide) (by omega) (by omega), ws 15 i (by decide) (by omega) (by omega), ws 16 i (by decide) (by omega) (by omega)]
                exact g.2.2.2.1 i hi
              · exact ⟨by rw [ws 17 0 (by decide) (by omega) (by omega)]; exact g.2.2.2.2.1.1, fun k hk2 => by rw [ws 17 k (by decide) (by omega) (by omega)]; exact g.2.2.2.2.1.2 k hk2⟩
              · exact ⟨by rw [ws 19 0 (by decide) (by omega) (by omega)]; exact g.2.2.2.2.2.1.1, fun k hk2 => by rw [ws 20 k (by decide) (by omega) (by omega)]; exact g.2.2.2.2.2.1.2 k hk2⟩
              · intro k hk2
                rw [hqW] at hk2
                rw [ws 21 k (by decide) (by omega) (by omega)]
                exact g.2.2.2.2.2.2 k hk2
              · intro j hj
                rw [hhW] at hj
                exact (h4 j hj).2
              · rw [hrW]
                have := gn.2
                omega
              · intro k j hr
                refine p4.1 k j ?_
                unfold relv at hr
                rw [hhW, hlW, hqW] at hr
                by_cases c22 : k = 22 ∧ j = 1
                · exact Or.inr c22
                · refine Or.inl ?_
                  by_cases cl : 10 ≤ k ∧ k < 13 ∧ j = m
                  · have : k = 10 ∨ k = 11 ∨ k = 12 := by omega
                    rcases this with e | e | e
                    · exact Or.inl (Or.inl (Or.inr ⟨e, cl.2.2⟩))
                    · exact Or.inl (Or.inr ⟨e, cl.2.2⟩)
                    · exact Or.inr ⟨e, cl.2.2⟩
                  · refine Or.inl (Or.inl (Or.inl ?_))
                    unfold relv
                    rw [hhV, hlV, show qsz V = qsz (S1.1 0) by unfold qsz; rw [hk 22 2 (by decide)]]
                    rcases hr with e | e | e
                    · exact Or.inl e
                    · exact Or.inr (Or.inl ⟨e.1, e.2.1, by
                        have : ¬ j = m := fun z => cl ⟨e.1, e.2.1, z⟩
                        omega⟩)
                    · exact Or.inr (Or.inr e)
              · rw [← hQ]
                exact (((((wz_Fr _ _ _).trans (wz_Fr _ _ _)).trans (wz_Fr _ _ _)).trans (wz_Fr _ _ _)).trans (wz_Fr _ _ _)).trans (wz_Fr _ _ _)
          · rw [if_neg hc, if_neg hc]; exact hbad _
