/-! new houses and loans -/
theorem zi_80 {k j : Nat} (hk : ¬ k < 8) : 80 ≤ zi k j := by
  unfold zi
  rw [if_neg hk]
  repeat' split
  all_goals omega
def adS (v : VS) (f d : Int32) : VS := wn (wn (wn (wn (wn (wn (wn (wn (wn v 0 (hsz v) f) 1 (hsz v) d) 2 (hsz v) 0) 3 (hsz v) 1) 4 (hsz v) 0) 5 (hsz v) 0) 6 (hsz v) 0) 7 (hsz v) 0) 22 0 (nI (hsz v + 1))
def adV (f d : Int32) (k : Nat) : Int32 := if k = 0 then f else if k = 1 then d else if k = 3 then 1 else 0
theorem adS_at (v : VS) (f d : Int32) (k j : Nat) : adS v f d k j = if k = 22 ∧ j = 0 then nI (hsz v + 1) else if k < 8 ∧ j = hsz v then adV f d k else v k j := by
  unfold adS adV
  simp only [pu_wn]
  by_cases h22 : k = 22 ∧ j = 0
  · simp [h22]
  · rw [if_neg h22, if_neg h22]
    by_cases hj : j = hsz v
    · by_cases hk : k < 8
      · have : k = 0 ∨ k = 1 ∨ k = 2 ∨ k = 3 ∨ k = 4 ∨ k = 5 ∨ k = 6 ∨ k = 7 := by omega
        rcases this with e | e | e | e | e | e | e | e <;> subst e <;> simp [hj]
      · simp only [hj, and_true]
        rw [if_neg (by omega), if_neg (by omega), if_neg (by omega), if_neg (by omega), if_neg (by omega), if_neg (by omega), if_neg (by omega), if_neg (by omega), if_neg (by omega)]
    · simp [hj]
theorem sr_ad54 (x1 x2 : Int32) {hs : Nat} (hh : hs < 10) (R : RS) : ∃ R', f_X7_addHouse_54 x1 x2 (nI hs) fuel (nI 0) R = some (nI hs, R') ∧ Fr R R' ∧ ∀ i, R'.1 0 i = if i = 172 then R.1 0 172 + 1 else if 8 * hs ≤ i ∧ i < 8 * hs + 8 then adV x1 x2 (i - 8 * hs) else R.1 0 i := by
  have lp : ∀ (d q n : Nat) (Q : RS), q + d = 8 → d < n → Fr R Q → (∀ i, Q.1 0 i = if 8 * hs ≤ i ∧ i < 8 * hs + q then 0 else R.1 0 i) →
      ∃ R', f_X7_addHouse_54 x1 x2 (nI hs) n (nI q) Q = some (nI hs, R') ∧ Fr R R' ∧ ∀ i, R'.1 0 i = if i = 172 then R.1 0 172 + 1 else if 8 * hs ≤ i ∧ i < 8 * hs + 8 then adV x1 x2 (i - 8 * hs) else R.1 0 i := by
    intro d
    induction d with
    | zero =>
      intro q n Q hq hn fr hQ
      obtain ⟨n, rfl⟩ : ∃ m, n = m + 1 := ⟨n - 1, by omega⟩
      obtain rfl : q = 8 := by omega
      have e172 : (wz (wz (wz Q (8 * hs + 0) x1) (8 * hs + 1) x2) (8 * hs + 3) (nI 1)).1 0 172 = R.1 0 172 := by
        show wn (wn (wn Q.1 0 (8 * hs + 0) x1) 0 (8 * hs + 1) x2) 0 (8 * hs + 3) (nI 1) 0 172 = _
        rw [pu_wn_j _ _ _ _ (by omega), pu_wn_j _ _ _ _ (by omega), pu_wn_j _ _ _ _ (by omega), hQ, if_neg (by omega)]
      refine ⟨wz (wz (wz (wz Q (8 * hs + 0) x1) (8 * hs + 1) x2) (8 * hs + 3) (nI 1)) 172 (R.1 0 172 + 1), ?_, fr.trans ((((wz_Fr _ _ _).trans (wz_Fr _ _ _)).trans (wz_Fr _ _ _)).trans (wz_Fr _ _ _)), ?_⟩
      · simp (disch := omega) only [f_X7_addHouse_54, pu_bnd, pu_some, pu_let, pu_inb, pu_rd, pu_wr, nI_1, nI_leI, nI_ltI, nI_eq, pu_lit, nI_add, pk_mul, Nat.le_refl, if_true]
        rw [show ∀ z, setR (setR (setR (setR Q (wn Q.1 0 (8 * hs + 0) x1)) (wn (setR Q (wn Q.1 0 (8 * hs + 0) x1)).1 0 (8 * hs + 1) x2)) (wn (setR (setR Q (wn Q.1 0 (8 * hs + 0) x1)) (wn (setR Q (wn Q.1 0 (8 * hs + 0) x1)).1 0 (8 * hs + 1) x2)).1 0 (8 * hs + 3) (nI 1))) z = setR (wz (wz (wz Q (8 * hs + 0) x1) (8 * hs + 1) x2) (8 * hs + 3) (nI 1)) z from fun z => rfl]
        show some (nI hs, setR _ (wn (wz (wz (wz Q (8 * hs + 0) x1) (8 * hs + 1) x2) (8 * hs + 3) (nI 1)).1 0 172 ((wz (wz (wz Q (8 * hs + 0) x1) (8 * hs + 1) x2) (8 * hs + 3) (nI 1)).1 0 172 + nI 1))) = _
        rw [e172]
        rfl
      · intro i
        show wn (wn (wn (wn Q.1 0 (8 * hs + 0) x1) 0 (8 * hs + 1) x2) 0 (8 * hs + 3) (nI 1)) 0 172 (R.1 0 172 + 1) 0 i = _
        simp only [pu_wn, hQ, true_and]
        by_cases c1 : i = 172
        · rw [if_pos c1, if_pos c1]
        · rw [if_neg c1, if_neg c1]
          by_cases c2 : 8 * hs ≤ i ∧ i < 8 * hs + 8
          · rw [if_pos c2, if_pos c2]
            unfold adV
            by_cases d0 : i = 8 * hs + 0
            · rw [if_neg (by omega), if_neg (by omega), if_pos d0, if_pos (by omega)]
            · by_cases d1 : i = 8 * hs + 1
              · rw [if_neg (by omega), if_pos d1, if_neg (by omega), if_pos (by omega)]
              · by_cases d3 : i = 8 * hs + 3
                · rw [if_pos d3, if_neg (by omega), if_neg (by omega), if_pos (by omega)]; rfl
                · rw [if_neg d3, if_neg d1, if_neg d0, if_neg (by omega), if_neg (by omega), if_neg (by omega)]
          · rw [if_neg (by omega), if_neg (by omega), if_neg (by omega), if_neg c2, if_neg c2]
    | succ d ih =>
      intro q n Q hq hn fr hQ
      obtain ⟨n, rfl⟩ : ∃ m, n = m + 1 := ⟨n - 1, by omega⟩
      have h2 : ¬ 8 ≤ q := by omega
      obtain ⟨R', a1, a2⟩ := ih (q + 1) n (wz Q (8 * hs + q) (nI 0)) (by omega) (by omega) (fr.trans (wz_Fr _ _ _)) (fun i => by
        show wn Q.1 0 (8 * hs + q) (nI 0) 0 i = _
        rw [pu_wn, hQ]
        by_cases c : i = 8 * hs + q
        · rw [if_pos ⟨rfl, c⟩, if_pos (by omega)]; rfl
        · rw [if_neg (fun z => c z.2)]
          by_cases c2 : 8 * hs ≤ i ∧ i < 8 * hs + q
          · rw [if_pos c2, if_pos (by omega)]
          · rw [if_neg c2, if_neg (by omega)])
      refine ⟨R', ?_, a2⟩
      rw [← a1]
      simp (disch := omega) only [f_X7_addHouse_54, pu_bnd, pu_some, pu_let, pu_inb, pu_rd, pu_wr, nI_1, nI_leI, nI_ltI, nI_eq, pu_lit, nI_add, pk_mul, h2, if_false]
      rfl
  exact lp 8 0 fuel R (by omega) (fuel_gt (by omega)) (Fr.rfl' R) (fun i => by rw [if_neg (by omega)])
theorem op_addHouse : Op_addHouse Rel := by
  intro n S R a0 a1 hn h
  have hbad : ∀ e : Int32, ∃ (r : Int32) (S2 : PS) (R2 : RS), (some (e, S) : Option (Int32 × PS)) = some (r, S2) ∧ (some (e, R) : Option (Int32 × RS)) = some (r, R2) ∧ Rel (n + 1) S2 R2 := fun e => ⟨_, S, R, rfl, rfl, rel_mono h (by omega)⟩
  unfold f_X6_addHouse f_X7_addHouse
  simp only [wi_67]
  rcases wi0 (p := a0) 2 (by decide) with h1 | ⟨h1, f, hf, rfl⟩
  · rw [show f_X6_within a0 0 2 = some 0 from h1, pu_some, pu_some, ite00, ite00]; exact hbad _
  · rw [show f_X6_within (nI f) 0 2 = some 1 from h1, pu_some, pu_some, ite10, ite10]
    rcases wi0 (p := a1) 50 (by decide) with h2 | ⟨h2, d, hd, rfl⟩
    · rw [show f_X6_within a1 0 50 = some 0 from h2, pu_some, pu_some, ite00, ite00]; exact hbad _
    · rw [show f_X6_within (nI d) 0 50 = some 1 from h2, pu_some, pu_some, ite10, ite10]
      have h0 := h.1
      have hz0 := rz_172 (v := S.1 0) h0.2.2 h0.1.1
      rw [h0.1.1.1]
      by_cases hh : hsz (S.1 0) = 10
      · simp (disch := omega) only [pu_lit, pu_inb, pu_bnd, pu_rd, hz0, hh, nI_ltI, nI_eq, Nat.lt_irrefl, if_true, if_false]
        exact hbad _
      · have hlt : hsz (S.1 0) < 10 := by have := h0.1.1.2.1; omega
        simp (disch := omega) only [pu_lit, pu_inb, pu_bnd, pu_rd, hz0, hh, hlt, nI_ltI, nI_eq, if_true, if_false]
        obtain ⟨S1, R1, b1, b2, b3, b4, _⟩ := rel_record h
        rw [b1, b2, pu_some, pu_some]
        obtain ⟨⟨g, gn, hv⟩, _⟩ := id b3
        rw [← b4] at hlt
        have hz1 := rz_172 (v := S1.1 0) hv g.1
        obtain ⟨R2, c1, c2, c3⟩ := sr_ad54 (nI f) (nI d) hlt R1
        have hsw : hsz (adS (S1.1 0) (nI f) (nI d)) = hsz (S1.1 0) + 1 := by
          unfold hsz
          rw [adS_at, if_pos ⟨rfl, rfl⟩, nI_clamp (by omega)]
          rfl
        have o22 : ∀ j, 0 < j → adS (S1.1 0) (nI f) (nI d) 22 j = S1.1 0 22 j := fun j hj => by rw [adS_at, if_neg (by omega), if_neg (by omega)]
        have ok : ∀ k j, 8 ≤ k → k < 22 → adS (S1.1 0) (nI f) (nI d) k j = S1.1 0 k j := fun k j h1 h2 => by rw [adS_at, if_neg (by omega), if_neg (by omega)]
        have hls : lsz (adS (S1.1 0) (nI f) (nI d)) = lsz (S1.1 0) := by unfold lsz; rw [o22 1 (by decide)]
        have hqs : qsz (adS (S1.1 0) (nI f) (nI d)) = qsz (S1.1 0) := by unfold qsz; rw [o22 2 (by decide)]
        have hrs : hrz (adS (S1.1 0) (nI f) (nI d)) = hrz (S1.1 0) := by unfold hrz; rw [o22 3 (by decide)]
        have ga := g.1
        refine ⟨nI (hsz (S1.1 0)), setV S1 0 (adS (S1.1 0) (nI f) (nI d)), R2, ?_, ?_, op_fin b3 ⟨⟨?_, ?_, ?_, ?_, ?_, ?_, ?_, ?_, ?_, ?_⟩, ?_, ?_, ?_, ?_, ?_, ?_⟩ ⟨?_, ?_⟩ ?_ c2⟩
        · unfold f_X2_add
          rw [ga.1]
          simp (disch := omega) only [pu_let, pu_lit, pu_inb, pu_bnd, pu_wr, pu_some]
          have e22 : (wn (wn (wn (wn (wn (wn (wn (wn (S1.1 0) 0 (hsz (S1.1 0)) (nI f)) 1 (hsz (S1.1 0)) (nI d)) 2 (hsz (S1.1 0)) (nI 0)) 3 (hsz (S1.1 0)) (nI 1)) 4 (hsz (S1.1 0)) (nI 0)) 5 (hsz (S1.1 0)) (nI 0)) 6 (hsz (S1.1 0)) (nI 0)) 7 (hsz (S1.1 0)) (nI 0)) 22 0 = nI (hsz (S1.1 0)) := by
            simp only [pu_wn]
            simp [ga.1]
          rw [e22, nI_add]
          rfl
        · rw [hz1]
          simp only [pu_let]
          exact c1
        · rw [adS_at, if_pos ⟨rfl, rfl⟩, hsw]
        · rw [hsw]; omega
        · rw [o22 1 (by decide), hls]; exact ga.2.2.1
        · rw [hls]; exact ga.2.2.2.1
        · rw [o22 2 (by decide), hqs]; exact ga.2.2.2.2.1
        · rw [hqs]; exact ga.2.2.2.2.2.1
        · rw [hqs]; exact ga.2.2.2.2.2.2.1
        · rw [o22 3 (by decide), hrs]; exact ga.2.2.2.2.2.2.2.1
        · rw [hrs]; exact ga.2.2.2.2.2.2.2.2.1
        · rw [o22 4 (by decide)]; exact ga.2.2.2.2.2.2.2.2.2
        · intro j hj
          rw [hsw] at hj
          by_cases hjh : j = hsz (S1.1 0)
          · have ev : ∀ k, k < 8 → adS (S1.1 0) (nI f) (nI d) k j = adV (nI f) (nI d) k := fun k hk => by rw [adS_at, if_neg (by omega), if_pos ⟨hk, hjh⟩]
            rw [ev 0 (by decide), ev 1 (by decide), ev 2 (by decide), ev 3 (by decide), ev 4 (by decide), ev 5 (by decide)]
            exact ⟨⟨f, by omega, rfl⟩, ⟨d, hd, rfl⟩, ⟨0, by decide, rfl⟩, ⟨1, by decide, rfl⟩, ⟨0, by decide, rfl⟩, by show (-50 : Int) ≤ (0 : Int32).toInt; decide⟩
          · have ev : ∀ k, k < 8 → adS (S1.1 0) (nI f) (nI d) k j = S1.1 0 k j := fun k hk => by rw [adS_at, if_neg (by omega), if_neg (by omega)]
            rw [ev 0 (by decide), ev 1 (by decide), ev 2 (by decide), ev 3 (by decide), ev 4 (by decide), ev 5 (by decide)]
            exact g.2.1 j (by omega)
        · intro k hk
          rw [hls] at hk
          rw [hsw, ok 10 k (by decide) (by decide), ok 11 k (by decide) (by decide), ok 12 k (by decide) (by decide)]
          obtain ⟨x, y, o, p1, p2, p3⟩ := g.2.2.1 k hk
          exact ⟨x, y, o, by omega, by omega, p3⟩
        · intro b hb
          rw [ok 13 b (by decide) (by decide), ok 14 b (by decide) (by decide), ok 15 b (by decide) (by decide), ok 16 b (by decide) (by decide)]
          exact g.2.2.2.1 b hb
        · exact ⟨by rw [ok 17 0 (by decide) (by decide)]; exact g.2.2.2.2.1.1, fun k hk => by rw [ok 17 k (by decide) (by decide)]; exact g.2.2.2.2.1.2 k hk⟩
        · exact ⟨by rw [ok 19 0 (by decide) (by decide)]; exact g.2.2.2.2.2.1.1, fun k hk => by rw [ok 20 k (by decide) (by decide)]; exact g.2.2.2.2.2.1.2 k hk⟩
        · intro k hk
          rw [hqs] at hk
          rw [ok 21 k (by decide) (by decide)]
          exact g.2.2.2.2.2.2 k hk
        · intro j hj
          rw [hsw] at hj
          by_cases hjh : j = hsz (S1.1 0)
          · rw [adS_at, if_neg (by omega), if_pos ⟨by decide, hjh⟩]
            show (0 : Int32).toInt ≤ _
            have : (0 : Int32).toInt = 0 := by decide
            omega
          · rw [adS_at, if_neg (by omega), if_neg (by omega)]
            have := gn.1 j (by omega)
            omega
        · rw [hrs]
          have := gn.2
          omega
        · intro k j hr
          have hin : inR k j := by
            have q1 := ga.2.2.2.1
            have q2 := ga.2.2.2.2.2.2.1
            have hr2 := hr
            unfold relv at hr2
            rw [hsw, hls, hqs] at hr2
            rcases hr2 with e | e | e | e | e | e | e | e | e
            · exact Or.inl ⟨e.1, by omega⟩
            · exact Or.inr (Or.inl ⟨e.1, e.2.1, by omega⟩)
            · exact Or.inr (Or.inr (Or.inl e))
            · exact Or.inr (Or.inr (Or.inr (Or.inl e)))
            · exact Or.inr (Or.inr (Or.inr (Or.inr (Or.inl e))))
            · exact Or.inr (Or.inr (Or.inr (Or.inr (Or.inr (Or.inl e)))))
            · exact Or.inr (Or.inr (Or.inr (Or.inr (Or.inr (Or.inr (Or.inl e))))))
            · exact Or.inr (Or.inr (Or.inr (Or.inr (Or.inr (Or.inr (Or.inr (Or.inl ⟨e.1, by omega⟩)))))))
            · exact Or.inr (Or.inr (Or.inr (Or.inr (Or.inr (Or.inr (Or.inr (Or.inr e)))))))
          show R2.1 0 (zi k j) = _
          rw [c3, adS_at]
          by_cases c : k = 22 ∧ j = 0
          · rw [if_pos c, c.1, c.2, if_pos (by rfl), hz1, nI_1]
          · rw [if_neg c]
            have hne : zi k j ≠ 172 := fun z => c (zi_inj hin (k' := 22) (j' := 0) (by unfold inR; omega) z)
            rw [if_neg hne]
            by_cases c2 : k < 8 ∧ j = hsz (S1.1 0)
            · have ez : zi k j = 8 * hsz (S1.1 0) + k := by unfold zi; rw [if_pos c2.1, c2.2]
              rw [if_pos c2, ez, if_pos (by omega), show 8 * hsz (S1.1 0) + k - 8 * hsz (S1.1 0) = k by omega]
            · rw [if_neg c2, if_neg (fun z => by
                by_cases hk8 : k < 8
                · have ez : zi k j = 8 * j + k := by unfold zi; rw [if_pos hk8]
                  rw [ez] at z
                  exact c2 ⟨hk8, by omega⟩
                · have := zi_80 (j := j) hk8
                  omega)]
              refine hv k j ?_
              unfold relv at hr ⊢
              rw [hsw, hls, hqs] at hr
              rcases hr with hr | hr
              · exact Or.inl ⟨hr.1, by
                  have : ¬ j = hsz (S1.1 0) := fun z => c2 ⟨hr.1, z⟩
                  have := hr.2
                  omega⟩
              · exact Or.inr hr
