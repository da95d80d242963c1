/-! calls: settings, properties, batteries, history, images -/
theorem G_upd {v w : VS} (g : G v) (h22 : ∀ j, w 22 j = v 22 j) (cH : (∀ k j, k < 6 → w k j = v k j) ∨ GH w) (cL : (∀ k j, 10 ≤ k → k < 13 → w k j = v k j) ∨ GL w) (cB : (∀ k j, 13 ≤ k → k < 17 → w k j = v k j) ∨ GB w) (cS : (∀ j, w 17 j = v 17 j) ∨ GS w) (cT : ∀ k j, 19 ≤ k → k < 22 → w k j = v k j) : G w := by
  obtain ⟨ga, gh, gl, gb, gs, gt, gq⟩ := g
  have hh : hsz w = hsz v := hsz_congr (h22 0)
  have hl : lsz w = lsz v := by unfold lsz; rw [h22 1]
  have hq : qsz w = qsz v := by unfold qsz; rw [h22 2]
  refine ⟨ga.congr' h22, ?_, ?_, ?_, ?_, ?_, ?_⟩
  · rcases cH with c | c
    · intro j hj
      rw [hh] at hj
      rw [c 0 j (by decide), c 1 j (by decide), c 2 j (by decide), c 3 j (by decide), c 4 j (by decide), c 5 j (by decide)]
      exact gh j hj
    · exact c
  · rcases cL with c | c
    · intro j hj
      rw [hl] at hj
      rw [hh, c 10 j (by decide) (by decide), c 11 j (by decide) (by decide), c 12 j (by decide) (by decide)]
      exact gl j hj
    · exact c
  · rcases cB with c | c
    · intro j hj
      rw [c 13 j (by decide) (by decide), c 14 j (by decide) (by decide), c 15 j (by decide) (by decide), c 16 j (by decide) (by decide)]
      exact gb j hj
    · exact c
  · rcases cS with c | c
    · exact ⟨by rw [c]; exact gs.1, fun k hk => by rw [c]; exact gs.2 k hk⟩
    · exact c
  · exact ⟨by rw [cT 19 0 (by decide) (by decide)]; exact gt.1, fun f hf => by rw [cT 20 f (by decide) (by decide)]; exact gt.2 f hf⟩
  · intro k hk
    rw [hq] at hk
    rw [cT 21 k (by decide) (by decide)]
    exact gq k hk
theorem GN_upd {c t c' t' : Nat} {v w : VS} (h : GN c t v) (h0 : w 22 0 = v 22 0) (h3 : w 22 3 = v 22 3) (h4 : ∀ j, w 4 j = v 4 j) (hc : c ≤ c') (ht : t ≤ t') : GN c' t' w := by
  refine ⟨fun j hj => ?_, ?_⟩
  · rw [hsz_congr h0] at hj
    rw [h4]
    have := h.1 j hj
    omega
  · unfold hrz
    rw [h3]
    have := h.2
    unfold hrz at this
    omega
theorem op_fin {n : Nat} {S1 : PS} {R1 R2 : RS} (h : Rel n S1 R1) {w : VS} (g : G w) (gn : GN (1000 * (n + 1)) (100 * (n + 1)) w) (hv : RV w R2) (fr : Fr R1 R2) : Rel (n + 1) (setV S1 0 w) R2 := rel_set h (by omega) ⟨g, gn, hv⟩ fr.s
theorem wi0 {p : Int32} (b : Nat) (hb : b < 2 ^ 31) : f_X6_within p 0 (nI b) = some 0 ∨ (f_X6_within p 0 (nI b) = some 1 ∧ ∃ x, x ≤ b ∧ p = nI x) := by
  rcases wi (p := p) 0 b (by decide) hb with h | ⟨h, x, _, h2, h3⟩
  · exact Or.inl h
  · exact Or.inr ⟨h, x, h2, h3⟩
theorem some_id (x : Option Int32) : (bnd2 x fun r => some r) = x := by cases x <;> rfl
theorem op_set : Op_set Rel := by
  intro n S R a0 a1 hn h
  have hbad : ∃ (r : Int32) (S2 : PS) (R2 : RS), (some ((-1000002 : Int32), S) : Option (Int32 × PS)) = some (r, S2) ∧ (some ((-1000002 : Int32), R) : Option (Int32 × RS)) = some (r, R2) ∧ Rel (n + 1) S2 R2 := ⟨_, S, R, rfl, rfl, rel_mono h (by omega)⟩
  unfold f_X6_set f_X7_set f_X6_isSetting f_X7_isSetting
  rw [some_id, some_id]
  simp only [wi_67]
  rcases wi0 (p := a0) 3 (by decide) with h1 | ⟨h1, k, hk, rfl⟩
  · rw [show f_X6_within a0 0 3 = some 0 from h1, pu_some, ite00]
    have e0 : ¬ a0 = 0 := fun z => by subst z; exact absurd h1 (by decide)
    rw [if_neg e0]
    have e1 : f_X6_within a0 1 3 = some 0 := by
      rcases wi (p := a0) 1 3 (by decide) (by decide) with h2 | ⟨h2, x, hx1, hx2, rfl⟩
      · exact h2
      · exact absurd h1 (by
          have : x = 1 ∨ x = 2 ∨ x = 3 := by omega
          rcases this with e | e | e <;> subst e <;> decide)
    rw [e1, pu_some, ite00, pu_some, ite00]
    exact hbad
  · rw [show f_X6_within (nI k) 0 3 = some 1 from h1, pu_some, ite10]
    have hM : ∃ M, M ≤ 100 ∧ stSM k = nI M ∧ (k = 0 → M ≤ 50) ∧ ((if nI k = 0 then f_X6_within a1 0 50 else bnd2 (f_X6_within (nI k) 1 3) fun r_2 => if r_2 = 0 then some 0 else bnd2 (f_X6_within a1 0 100) fun r_3 => if r_3 = 0 then some 0 else some 1) = f_X6_within a1 0 (nI M)) := by
      by_cases hk0 : k = 0
      · subst hk0
        exact ⟨50, by decide, rfl, fun _ => by decide, if_pos rfl⟩
      · refine ⟨100, by decide, ?_, fun z => absurd z hk0, ?_⟩
        · obtain ⟨m, rfl⟩ : ∃ m, k = m + 1 := ⟨k - 1, by omega⟩
          rfl
        · rw [if_neg (fun z : nI k = 0 => hk0 (nI_inj0 (b := 0) (by omega) (by decide) z))]
          rcases wi (p := nI k) 1 3 (by decide) (by decide) with h2 | ⟨h2, _⟩
          · exact absurd h2 (by
              have : k = 1 ∨ k = 2 ∨ k = 3 := by omega
              rcases this with e | e | e <;> subst e <;> decide)
          · rw [show f_X6_within (nI k) 1 3 = some 1 from h2, pu_some, ite10]
            rcases wi0 (p := a1) 100 (by decide) with h3 | ⟨h3, _⟩
            · rw [show f_X6_within a1 0 100 = some 0 from h3, h3]; rfl
            · rw [show f_X6_within a1 0 100 = some 1 from h3, h3]; rfl
    obtain ⟨M, hM1, hM2, hM3, hM4⟩ := hM
    rw [hM4]
    simp (disch := omega) only [pu_inb, pu_bnd, nI_clamp, hM2]
    rcases wi0 (p := a1) M (by omega) with h3 | ⟨h3, x, hx, rfl⟩
    · rw [h3, pu_some, pu_some, ite00, ite00]
      exact hbad
    · rw [h3, pu_some, pu_some, ite10, ite10]
      obtain ⟨S1, R1, b1, b2, b3, _⟩ := rel_record h
      obtain ⟨⟨g, gn, hv⟩, _⟩ := id b3
      have r1 := RV.wz (v := S1.1 0) hv g.1 (k := 17) (j := k) (i := 177 + k) (x := nI x) (by unfold zi; simp) (by unfold inR; omega) (Or.inl (by decide))
      refine ⟨S1.1 0 17 k, setV S1 0 (wn (S1.1 0) 17 k (nI x)), wz R1 (177 + k) (nI x), ?_, ?_, op_fin b3 ?_ ?_ r1 (wz_Fr _ _ _)⟩
      · rw [b1, pu_some]
        simp (disch := omega) only [pu_inb, pu_bnd, pu_let, pu_rd, pu_wr]
      · rw [b2, pu_some, sr_setting1 (v := S1.1 0) hv (by omega), pu_some]
        simp (disch := omega) only [pu_lit, nI_add, pu_inb, pu_bnd, pu_let, pu_wr]
        rfl
      · refine G_upd g (fun j => pu_wn_k _ _ _ _ (by decide)) (Or.inl fun k' j hk' => pu_wn_k _ _ _ _ (by omega)) (Or.inl fun k' j _ _ => pu_wn_k _ _ _ _ (by omega)) (Or.inl fun k' j _ _ => pu_wn_k _ _ _ _ (by omega)) (Or.inr ?_) (fun k' j _ _ => pu_wn_k _ _ _ _ (by omega))
        obtain ⟨_, _, _, _, gs, _⟩ := g
        refine ⟨?_, fun j hj => ?_⟩
        · rw [pu_wn]
          by_cases hk0 : k = 0
          · subst hk0
            exact ⟨x, by have := hM3 rfl; omega, if_pos ⟨rfl, rfl⟩⟩
          · rw [if_neg (by omega)]; exact gs.1
        · rw [pu_wn]
          by_cases hj2 : j = k
          · exact ⟨x, by omega, if_pos ⟨rfl, hj2⟩⟩
          · rw [if_neg (fun z => hj2 z.2)]; exact gs.2 j hj
      · exact GN_upd gn (pu_wn_k _ _ _ _ (by decide)) (pu_wn_k _ _ _ _ (by decide)) (fun j => pu_wn_k _ _ _ _ (by decide)) (by omega) (by omega)
/-- images and history -/
theorem HK_to {c t : Nat} {v w : VS} {z z' : Nat → Int32} (h : HK c t v z) (ha : Ag v w) (hz : ∀ i, i < 195 → z' i = z i) : HK c t w z' := by
  have e := ha.HK h
  exact ⟨e.1, e.2.1, fun k j hr => by rw [hz _ (zi_lt (relv_inR e.1.1 hr))]; exact e.2.2 k j hr⟩
theorem op_undo : Op_undo Rel := by
  intro n S R hn h
  have h' := rel_mono h (Nat.le_succ n)
  obtain ⟨h0, ⟨L, l1, l2, l3, l4⟩, ⟨m, m1, m2, m3, m4, m5, m6⟩, ⟨k0, k1, i1, i2, i3, i4, i5, i6, i7⟩⟩ := id h'
  unfold f_X6_undo f_X7_undo
  rw [m2, m3]
  by_cases hm : m = 0
  · subst hm
    rw [if_neg (by decide), if_pos (show nI 0 = 0 from rfl)]
    exact ⟨_, S, R, rfl, rfl, h'⟩
  · obtain ⟨q, rfl⟩ : ∃ q, m = q + 1 := ⟨m - 1, by omega⟩
    rw [if_pos (show (0 : Int32) < nI (q + 1) from nI_lt (a := 0) (by omega) (by omega)), if_neg (nI_ne0 (by omega) (by omega)), nI_pred]
    have hq := m4 q (by omega)
    obtain ⟨w, w1, w2⟩ := sp_copy (i := 0) (j := S.2 q) (by omega) (setV S 12 (wn (S.1 12) 2 4 (nI q)))
    have hc := sr_copy (k1 := 2) (k3 := 0) (by decide) (setR R (wn R.1 7 0 (nI q))) (a := 198 * q) (b := 0) (by show 198 * q + 198 ≤ 1584; omega) (by decide) (by decide) (by decide)
    have e12 : (setV S 12 (wn (S.1 12) 2 4 (nI q))).1 12 2 4 = nI q := by rw [setV_at, pu_wn_s]
    have e7 : (setR R (wn R.1 7 0 (nI q))).1 7 0 = nI q := pu_wn_s R.1 7 0 (nI q)
    have c7 : ∀ j, (cpR (setR R (wn R.1 7 0 (nI q))) 2 0 (198 * q) 0 198).1 7 j = if j = 0 then nI q else R.1 7 j := fun j => by
      rw [cpR_ne _ _ (by decide)]
      show wn R.1 7 0 (nI q) 7 j = _
      rw [pu_wn]
      simp
    have ck : ∀ k, k ≠ 0 → k ≠ 7 → (cpR (setR R (wn R.1 7 0 (nI q))) 2 0 (198 * q) 0 198).1 k = R.1 k := fun k h0 h7 => funext fun j => by
      rw [cpR_ne _ _ h0]
      exact pu_wn_k R.1 0 (nI q) j h7
    refine ⟨nI q, setV (setV S 12 (wn (S.1 12) 2 4 (nI q))) 0 w, cpR (setR R (wn R.1 7 0 (nI q))) 2 0 (198 * q) 0 198, ?_, ?_, ?_⟩
    · unfold f_X1_takeBack
      rw [m2, nI_pred, pu_let, e12]
      simp (disch := omega) only [pu_inb, pu_bnd, nI_clamp, setV_2]
      rw [decide_eq_true hq.2, pu_bnd, w1, pu_some, pu_some, setV_ne _ _ (by decide), e12]
    · rw [pu_let, e7, show (198 : Int32) = nI 198 from rfl, pk_mul, show (0 : Int32) = nI 0 from rfl, hc, pu_some, c7, if_pos rfl]
    · have s12 : ∀ k j, ¬ (k = 2 ∧ j = 4) → (setV (setV S 12 (wn (S.1 12) 2 4 (nI q))) 0 w).1 12 k j = S.1 12 k j := fun k j hk => by rw [setV_ne _ _ (by decide), setV_at, pu_wn, if_neg hk]
      have sv : ∀ i, i ≠ 12 → i ≠ 0 → (setV (setV S 12 (wn (S.1 12) 2 4 (nI q))) 0 w).1 i = S.1 i := fun i hi h0 => by rw [setV_ne _ _ h0, setV_ne _ _ hi]
      refine ⟨?_, ⟨L, l1, ?_, ?_, ?_⟩, ⟨q, by omega, ?_, ?_, m4, m5, ?_⟩, ⟨k0, k1, i1, i2, ?_, ?_, ?_, ?_, ?_⟩⟩
      · rw [setV_at]
        have e := m6 q (by omega)
        rw [setV_ne S _ (by omega : S.2 q ≠ 12)] at w2
        refine HK_to e w2 (fun i hi => ?_)
        show (if 0 = 0 ∧ 0 ≤ i ∧ i < 0 + 198 then wn R.1 7 0 (nI q) 2 (198 * q + (i - 0)) else _) = _
        rw [if_pos (by omega), pu_wn_k _ _ _ _ (by decide)]
        rfl
      · rw [s12 _ _ (by decide)]; exact l2
      · rw [c7, if_neg (by decide)]; exact l3
      · intro i hi
        rw [s12 _ _ (by omega), ck 4 (by decide) (by decide)]; exact l4 i hi
      · rw [setV_ne _ _ (by decide), e12]
      · rw [c7, if_pos rfl]
      · intro i hi
        show HK _ _ ((setV (setV S 12 (wn (S.1 12) 2 4 (nI q))) 0 w).1 (S.2 i)) _
        have := m4 i (by omega)
        rw [sv _ (by omega) (by omega), ck 2 (by decide) (by decide)]
        exact m6 i (by omega)
      · rw [s12 _ _ (by decide)]; exact i3
      · rw [s12 _ _ (by decide)]; exact i4
      · rw [c7, if_neg (by decide)]; exact i5
      · rw [sv 2 (by decide) (by decide), ck 3 (by decide) (by decide)]; exact i6
      · rw [sv 3 (by decide) (by decide), ck 3 (by decide) (by decide)]; exact i7
theorem op_keep : Op_keep Rel := by
  intro n S R a0 hn h
  have h' := rel_mono h (Nat.le_succ n)
  obtain ⟨h0, ⟨L, l1, l2, l3, l4⟩, ⟨m, m1, m2, m3, m4, m5, m6⟩, ⟨k0, k1, i1, i2, i3, i4, i5, i6, i7⟩⟩ := id h'
  unfold f_X6_keep f_X7_keep f_X6_isImage
  rw [some_id, wi_67]
  rcases wi0 (p := a0) 1 (by decide) with h1 | ⟨h1, x, hx, rfl⟩
  · rw [show f_X6_within a0 0 1 = some 0 from h1]
    exact ⟨_, S, R, rfl, rfl, h'⟩
  · rw [show f_X6_within (nI x) 0 1 = some 1 from h1, pu_some, pu_some, ite10, ite10]
    simp (disch := omega) only [pu_inb, pu_bnd, nI_clamp]
    rw [decide_eq_true (by omega : 2 + x < 12), pu_bnd]
    obtain ⟨w, w1, w2⟩ := sp_copy (i := 2 + x) (j := 0) (by omega) S
    have hc := sr_copy (k1 := 0) (k3 := 3) (by decide) R (a := 0) (b := 198 * x) (by decide) (by show 198 * x + 198 ≤ 396; omega) (by decide) (by decide)
    rw [w1, pu_some, show (198 : Int32) = nI 198 from rfl, pk_mul, show (0 : Int32) = nI 0 from rfl, hc, pu_some, pu_let, pu_let]
    have e7 : (cpR R 0 3 0 (198 * x) 198).1 7 1 = nI (k0 + 2 * k1) := by rw [cpR_ne _ _ (by decide)]; exact i5
    have hbit : nI (k0 + 2 * k1) ||| ((1 : Int32) <<< (nI x &&& 31)) = nI ((if x = 0 then 1 else k0) + 2 * (if x = 1 then 1 else k1)) := by
      have a1 : x = 0 ∨ x = 1 := by omega
      have a2 : k0 = 0 ∨ k0 = 1 := by omega
      have a3 : k1 = 0 ∨ k1 = 1 := by omega
      rcases a1 with e | e <;> rcases a2 with e2 | e2 <;> rcases a3 with e3 | e3 <;> subst e <;> subst e2 <;> subst e3 <;> decide
    rw [e7, hbit]
    have c7 : ∀ j (y : Int32), (setR (cpR R 0 3 0 (198 * x) 198) (wn (cpR R 0 3 0 (198 * x) 198).1 7 1 y)).1 7 j = if j = 1 then y else R.1 7 j := fun j y => by
      show wn (cpR R 0 3 0 (198 * x) 198).1 7 1 y 7 j = _
      rw [pu_wn, cpR_ne _ _ (by decide)]
      simp
    have ck : ∀ k (y : Int32), k ≠ 3 → k ≠ 7 → (setR (cpR R 0 3 0 (198 * x) 198) (wn (cpR R 0 3 0 (198 * x) 198).1 7 1 y)).1 k = R.1 k := fun k y h0 h7 => funext fun j => by
      show wn (cpR R 0 3 0 (198 * x) 198).1 7 1 y k j = _
      rw [pu_wn_k _ _ _ _ h7, cpR_ne _ _ h0]
    have c3 : ∀ j (y : Int32), (setR (cpR R 0 3 0 (198 * x) 198) (wn (cpR R 0 3 0 (198 * x) 198).1 7 1 y)).1 3 j = if 198 * x ≤ j ∧ j < 198 * x + 198 then R.1 0 (j - 198 * x) else R.1 3 j := fun j y => by
      show wn (cpR R 0 3 0 (198 * x) 198).1 7 1 y 3 j = _
      rw [pu_wn_k _ _ _ _ (by decide)]
      show (if 3 = 3 ∧ 198 * x ≤ j ∧ j < 198 * x + 198 then R.1 0 (0 + (j - 198 * x)) else R.1 3 j) = _
      rw [Nat.zero_add]
      by_cases c : 198 * x ≤ j ∧ j < 198 * x + 198
      · rw [if_pos c, if_pos ⟨rfl, c⟩]
      · rw [if_neg c, if_neg (fun z => c z.2)]
    refine ⟨S.1 0 22 3, setV (setV S (2 + x) w) 12 (wn (S.1 12) 3 x 1), setR (cpR R 0 3 0 (198 * x) 198) (wn (cpR R 0 3 0 (198 * x) 198).1 7 1 (nI ((if x = 0 then 1 else k0) + 2 * (if x = 1 then 1 else k1)))), ?_, ?_, ?_⟩
    · simp (disch := omega) only [pu_let, pu_wr]
      rw [setV_ne S w (by omega : 12 ≠ 2 + x), setV_ne _ _ (by decide), setV_ne _ _ (by omega)]
    · simp (disch := omega) only [pu_lit, pu_inb, pu_bnd, pu_rd]
      rw [ck 0 _ (by decide) (by decide), rz_174 (v := S.1 0) h0.2.2 h0.1.1, h0.1.1.2.2.2.2.2.2.2.1]
    · have s12 : ∀ k j, ¬ (k = 3 ∧ j = x) → (setV (setV S (2 + x) w) 12 (wn (S.1 12) 3 x 1)).1 12 k j = S.1 12 k j := fun k j hk => by rw [setV_at, pu_wn, if_neg hk]
      have sv : ∀ i, i ≠ 12 → i ≠ 2 + x → (setV (setV S (2 + x) w) 12 (wn (S.1 12) 3 x 1)).1 i = S.1 i := fun i hi h0 => by rw [setV_ne _ _ hi, setV_ne _ _ h0]
      have svx : (setV (setV S (2 + x) w) 12 (wn (S.1 12) 3 x 1)).1 (2 + x) = w := by rw [setV_ne _ _ (by omega), setV_at]
      have s3 : ∀ j, (setV (setV S (2 + x) w) 12 (wn (S.1 12) 3 x 1)).1 12 3 j = if j = x then 1 else S.1 12 3 j := fun j => by
        rw [setV_at, pu_wn]
        simp
      refine ⟨?_, ⟨L, l1, ?_, ?_, ?_⟩, ⟨m, m1, ?_, ?_, m4, m5, ?_⟩, ⟨if x = 0 then 1 else k0, if x = 1 then 1 else k1, by split <;> omega, by split <;> omega, ?_, ?_, ?_, ?_, ?_⟩⟩
      · rw [sv 0 (by decide) (by omega), ck 0 _ (by decide) (by decide)]; exact h0
      · rw [s12 _ _ (by omega)]; exact l2
      · rw [c7, if_neg (by decide)]; exact l3
      · intro i hi
        rw [s12 _ _ (by omega), ck 4 _ (by decide) (by decide)]; exact l4 i hi
      · rw [s12 _ _ (by omega)]; exact m2
      · rw [c7, if_neg (by decide)]; exact m3
      · intro i hi
        show HK _ _ ((setV (setV S (2 + x) w) 12 (wn (S.1 12) 3 x 1)).1 (S.2 i)) _
        have := m4 i (by omega)
        rw [sv _ (by omega) (by omega), ck 2 _ (by decide) (by decide)]
        exact m6 i (by omega)
      · rw [s3]
        by_cases e : x = 0
        · rw [if_pos e.symm, if_pos e]; rfl
        · rw [if_neg (fun z => e z.symm), if_neg e]; exact i3
      · rw [s3]
        by_cases e : x = 1
        · rw [if_pos e.symm, if_pos e]; rfl
        · rw [if_neg (fun z => e z.symm), if_neg e]; exact i4
      · rw [c7, if_pos rfl]
      · intro hk
        by_cases e : x = 0
        · subst e
          rw [show (2 : Nat) = 2 + 0 from rfl, svx]
          refine HK_to h0 w2 (fun i hi => ?_)
          rw [c3, if_pos (by omega), show i - 198 * 0 = i by omega]
        · rw [if_neg e] at hk
          rw [sv 2 (by decide) (by omega)]
          refine HK_to (i6 hk) (fun _ _ _ => rfl) (fun i hi => ?_)
          rw [c3, if_neg (by omega)]
      · intro hk
        by_cases e : x = 1
        · subst e
          rw [show (3 : Nat) = 2 + 1 from rfl, svx]
          refine HK_to h0 w2 (fun i hi => ?_)
          rw [c3, if_pos (by omega), show 198 + i - 198 * 1 = i by omega]
        · rw [if_neg e] at hk
          rw [sv 3 (by decide) (by omega)]
          refine HK_to (i7 hk) (fun _ _ _ => rfl) (fun i hi => ?_)
          rw [c3, if_neg (by omega)]
theorem op_back : Op_back Rel := by
  intro n S R a0 hn h
  have h' := rel_mono h (Nat.le_succ n)
  obtain ⟨h0, _, _, ⟨k0, k1, i1, i2, i3, i4, i5, i6, i7⟩⟩ := id h
  unfold f_X6_back f_X7_back f_X6_isImage
  rw [some_id, wi_67]
  rcases wi0 (p := a0) 1 (by decide) with h1 | ⟨h1, x, hx, rfl⟩
  · rw [show f_X6_within a0 0 1 = some 0 from h1]
    exact ⟨_, S, R, rfl, rfl, h'⟩
  · rw [show f_X6_within (nI x) 0 1 = some 1 from h1, pu_some, pu_some, ite10, ite10]
    simp (disch := omega) only [pu_inb, pu_bnd, nI_clamp, pu_rd]
    rw [decide_eq_true (by omega : 2 + x < 12), i5]
    have hb : ((nI (k0 + 2 * k1) >>> (nI x &&& 31)) &&& (1 : Int32) = 0) ↔ (S.1 12 3 x = 0) := by
      have a1 : x = 0 ∨ x = 1 := by omega
      have a2 : k0 = 0 ∨ k0 = 1 := by omega
      have a3 : k1 = 0 ∨ k1 = 1 := by omega
      rcases a1 with e | e <;> subst e <;> (first | rw [i3] | rw [i4]) <;> rcases a2 with e2 | e2 <;> rcases a3 with e3 | e3 <;> subst e2 <;> subst e3 <;> decide
    by_cases hz : S.1 12 3 x = 0
    · rw [if_pos hz, if_pos (hb.mpr hz)]
      exact ⟨_, S, R, rfl, rfl, h'⟩
    · rw [if_neg hz, if_neg (fun z => hz (hb.mp z))]
      obtain ⟨S1, R1, b1, b2, b3, b4, b5, b6, b7, b8, b9⟩ := rel_record h
      rw [b1, b2, pu_some, pu_some]
      obtain ⟨w, w1, w2⟩ := sp_copy (i := 0) (j := 2 + x) (by omega) S1
      have hc := sr_copy (k1 := 3) (k3 := 0) (by decide) R1 (a := 198 * x) (b := 0) (by show 198 * x + 198 ≤ 396; omega) (by decide) (by decide) (by decide)
      rw [pu_bnd, w1, pu_some, show (198 : Int32) = nI 198 from rfl, pk_mul, show (0 : Int32) = nI 0 from rfl, hc, pu_some]
      obtain ⟨_, _, _, ⟨q0, q1, j1, j2, j3, j4, j5, j6, j7⟩⟩ := id b3
      have hk : HK (1000 * n) (100 * n) (S1.1 (2 + x)) (fun q => R1.1 3 (198 * x + q)) := by
        have a1 : x = 0 ∨ x = 1 := by omega
        rcases a1 with e | e <;> subst e
        · have e0 : S.1 12 3 0 = S1.1 12 3 0 := by rw [b6 3 (by decide)]
          rw [e0, j3] at hz
          have : q0 = 1 := by
            have : q0 ≠ 0 := fun z => hz (by rw [z]; rfl)
            omega
          refine HK_to (j6 this) (fun _ _ _ => rfl) (fun i _ => ?_)
          rw [show 198 * 0 + i = i by omega]
        · have e0 : S.1 12 3 1 = S1.1 12 3 1 := by rw [b6 3 (by decide)]
          rw [e0, j4] at hz
          have : q1 = 1 := by
            have : q1 ≠ 0 := fun z => hz (by rw [z]; rfl)
            omega
          exact HK_to (j7 this) (fun _ _ _ => rfl) (fun i _ => rfl)
      have hk2 : HK (1000 * n) (100 * n) w ((cpR R1 3 0 (198 * x) 0 198).1 0) := HK_to hk w2 (fun i hi => by
        show (if 0 = 0 ∧ 0 ≤ i ∧ i < 0 + 198 then R1.1 3 (198 * x + (i - 0)) else _) = _
        rw [if_pos (by omega)]
        rfl)
      refine ⟨w 22 3, setV S1 0 w, cpR R1 3 0 (198 * x) 0 198, ?_, ?_, rel_set b3 (by omega) (hk2.mono (by omega) (by omega)) ⟨fun k hk => funext fun j => cpR_ne _ _ (by omega), fun j _ => cpR_ne _ _ (by decide)⟩⟩
      · rw [setV_at]
      · simp (disch := omega) only [pu_lit, pu_inb, pu_bnd, pu_rd]
        rw [rz_174 (v := w) hk2.2.2 hk2.1.1, hk2.1.1.2.2.2.2.2.2.2.1]
theorem some_id' (x : Option Int32) : (bnd2 x fun r => some r) = x := some_id x
theorem stHM_k {k : Nat} (hk : k < 4) : ∃ M, M ≤ 1000 ∧ stHM k = nI M ∧ M = (if k = 0 then 2 else if k = 1 then 50 else if k = 2 then 1000 else 1) := by
  have : k = 0 ∨ k = 1 ∨ k = 2 ∨ k = 3 := by omega
  rcases this with e | e | e | e <;> subst e
  · exact ⟨2, by decide, rfl, rfl⟩
  · exact ⟨50, by decide, rfl, rfl⟩
  · exact ⟨1000, by decide, rfl, rfl⟩
  · exact ⟨1, by decide, rfl, rfl⟩
theorem op_setHouse : Op_setHouse Rel := by
  intro n S R a0 a1 a2 hn h
  have hbad : ∃ (r : Int32) (S2 : PS) (R2 : RS), (some ((-1000002 : Int32), S) : Option (Int32 × PS)) = some (r, S2) ∧ (some ((-1000002 : Int32), R) : Option (Int32 × RS)) = some (r, R2) ∧ Rel (n + 1) S2 R2 := ⟨_, S, R, rfl, rfl, rel_mono h (by omega)⟩
  unfold f_X6_setHouse f_X7_setHouse
  rcases is_house h a0 with ⟨h1, h2⟩ | ⟨x, hx, rfl, h1, h2⟩
  · rw [h1, h2, pu_some, pu_some, ite00, ite00]; exact hbad
  · rw [h1, h2, pu_some, pu_some, ite10, ite10]
    rcases wi0 (p := a1) 3 (by decide) with h3 | ⟨h3, k, hk, rfl⟩
    · rw [show f_X6_within a1 0 3 = some 0 from h3, pu_some, ite00]
      have hp : f_X7_isProperty a1 a2 = some 0 := by
        have e : ∀ m : Nat, m ≤ 3 → a1 ≠ nI m := fun m hm z => by
          subst z
          have : m = 0 ∨ m = 1 ∨ m = 2 ∨ m = 3 := by omega
          rcases this with e | e | e | e <;> subst e <;> exact absurd h3 (by decide)
        unfold f_X7_isProperty
        rw [if_neg (show ¬ a1 = 0 from e 0 (by decide)), if_neg (show ¬ a1 = 1 from e 1 (by decide)), if_neg (show ¬ a1 = 2 from e 2 (by decide)), if_neg (show ¬ a1 = 3 from e 3 (by decide))]
      rw [hp, pu_some, ite00]; exact hbad
    · obtain ⟨M, M1, M2, M3⟩ := stHM_k (k := k) (by omega)
      have hp : f_X7_isProperty (nI k) a2 = f_X6_within a2 0 (nI M) := by
        have : k = 0 ∨ k = 1 ∨ k = 2 ∨ k = 3 := by omega
        rcases this with e | e | e | e <;> subst e <;> subst M3 <;> (unfold f_X7_isProperty; simp only [some_id, wi_67]; rfl)
      rw [show f_X6_within (nI k) 0 3 = some 1 from h3, pu_some, ite10, hp]
      simp (disch := omega) only [pu_inb, pu_bnd, nI_clamp, M2]
      rcases wi0 (p := a2) M (by omega) with h4 | ⟨h4, y, hy, rfl⟩
      · rw [h4, pu_some, pu_some, ite00, ite00]; exact hbad
      · rw [h4, pu_some, pu_some, ite10, ite10]
        obtain ⟨S1, R1, b1, b2, b3, b4, _⟩ := rel_record h
        rw [b1, b2, pu_some, pu_some]
        obtain ⟨⟨g, gn, hv⟩, _⟩ := id b3
        have hx1 : x < hsz (S1.1 0) := by rw [b4]; exact hx
        have h10 := g.1.2.1
        have r1 := RV.wz (v := S1.1 0) hv g.1 (k := k) (j := x) (i := 8 * x + k) (x := nI y) (by unfold zi; rw [if_pos (by omega)]) (by unfold inR; omega) (Or.inl (by omega))
        have et : f_X2_told (S1.1 0) (nI x) (nI k) = some (S1.1 0 k x) := by
          have : k = 0 ∨ k = 1 ∨ k = 2 ∨ k = 3 := by omega
          rcases this with e | e | e | e <;> subst e <;> (unfold f_X2_told; simp (disch := omega) only [pu_lit, nI_eq, Nat.reduceEqDiff, if_true, if_false, pu_inb, pu_bnd, pu_rd])
        have ec : f_X2_change (S1.1 0) (nI x) (nI k) (nI y) = some (wn (S1.1 0) k x (nI y)) := by
          have : k = 0 ∨ k = 1 ∨ k = 2 ∨ k = 3 := by omega
          rcases this with e | e | e | e <;> subst e <;> (unfold f_X2_change; simp (disch := omega) only [pu_lit, nI_eq, Nat.reduceEqDiff, if_true, if_false, pu_inb, pu_bnd, pu_wr, pu_let])
        refine ⟨S1.1 0 k x, setV S1 0 (wn (S1.1 0) k x (nI y)), wz R1 (8 * x + k) (nI y), ?_, ?_, op_fin b3 ?_ ?_ r1 (wz_Fr _ _ _)⟩
        · rw [et, pu_some, ec, pu_some, pu_let]
        · rw [sr_of (v := S1.1 0) hv g.1 (by omega) hx1, pu_some]
          simp (disch := omega) only [pu_lit, pk_mul, nI_add, pu_inb, pu_bnd, pu_let, pu_wr]
          rfl
        · refine G_upd g (fun j => pu_wn_k _ _ _ _ (by omega)) (Or.inr ?_) (Or.inl fun k' j _ _ => pu_wn_k _ _ _ _ (by omega)) (Or.inl fun k' j _ _ => pu_wn_k _ _ _ _ (by omega)) (Or.inl fun j => pu_wn_k _ _ _ _ (by omega)) (fun k' j _ _ => pu_wn_k _ _ _ _ (by omega))
          intro j hj
          rw [show hsz (wn (S1.1 0) k x (nI y)) = hsz (S1.1 0) from hsz_congr (pu_wn_k _ _ _ _ (by omega))] at hj
          obtain ⟨q1, q2, q3, q4, q5, q6⟩ := g.2.1 j hj
          simp only [pu_wn]
          rw [if_neg (show ¬ (5 = k ∧ j = x) by omega), if_neg (show ¬ (4 = k ∧ j = x) by omega)]
          refine ⟨?_, ?_, ?_, ?_, q5, q6⟩
          · split
            · rename_i c; exact ⟨y, by rw [← c.1, if_pos rfl] at M3; omega, rfl⟩
            · exact q1
          · split
            · rename_i c; exact ⟨y, by rw [← c.1, if_neg (by decide), if_pos rfl] at M3; omega, rfl⟩
            · exact q2
          · split
            · rename_i c; exact ⟨y, by omega, rfl⟩
            · exact q3
          · split
            · rename_i c; exact ⟨y, by rw [← c.1, if_neg (by decide), if_neg (by decide), if_neg (by decide)] at M3; omega, rfl⟩
            · exact q4
        · exact GN_upd gn (pu_wn_k _ _ _ _ (by omega)) (pu_wn_k _ _ _ _ (by omega)) (fun j => pu_wn_k _ _ _ _ (by omega)) (by omega) (by omega)
