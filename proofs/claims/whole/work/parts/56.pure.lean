/-! a house goes: the reference -/
theorem sr_rm103 (K : Int32 → RS → Option (Int32 × RS)) {p x2 : Nat} (hx : x2 < 12) (Q : RS) : f_X7_removeHouse_103 K (nI p) (nI x2) fuel 0 Q = K (nI (x2 + 1)) (wz (wz Q (80 + 3 * x2 + 0) (ren p (Q.1 0 (80 + 3 * x2 + 0)))) (80 + 3 * x2 + 1) (ren p (Q.1 0 (80 + 3 * x2 + 1)))) := by
  obtain ⟨n, hn⟩ : ∃ n, fuel = n + 1 + 1 + 1 := ⟨99997, rfl⟩
  rw [show f_X7_removeHouse_103 K (nI p) (nI x2) fuel 0 Q = f_X7_removeHouse_103 K (nI p) (nI x2) (n + 1 + 1 + 1) (nI 0) Q by rw [hn]; rfl]
  have hss : ∀ a b : Int32, a - (a - b) = b := fun a b => by grind
  have st : ∀ (k m : Nat) (Z : RS), k < 2 → f_X7_removeHouse_103 K (nI p) (nI x2) (m + 1) (nI k) Z = f_X7_removeHouse_103 K (nI p) (nI x2) m (nI (k + 1)) (wz Z (80 + 3 * x2 + k) (ren p (Z.1 0 (80 + 3 * x2 + k)))) := fun k m Z hk => by
    have h3 : ¬ 2 ≤ k := by omega
    have hl := sr_loanRaw Z hx (k := k) (by omega)
    have s1 : f_X7_removeHouse_103 K (nI p) (nI x2) (m + 1) (nI k) Z = f_X7_removeHouse_137 (f_X7_removeHouse_103 K (nI p) (nI x2) m) Z (nI p) (nI x2) (nI k) (Z.1 0 (80 + 3 * x2 + k) - ren p (Z.1 0 (80 + 3 * x2 + k))) (Z.1 0 (80 + 3 * x2 + k)) (nI (80 + 3 * x2 + k)) := by
      unfold ren
      by_cases c : Z.1 0 (80 + 3 * x2 + k) ≤ nI p
      · simp (disch := omega) only [f_X7_removeHouse_103, pu_bnd, pu_some, pu_let, pu_inb, pu_rd, pu_wr, nI_1, nI_leI, nI_ltI, nI_eq, pu_lit, nI_add, pk_mul, h3, if_false, hl, c, if_true, Int32.sub_self]
      · simp (disch := omega) only [f_X7_removeHouse_103, pu_bnd, pu_some, pu_let, pu_inb, pu_rd, pu_wr, nI_1, nI_leI, nI_ltI, nI_eq, pu_lit, nI_add, pk_mul, h3, if_false, hl, c, hss]
    rw [s1]
    unfold f_X7_removeHouse_137
    simp (disch := omega) only [pu_bnd, pu_some, pu_let, pu_inb, pu_rd, pu_wr, nI_1, nI_leI, nI_ltI, nI_eq, pu_lit, nI_add, pk_mul, hss]
    rfl
  rw [st 0 _ _ (by decide), st 1 _ _ (by decide)]
  have e1 : (wz Q (80 + 3 * x2 + 0) (ren p (Q.1 0 (80 + 3 * x2 + 0)))).1 0 (80 + 3 * x2 + 1) = Q.1 0 (80 + 3 * x2 + 1) := by rw [wz0, if_neg (by omega)]
  rw [e1]
  simp (disch := omega) only [f_X7_removeHouse_103, pu_bnd, pu_some, pu_let, pu_inb, pu_rd, pu_wr, nI_1, nI_leI, nI_ltI, nI_eq, pu_lit, nI_add, pk_mul, Nat.reduceLeDiff, Nat.reduceAdd, if_true]
theorem sr_rm89 {p L : Nat} (hL : L ≤ 12) {R : RS} (h173 : R.1 0 173 = nI L) : ∃ R', f_X7_removeHouse_89 (nI p) fuel 0 R = some (R.1 0 172, R') ∧ Fr R R' ∧ (∀ j, j < L → LC R' j = (ren p (LC R j).1, ren p (LC R j).2.1, (LC R j).2.2)) ∧ ∀ i, (i < 80 ∨ 116 ≤ i) → R'.1 0 i = R.1 0 i := by
  have lp : ∀ (d x n : Nat) (Q : RS), x + d = L → d < n → Fr R Q → (∀ j, j < x → LC Q j = (ren p (LC R j).1, ren p (LC R j).2.1, (LC R j).2.2)) → (∀ j, x ≤ j → LC Q j = LC R j) → (∀ i, (i < 80 ∨ 116 ≤ i) → Q.1 0 i = R.1 0 i) →
      ∃ R', f_X7_removeHouse_89 (nI p) n (nI x) Q = some (R.1 0 172, R') ∧ Fr R R' ∧ (∀ j, j < L → LC R' j = (ren p (LC R j).1, ren p (LC R j).2.1, (LC R j).2.2)) ∧ ∀ i, (i < 80 ∨ 116 ≤ i) → R'.1 0 i = R.1 0 i := by
    intro d
    induction d with
    | zero =>
      intro x n Q hx hn q1 q2 q3 q4
      obtain ⟨n, rfl⟩ : ∃ m, n = m + 1 := ⟨n - 1, by omega⟩
      obtain rfl : x = L := by omega
      have e1 : Q.1 0 173 = nI x := by rw [q4 173 (by omega), h173]
      refine ⟨Q, ?_, q1, q2, q4⟩
      simp (disch := omega) only [f_X7_removeHouse_89, pu_bnd, pu_some, pu_let, pu_inb, pu_rd, pu_wr, nI_1, nI_leI, nI_ltI, nI_eq, pu_lit, nI_add, pk_mul, e1, Nat.le_refl, if_true, q4 172 (by omega)]
    | succ d ih =>
      intro x n Q hx hn q1 q2 q3 q4
      obtain ⟨n, rfl⟩ : ∃ m, n = m + 1 := ⟨n - 1, by omega⟩
      have h2 : ¬ L ≤ x := by omega
      have e1 : Q.1 0 173 = nI L := by rw [q4 173 (by omega), h173]
      have eL : ∀ j, LC (wz (wz Q (80 + 3 * x + 0) (ren p (Q.1 0 (80 + 3 * x + 0)))) (80 + 3 * x + 1) (ren p (Q.1 0 (80 + 3 * x + 1)))) j = if j = x then (ren p (LC Q j).1, ren p (LC Q j).2.1, (LC Q j).2.2) else LC Q j := fun j => by
        unfold LC
        simp only [wz0]
        by_cases hj : j = x
        · subst hj
          simp
        · rw [if_neg hj, if_neg (by omega), if_neg (by omega), if_neg (by omega), if_neg (by omega), if_neg (by omega), if_neg (by omega)]
      obtain ⟨R', a1, a2⟩ := ih (x + 1) n (wz (wz Q (80 + 3 * x + 0) (ren p (Q.1 0 (80 + 3 * x + 0)))) (80 + 3 * x + 1) (ren p (Q.1 0 (80 + 3 * x + 1)))) (by omega) (by omega) (q1.trans ((wz_Fr _ _ _).trans (wz_Fr _ _ _))) (fun j hj => by
        rw [eL]
        by_cases c : j = x
        · rw [if_pos c, q3 j (by omega)]
        · rw [if_neg c, q2 j (by omega)]) (fun j hj => by rw [eL, if_neg (by omega), q3 j (by omega)]) (fun i hi => by rw [wz0, if_neg (by omega), wz0, if_neg (by omega), q4 i hi])
      refine ⟨R', ?_, a2⟩
      rw [← a1]
      have hd := sr_rm103 (f_X7_removeHouse_89 (nI p) n) (p := p) (x2 := x) (by omega) Q
      simp (disch := omega) only [f_X7_removeHouse_89, pv_bnd, pv_some, pv_let, pu_inb, pu_rd, pv_lit, nI_leI, e1, h2, if_false]
      rw [← hd, nI_0]
  exact lp L 0 fuel R (by omega) (fuel_gt (by omega)) (Fr.rfl' R) (fun j hj => by omega) (fun _ _ => rfl) (fun _ _ => rfl)
theorem sr_rm51 {p m : Nat} (hm : m ≤ 10) (hp : p < m) {R : RS} (h172 : R.1 0 172 = nI (m - 1)) : ∃ Q, f_X7_removeHouse_51 (nI p) fuel (nI (8 * p)) R = f_X7_removeHouse_89 (nI p) fuel 0 Q ∧ Fr R Q ∧ ∀ i, Q.1 0 i = if 8 * p ≤ i ∧ i < 8 * (m - 1) then R.1 0 (i + 8) else R.1 0 i := by
  have lp : ∀ (d x n : Nat) (Q : RS), x + d = 8 * (m - 1) → d < n → 8 * p ≤ x → Fr R Q → (∀ i, Q.1 0 i = if 8 * p ≤ i ∧ i < x then R.1 0 (i + 8) else R.1 0 i) →
      ∃ Q', f_X7_removeHouse_51 (nI p) n (nI x) Q = f_X7_removeHouse_89 (nI p) fuel 0 Q' ∧ Fr R Q' ∧ ∀ i, Q'.1 0 i = if 8 * p ≤ i ∧ i < 8 * (m - 1) then R.1 0 (i + 8) else R.1 0 i := by
    intro d
    induction d with
    | zero =>
      intro x n Q hx hn hpx q1 q2
      obtain ⟨n, rfl⟩ : ∃ m, n = m + 1 := ⟨n - 1, by omega⟩
      obtain rfl : x = 8 * (m - 1) := by omega
      have e1 : Q.1 0 172 = nI (m - 1) := by rw [q2, if_neg (by omega), h172]
      refine ⟨Q, ?_, q1, q2⟩
      simp (disch := omega) only [f_X7_removeHouse_51, pv_bnd, pv_let, pu_inb, pu_rd, pv_lit, pk_mul, e1, nI_leI, Nat.le_refl, if_true]
    | succ d ih =>
      intro x n Q hx hn hpx q1 q2
      obtain ⟨n, rfl⟩ : ∃ m, n = m + 1 := ⟨n - 1, by omega⟩
      have h2 : ¬ 8 * (m - 1) ≤ x := by omega
      have e1 : Q.1 0 172 = nI (m - 1) := by rw [q2, if_neg (by omega), h172]
      obtain ⟨Q', a1, a2⟩ := ih (x + 1) n (wz Q x (Q.1 0 (x + 8))) (by omega) (by omega) (by omega) (q1.trans (wz_Fr _ _ _)) (fun i => by
        rw [wz0]
        by_cases c : i = x
        · rw [if_pos c, if_pos (by omega), q2, if_neg (by omega), c]
        · rw [if_neg c, q2]
          by_cases c2 : 8 * p ≤ i ∧ i < x
          · rw [if_pos c2, if_pos (by omega)]
          · rw [if_neg c2, if_neg (by omega)])
      refine ⟨Q', ?_, a2⟩
      rw [← a1]
      simp (disch := omega) only [f_X7_removeHouse_51, pv_bnd, pv_let, pu_inb, pu_rd, pu_wr, pv_lit, pk_mul, nI_add, e1, nI_leI, h2, if_false]
      rfl
  exact lp (8 * (m - 1) - 8 * p) (8 * p) fuel R (by omega) (fuel_gt (by omega)) (Nat.le_refl _) (Fr.rfl' R) (fun i => by rw [if_neg (by omega)])
theorem op_removeHouse : Op_removeHouse Rel := by
  intro n S R a0 hn h
  have hbad : ∀ e : Int32, ∃ (r : Int32) (S2 : PS) (R2 : RS), (some (e, S) : Option (Int32 × PS)) = some (r, S2) ∧ (some (e, R) : Option (Int32 × RS)) = some (r, R2) ∧ Rel (n + 1) S2 R2 := fun e => ⟨_, S, R, rfl, rfl, rel_mono h (by omega)⟩
  unfold f_X6_removeHouse f_X7_removeHouse
  rcases is_house h a0 with ⟨h1, h2⟩ | ⟨p, hp, rfl, h1, h2⟩
  · rw [h1, h2, pu_some, pu_some, ite00, ite00]; exact hbad _
  · rw [h1, h2, pu_some, pu_some, ite10, ite10]
    obtain ⟨g0, gn0, hv0⟩ := h.1
    have hv0' : RV (S.1 0) R := hv0
    have o1 := sr_owed hv0' g0.1 (e := 0) (by decide) (nI p)
    have o2 := sr_owed hv0' g0.1 (e := 1) (by decide) (nI p)
    obtain ⟨A, A1, A2, A3⟩ := owed_0 g0.1 g0.2.2.1 (k := 10) (nI p)
    obtain ⟨B, B1, B2, B3⟩ := owed_0 g0.1 g0.2.2.1 (k := 11) (nI p)
    rw [show (0 : Int32) = nI 0 from rfl, o1, pu_some, show (1 : Int32) = nI 1 from rfl, o2, pu_some, show smF (owF (S.1 0) (10 + 0) (nI p)) 0 (lsz (S.1 0)) 0 = nI A from A2, show smF (owF (S.1 0) (10 + 1) (nI p)) 0 (lsz (S.1 0)) 0 = nI B from B2, nI_add]
    rcases sp_involve g0.1 (nI p) with ⟨i1, i2⟩ | ⟨i1, j, i2, i3⟩
    · have hA := A3.mpr (fun j hj => (i2 j hj).1)
      have hB := B3.mpr (fun j hj => (i2 j hj).2)
      rw [i1, pu_some, if_pos (show (0 : Int32) = nI 0 from rfl), if_pos ((nI_leI (by omega) (by omega)).mpr (by omega))]
      obtain ⟨S1, R1, b1, b2, b3, b4, _⟩ := rel_record h
      rw [b1, b2, pu_some, pu_some]
      obtain ⟨⟨g, gn, hv⟩, _⟩ := id b3
      have hv' : RV (S1.1 0) R1 := hv
      rw [← b4] at hp i2
      obtain ⟨ga, gh, gl, gb, gs, gt, gq⟩ := id g
      have h10 := ga.2.1
      have h12 := ga.2.2.2.1
      have z2 := rz_172 hv' ga
      have z3 := rz_173 hv' ga
      generalize hm : hsz (S1.1 0) = m at hp h10 z2
      generalize hL : lsz (S1.1 0) = L at i2 h12 z3
      obtain ⟨w1, c1, c2⟩ := sp_rm2 (v := S1.1 0) (by rw [ga.1, hm]) h10 hp
      have c22 : w1 22 1 = nI L := by rw [c2, if_neg (by omega), if_neg (by omega), ga.2.2.1, hL]
      obtain ⟨w, d1, d2⟩ := sp_renumber (v := w1) (p := p) c22 h12
      have dk : ∀ k j, w k j = if k = 22 ∧ j = 0 then nI (m - 1) else if k < 8 ∧ p ≤ j ∧ j < m - 1 then S1.1 0 k (j + 1) else if (k = 10 ∨ k = 11) ∧ j < L then ren p (S1.1 0 k j) else S1.1 0 k j := fun k j => by
        rw [d2]
        by_cases q : (k = 10 ∨ k = 11) ∧ j < L
        · rw [if_pos q, if_neg (by omega), if_neg (by omega), if_pos q, c2, if_neg (by omega), if_neg (by omega)]
        · rw [if_neg q, if_neg q, c2]
      obtain ⟨Q, e1, e2, e3⟩ := sr_rm51 (p := p) (m := m) h10 hp (R := wz R1 172 (nI (m - 1))) (by rw [wz0, if_pos rfl])
      obtain ⟨R', f1, f2, f3, f4⟩ := sr_rm89 (p := p) (L := L) h12 (R := Q) (by rw [e3, if_neg (by omega), wz0, if_neg (by omega), z3])
      have wo : ∀ k j, 12 ≤ k → ¬ (k = 22 ∧ j = 0) → w k j = S1.1 0 k j := fun k j q1 q2 => by rw [dk, if_neg q2, if_neg (by omega), if_neg (by omega)]
      have wh : ∀ k j, k < 8 → j < m - 1 → w k j = S1.1 0 k (if p ≤ j then j + 1 else j) := fun k j q1 q2 => by
        rw [dk, if_neg (by omega)]
        by_cases q : p ≤ j
        · rw [if_pos ⟨q1, q, q2⟩, if_pos q]
        · rw [if_neg (by omega), if_neg (by omega), if_neg q]
      have w0 : w 22 0 = nI (m - 1) := by rw [dk, if_pos ⟨rfl, rfl⟩]
      have hhw : hsz w = m - 1 := by unfold hsz; rw [w0, nI_clamp (by omega)]
      have hlw : lsz w = L := by unfold lsz; rw [wo 22 1 (by decide) (by omega)]; exact hL
      have hqw : qsz w = qsz (S1.1 0) := by unfold qsz; rw [wo 22 2 (by decide) (by omega)]
      have hrw : hrz w = hrz (S1.1 0) := by unfold hrz; rw [wo 22 3 (by decide) (by omega)]
      have hlt : ∀ j, j < m - 1 → (if p ≤ j then j + 1 else j) < m := fun j hj => by split <;> omega
      refine ⟨nI (m - 1), setV S1 0 w, R', ?_, ?_, op_fin b3 ⟨⟨?_, ?_, ?_, ?_, ?_, ?_, ?_, ?_, ?_, ?_⟩, ?_, ?_, ?_, ?_, ?_, ?_⟩ ⟨?_, ?_⟩ ?_ (((wz_Fr _ _ _).trans e2).trans f2)⟩
      · rw [c1, pu_some]
        simp only [pu_let, setV_at]
        rw [d1, pu_some]
        simp only [pu_let, setV_at, setV_up, w0]
      · have e172 : R1.1 0 172 - nI 1 = nI (m - 1) := by
          rw [z2]
          obtain ⟨q, rfl⟩ : ∃ q, m = q + 1 := ⟨m - 1, by omega⟩
          exact nI_pred q
        rw [show (172 : Int32) = nI 172 from rfl, pu_inb (by decide) (by decide), pu_bnd, pu_bnd, pu_let, pu_wr (by decide), pu_rd (by decide), e172, pu_let, show (8 : Int32) = nI 8 from rfl, pk_mul]
        show f_X7_removeHouse_51 (nI p) fuel (nI (8 * p)) (wz R1 172 (nI (m - 1))) = _
        rw [e1, f1, e3, if_neg (by omega), wz0, if_pos rfl]
      · rw [w0, hhw]
      · rw [hhw]; omega
      · rw [wo 22 1 (by decide) (by omega), hlw, ga.2.2.1, hL]
      · rw [hlw]; exact h12
      · rw [wo 22 2 (by decide) (by omega), hqw]; exact ga.2.2.2.2.1
      · rw [hqw]; exact ga.2.2.2.2.2.1
      · rw [hqw]; exact ga.2.2.2.2.2.2.1
      · rw [wo 22 3 (by decide) (by omega), hrw]; exact ga.2.2.2.2.2.2.2.1
      · rw [hrw]; exact ga.2.2.2.2.2.2.2.2.1
      · rw [wo 22 4 (by decide) (by omega)]; exact ga.2.2.2.2.2.2.2.2.2
      · intro j hj
        rw [hhw] at hj
        rw [wh 0 j (by decide) hj, wh 1 j (by decide) hj, wh 2 j (by decide) hj, wh 3 j (by decide) hj, wh 4 j (by decide) hj, wh 5 j (by decide) hj]
        exact gh _ (by rw [hm]; exact hlt j hj)
      · intro k hk
        rw [hlw] at hk
        obtain ⟨a, b, o, q1, q2, q3, q4, q5, q6, q7, q8⟩ := gl k (by rw [hL]; exact hk)
        rw [hm] at q1 q2
        have n1 : a ≠ p := fun z => (i2 k hk).1 (by rw [q6, z])
        have n2 : b ≠ p := fun z => (i2 k hk).2 (by rw [q7, z])
        refine ⟨if a < p then a else a - 1, if b < p then b else b - 1, o, ?_, ?_, ?_, q4, q5, ?_, ?_, ?_⟩
        · rw [hhw]; split <;> omega
        · rw [hhw]; split <;> omega
        · split <;> split <;> omega
        · rw [dk, if_neg (by omega), if_neg (by omega), if_pos (by omega), q6, ren_nI (by omega) (by omega) n1]
        · rw [dk, if_neg (by omega), if_neg (by omega), if_pos (by omega), q7, ren_nI (by omega) (by omega) n2]
        · rw [wo 12 k (by decide) (by omega), q8]
      · intro b hb
        rw [wo 13 b (by decide) (by omega), wo 14 b (by decide) (by omega), wo 15 b (by decide) (by omega), wo 16 b (by decide) (by omega)]
        exact gb b hb
      · exact ⟨by rw [wo 17 0 (by decide) (by omega)]; exact gs.1, fun k hk => by rw [wo 17 k (by decide) (by omega)]; exact gs.2 k hk⟩
      · exact ⟨by rw [wo 19 0 (by decide) (by omega)]; exact gt.1, fun k hk => by rw [wo 20 k (by decide) (by omega)]; exact gt.2 k hk⟩
      · intro k hk
        rw [hqw] at hk
        rw [wo 21 k (by decide) (by omega)]
        exact gq k hk
      · intro j hj
        rw [hhw] at hj
        rw [wh 4 j (by decide) hj]
        have := gn.1 _ (by rw [hm]; exact hlt j hj)
        omega
      · rw [hrw]
        have := gn.2
        omega
      · intro k j hr
        show R'.1 0 (zi k j) = w k j
        have hin : inR k j := by
          have q2 := ga.2.2.2.2.2.2.1
          unfold relv at hr
          rw [hhw, hlw, hqw] at hr
          rcases hr with e | e | e | e | e | e | e | e | e
          · exact Or.inl ⟨e.1, by omega⟩
          · exact Or.inr (Or.inl ⟨e.1, e.2.1, by omega⟩)
          · exact Or.inr (Or.inr (Or.inl e))
          · exact Or.inr (Or.inr (Or.inr (Or.inl e)))
          · exact Or.inr (Or.inr (Or.inr (Or.inr (Or.inl e))))
          · exact Or.inr (Or.inr (Or.inr (Or.inr (Or.inr (Or.inl e)))))
          · exact Or.inr (Or.inr (Or.inr (Or.inr (Or.inr (Or.inr (Or.inl e))))))
          · exact Or.inr (Or.inr (Or.inr (Or.inr (Or.inr (Or.inr (Or.inr (Or.inl ⟨e.1, by omega⟩)))))))
          · exact Or.inr (Or.inr (Or.inr (Or.inr (Or.inr (Or.inr (Or.inr (Or.inr e)))))))
        by_cases k8 : k < 8
        · have hj : j < m - 1 := by
            unfold relv at hr
            rw [hhw] at hr
            rcases hr with e | e | e | e | e | e | e | e | e <;> omega
          have ez : ∀ j', zi k j' = 8 * j' + k := fun j' => by unfold zi; rw [if_pos k8]
          rw [wh k j k8 hj, ez, f4 _ (by omega), e3]
          by_cases q : p ≤ j
          · rw [if_pos (by omega), if_pos q, wz0, if_neg (by omega)]
            exact rz_h hv' k8 (by omega) (by omega)
          · rw [if_neg (by omega), if_neg q, wz0, if_neg (by omega)]
            exact rz_h hv' k8 (by omega) (by omega)
        · by_cases kl : 10 ≤ k ∧ k < 13
          · have hj : j < L := by
              unfold relv at hr
              rw [hlw] at hr
              rcases hr with e | e | e | e | e | e | e | e | e <;> omega
            have q := f3 j hj
            have qQ : ∀ k', k' < 3 → Q.1 0 (80 + 3 * j + k') = S1.1 0 (10 + k') j := fun k' hk' => by
              rw [e3, if_neg (by omega), wz0, if_neg (by omega)]
              exact rz_l hv' (by omega) (by omega) (by omega)
            have q0 := qQ 0 (by decide)
            have q1 := qQ 1 (by decide)
            have q2 := qQ 2 (by decide)
            unfold LC at q
            rw [Nat.add_zero] at q0
            rw [q0, q1, q2, Prod.mk.injEq, Prod.mk.injEq] at q
            rw [zi_l kl, dk, if_neg (by omega), if_neg (by omega)]
            have : k = 10 ∨ k = 11 ∨ k = 12 := by omega
            rcases this with e | e | e <;> subst e
            · rw [if_pos (by omega)]; exact q.1
            · rw [if_pos (by omega)]; exact q.2.1
            · rw [if_neg (by omega)]; exact q.2.2
          · rw [f4 _ (zi_nl hin kl), e3, if_neg (fun z => by have := zi_80 (j := j) k8; omega), wz0]
            by_cases q : k = 22 ∧ j = 0
            · rw [q.1, q.2, if_pos (show zi 22 0 = 172 from rfl), w0]
            · have hne : zi k j ≠ 172 := fun z => q (zi_inj hin (k' := 22) (j' := 0) (by unfold inR; omega) z)
              have k12 : 12 ≤ k := by
                unfold inR at hin
                rcases hin with e | e | e | e | e | e | e | e | e <;> omega
              rw [if_neg hne, wo k j k12 q]
              refine hv' k j ?_
              unfold relv at hr ⊢
              rw [hlw, hqw] at hr
              rw [hL]
              rcases hr with e | e
              · exact absurd e.1 k8
              · exact Or.inr e
    · have hne : ¬ A + B ≤ 0 := fun z => by
        rcases i3 with i3 | i3
        · exact A3.mp (by omega) j i2 i3
        · exact B3.mp (by omega) j i2 i3
      rw [i1, pu_some, if_neg (show ¬ (1 : Int32) = nI 0 by decide), if_neg (fun z => hne ((nI_leI (by omega) (by omega)).mp z))]
      exact hbad _
