/-! the text: read to its end -/
theorem rel_txt {n n' : Nat} {S : PS} {R R' : RS} (h : Rel n S R) (hn : n ≤ n') {w : VS} (hx : Fx (S.1 12) w) (hy : Fy R R') : Rel n' (setV S 12 w) R' := by
  obtain ⟨h0, ⟨L, l1, l2, l3, l4⟩, ⟨m, m1, m2, m3, m4, m5, m6⟩, ⟨k0, k1, i1, i2, i3, i4, i5, i6, i7⟩⟩ := rel_mono h hn
  have sv : ∀ i, i ≠ 12 → (setV S 12 w).1 i = S.1 i := fun i hi => setV_ne _ _ hi
  refine ⟨by rw [sv 0 (by decide), hy.2.1 0 (by decide) (by decide)]; exact h0, ⟨L, l1, ?_, ?_, fun i hi => ?_⟩, ⟨m, m1, ?_, ?_, m4, m5, ?_⟩, ⟨k0, k1, i1, i2, ?_, ?_, ?_, ?_, ?_⟩⟩
  · rw [setV_at, hx 2 0 (by decide) (by decide)]; exact l2
  · rw [hy.2.2 2 (by decide)]; exact l3
  · rw [setV_at, hx 0 i (by decide) (by omega), hy.2.1 4 (by decide) (by decide)]; exact l4 i hi
  · rw [setV_at, hx 2 4 (by decide) (by decide)]; exact m2
  · rw [hy.2.2 0 (by decide)]; exact m3
  · intro i hi
    rw [setV_2, sv _ (by have := m4 i (by omega); omega), hy.2.1 2 (by decide) (by decide)]
    exact m6 i hi
  · rw [setV_at, hx 3 0 (by decide) (by decide)]; exact i3
  · rw [setV_at, hx 3 1 (by decide) (by decide)]; exact i4
  · rw [hy.2.2 1 (by decide)]; exact i5
  · rw [sv 2 (by decide), hy.2.1 3 (by decide) (by decide)]; exact i6
  · rw [sv 3 (by decide), hy.2.1 3 (by decide) (by decide)]; exact i7
def TxEnd (v : VS) (R : RS) (a : Option (Int32 × VS)) (b : Option (Int32 × RS)) : Prop :=
  (∃ r v' R', r ≤ 60 ∧ a = some (nI r, v') ∧ b = some (nI r, R') ∧ Fx v v' ∧ Fy R R') ∨
  ∃ s T val v' R', a = some (-1000001, v') ∧ b = some (-1000001, R') ∧ Fx v v' ∧ Fy R R' ∧ 1 ≤ T ∧ s + T ≤ 48 ∧ val ≤ 500 ∧ v' 2 1 = nI (s + T) ∧ R'.1 7 3 = nI s ∧ R'.1 7 4 = nI val ∧ R'.1 7 6 = nI T ∧ (∀ j, j < s → ∃ x, x ≤ 500 ∧ v' 1 j = nI x ∧ R'.1 6 j = nI x) ∧ ∀ j, s ≤ j → j < s + T → v' 1 j = nI val
theorem TxEnd.pre {v0 v : VS} {R0 R : RS} {a : Option (Int32 × VS)} {b : Option (Int32 × RS)} (hx : Fx v0 v) (hy : Fy R0 R) (h : TxEnd v R a b) : TxEnd v0 R0 a b := by
  rcases h with ⟨r, v', R', h0, h1, h2, h3, h4⟩ | ⟨s, T, val, v', R', h1, h2, h3, h4, h5⟩
  · exact Or.inl ⟨r, v', R', h0, h1, h2, hx.trans h3, hy.trans h4⟩
  · exact Or.inr ⟨s, T, val, v', R', h1, h2, hx.trans h3, hy.trans h4, h5⟩
theorem tx_whole {s T val st : Nat} {v : VS} {R : RS} {L : Nat} (hL : L ≤ 60) (n n' : Nat) (hv0 : v 2 0 = nI L) (hR0 : R.1 7 2 = nI L) (hw : f_X3_isWhole v (nI st) = some 1) (hi : f_X7_isItem R = some 1) (he : f_X3_endItem v (nI st) = f_X3_endItem_19 v (nI T) (nI s) (nI 48)) (hT1 : 1 ≤ T) (hT : s + T ≤ 48) (h21 : v 2 1 = nI s) (h22 : v 2 2 = nI val) (hv : val ≤ 500) (h3 : R.1 7 3 = nI s) (h4 : R.1 7 4 = nI val) (h6 : R.1 7 6 = nI T) (hl : ∀ j, j < s → ∃ x, x ≤ 500 ∧ v 1 j = nI x ∧ R.1 6 j = nI x) : TxEnd v R (f_X3_firstFault_9 (n + 1) (nI st) (nI L) v) (f_X7_faultNow_11 (n' + 1) (nI L) R) := by
  obtain ⟨w, w1, w2, w3, w4⟩ := sp_end h21 h22 hT
  refine Or.inr ⟨s, T, val, w, R, ?_, ?_, fun k j k1 k2 => w4 k j k1 (by omega), Fy.rfl' R, hT1, hT, hv, w2, h3, h4, h6, fun j hj => ?_, fun j h5 h7 => ?_⟩
  · show (if v 2 0 ≤ nI L then _ else _) = _
    rw [hv0, if_pos ((nI_leI (by omega) (by omega)).mpr (Nat.le_refl _)), hw, pu_some, ite10, he, w1, pu_some]
  · show (if R.1 7 2 ≤ nI L then f_X7_faultNow_38 R (nI L) else _) = _
    rw [hR0, if_pos ((nI_leI (by omega) (by omega)).mpr (Nat.le_refl _))]
    unfold f_X7_faultNow_38
    rw [hR0, if_neg (nI_nlt (Nat.le_refl _) (by omega)), hi, pu_some, ite10]
  · rw [w3, if_neg (by omega)]
    exact hl j hj
  · rw [w3, if_pos ⟨h5, h7⟩]
theorem tx_part {st : Nat} {v : VS} {R : RS} {L : Nat} (hL : L ≤ 60) (n n' : Nat) (hv0 : v 2 0 = nI L) (hR0 : R.1 7 2 = nI L) (hw : f_X3_isWhole v (nI st) = some 0) (hi : f_X7_isItem R = some 0) : TxEnd v R (f_X3_firstFault_9 (n + 1) (nI st) (nI L) v) (f_X7_faultNow_11 (n' + 1) (nI L) R) := by
  refine Or.inl ⟨L, v, R, hL, ?_, ?_, Fx.rfl' v, Fy.rfl' R⟩
  · show (if v 2 0 ≤ nI L then _ else _) = _
    rw [hv0, if_pos ((nI_leI (by omega) (by omega)).mpr (Nat.le_refl _)), hw, pu_some, ite00]
  · show (if R.1 7 2 ≤ nI L then f_X7_faultNow_38 R (nI L) else _) = _
    rw [hR0, if_pos ((nI_leI (by omega) (by omega)).mpr (Nat.le_refl _))]
    unfold f_X7_faultNow_38
    rw [hR0, if_neg (nI_nlt (Nat.le_refl _) (by omega)), hi, pu_some, ite00]
theorem tx_run {L : Nat} (hL : L ≤ 60) : ∀ (d i n n' st s val t : Nat) (v : VS) (R : RS), i + d = L → d < n → d < n' → Zr st s val t i v R → v 2 0 = nI L → R.1 7 2 = nI L → (∀ i, i < L → v 0 i = R.1 4 i ∧ ∃ c, 33 ≤ c ∧ c ≤ 126 ∧ R.1 4 i = nI c) → TxEnd v R (f_X3_firstFault_9 n (nI st) (nI i) v) (f_X7_faultNow_11 n' (nI i) R) := by
  intro d
  induction d with
  | zero =>
    intro i n n' st s val t v R hi hn hn' hz hv0 hR0 hco
    obtain ⟨n, rfl⟩ : ∃ m, n = m + 1 := ⟨n - 1, by omega⟩
    obtain ⟨n', rfl⟩ : ∃ m, n' = m + 1 := ⟨n' - 1, by omega⟩
    obtain rfl : i = L := by omega
    obtain ⟨h0, h1, h2, h3, h | h | h | h⟩ := hz
    · obtain ⟨rfl, q1, q2, q3, q4, q5⟩ := h
      exact tx_part hL n n' hv0 hR0 rfl (by rw [isItem_of q3 (by decide), if_pos rfl])
    · obtain ⟨rfl, q1, q2, q3, q4, ⟨d, d1, d2, d3⟩, q6, q7⟩ := h
      exact tx_whole hL n n' hv0 hR0 rfl (by rw [isItem_of d3 (by omega), if_neg (by omega), if_pos (by rw [q7]; decide)]) (T := 1) (s := s) (by
        unfold f_X3_endItem
        rw [if_neg (by decide), h1]
        rfl) (Nat.le_refl _) (by omega) h1 q3 q2 h2 q4 q6 h3
    · obtain ⟨rfl, q1, q2, q3, q4, ⟨d, d1, d2, d3⟩, q6, q7⟩ := h
      exact tx_part hL n n' hv0 hR0 rfl (by rw [isItem_of d3 (by omega), if_neg (by omega), if_neg (by rw [q7]; decide), if_pos (by rw [q6]; decide)])
    · obtain ⟨rfl, q1, q2, q3, ⟨d, d1, d2, d3⟩, q5, q6, q7, q8, q9, ⟨k, k1, k2, k3⟩⟩ := h
      have hk0 : ¬ R.1 7 7 < 0 := by rw [k3]; exact nI_pos (by omega)
      by_cases t1 : t = 1
      · exact tx_part hL n n' hv0 hR0 (by
          unfold f_X3_isWhole
          rw [if_neg (by decide), if_pos (show nI 3 = 3 from rfl), q8, if_pos (show nI t < 2 from nI_lt (b := 2) (by omega) (by decide))]) (by rw [isItem_of d3 (by omega), if_neg (by omega), if_neg hk0, q9, if_pos (show nI t ≤ 1 by rw [t1]; decide)])
      · exact tx_whole hL n n' hv0 hR0 (by
          unfold f_X3_isWhole
          rw [if_neg (by decide), if_pos (show nI 3 = 3 from rfl), q8, if_neg (show ¬ nI t < 2 from nI_nlt (b := 2) (by omega) (by omega))]) (by rw [isItem_of d3 (by omega), if_neg (by omega), if_neg hk0, q9, if_neg (show ¬ nI t ≤ 1 from fun z => by have := (nI_leI (b := 1) (by omega) (by decide)).mp z; omega)]) (T := t) (s := s) (by
          unfold f_X3_endItem
          rw [if_pos (show nI 3 = 3 from rfl), h1, q8]
          rfl) q5 q6 h1 q2 q1 h2 q3 q9 h3
  | succ d ih =>
    intro i n n' st s val t v R hi hn hn' hz hv0 hR0 hco
    obtain ⟨n, rfl⟩ : ∃ m, n = m + 1 := ⟨n - 1, by omega⟩
    obtain ⟨n', rfl⟩ : ∃ m, n' = m + 1 := ⟨n' - 1, by omega⟩
    obtain ⟨hc1, c, c1, c2, c3⟩ := hco i (by omega)
    have a1 : f_X3_firstFault_9 (n + 1) (nI st) (nI i) v = bnd2 (f_X3_next v (nI st) (nI c)) fun r_5 => if r_5.1 = (4 : Int32) then (some (nI i, r_5.2)) else (letv (nI i + (1 : Int32)) fun x_6 => f_X3_firstFault_9 n r_5.1 x_6 r_5.2) := by
      show (if v 2 0 ≤ nI i then _ else _) = _
      rw [hv0, if_neg (fun z => by have := (nI_leI (by omega) (by omega)).mp z; omega), pu_inb (by omega) (by decide), pu_bnd, pu_rd (by omega), hc1, c3]
    have b1 : f_X7_faultNow_11 (n' + 1) (nI i) R = bnd2 (f_X7_takes R (nI c)) fun r_5 => if r_5.1 = (0 : Int32) then (f_X7_faultNow_38 r_5.2 (nI i)) else (letv (nI i + (1 : Int32)) fun x_6 => f_X7_faultNow_11 n' x_6 r_5.2) := by
      show (if R.1 7 2 ≤ nI i then _ else _) = _
      rw [hR0, if_neg (fun z => by have := (nI_leI (by omega) (by omega)).mp z; omega), pu_inb (by omega) (by decide), pu_bnd, pu_rd (by omega), c3]
    rw [a1, b1]
    rcases tx_step hz (by omega) (by omega : c < 128) with ⟨v', R', e1, e2, e3, e4⟩ | ⟨st', s', val', t', v', R', e0, e1, e2, e3, e4, e5⟩
    · refine Or.inl ⟨i, v', R', by omega, ?_, ?_, e3, e4⟩
      · rw [e1, pu_some, if_pos rfl]
      · rw [e2, pu_some, if_pos rfl]
        unfold f_X7_faultNow_38
        rw [e4.2.2 2 (by decide), hR0, if_pos (nI_lt (by omega) (by omega))]
    · rw [e1, e2, pu_some, pu_some, if_neg (show ¬ nI st' = 4 from ne_n (b := 4) (by omega) (by decide) (by omega)), if_neg (show ¬ (1 : Int32) = 0 by decide), pu_let, pu_let, nI_1]
      exact TxEnd.pre e3 e4 (ih (i + 1) n n' st' s' val' t' v' R' (by omega) (by omega) (by omega) e5 (by rw [e3 2 0 (by decide) (by decide)]; exact hv0) (by rw [e4.2.2 2 (by decide)]; exact hR0) (fun j hj => by rw [e3 0 j (by decide) (by omega), e4.2.1 4 (by decide) (by decide)]; exact hco j hj))
theorem tx_all {n : Nat} {S : PS} {R : RS} (h : Rel n S R) : TxEnd (S.1 12) R (f_X3_firstFault (S.1 12)) (f_X7_faultNow R) := by
  obtain ⟨L, l1, l2, l3, l4⟩ := h.2.1
  have hy : Fy R (w7 (w7 (w7 (w7 (w7 R 3 0) 4 0) 5 0) 6 1) 7 (-1)) := ((((Fy.w7 R (by decide) _).trans (Fy.w7 _ (by decide) _)).trans (Fy.w7 _ (by decide) _)).trans (Fy.w7 _ (by decide) _)).trans (Fy.w7 _ (by decide) _)
  have hx : Fx (S.1 12) (wn (S.1 12) 2 1 0) := Fx.w2 _ (by decide) (by decide) _
  refine TxEnd.pre hx hy ?_
  have e := tx_run l1 L 0 fuel fuel 0 0 0 0 (wn (S.1 12) 2 1 0) (w7 (w7 (w7 (w7 (w7 R 3 0) 4 0) 5 0) 6 1) 7 (-1)) (by omega) (fuel_gt (by omega)) (fuel_gt (by omega)) ⟨by decide, pu_wn_s _ _ _ _, by simp only [w77]; rfl, fun j hj => by omega, Or.inl ⟨rfl, by decide, by simp only [w77]; rfl, by simp only [w77]; rfl, by simp only [w77]; rfl, by simp only [w77]; rfl⟩⟩ (by rw [hx 2 0 (by decide) (by decide)]; exact l2) (by rw [hy.2.2 2 (by decide)]; exact l3) (fun j hj => by rw [hx 0 j (by decide) (by omega), hy.2.1 4 (by decide) (by decide)]; exact l4 j hj)
  exact e
theorem op_fault : Op_fault Rel := by
  intro n S R hn h
  unfold f_X6_fault f_X7_fault
  rcases tx_all h with ⟨r, v', R', e0, e1, e2, e3, e4⟩ | ⟨s, T, val, v', R', e1, e2, e3, e4, _⟩
  · rw [e1, e2, pu_some, pu_some, pu_let]
    exact ⟨_, _, _, rfl, rfl, rel_txt h (by omega) e3 e4⟩
  · rw [e1, e2, pu_some, pu_some, pu_let]
    exact ⟨_, _, _, rfl, rfl, rel_txt h (by omega) e3 e4⟩
