/-! the text: a step on both sides -/
theorem tx_no {st i c : Nat} {v v' : VS} {R R' : RS} (h1 : f_X3_next v (nI st) (nI c) = some (4, v')) (h2 : f_X7_takes R (nI c) = some (0, R')) (h3 : Fx v v') (h4 : Fy R R') : TxStp st i v R c := Or.inl ⟨v', R', h1, h2, h3, h4⟩
theorem tx_step0 {s i c : Nat} {v : VS} {R : RS} (hs : s < 48) (h21 : v 2 1 = nI s) (h73 : R.1 7 3 = nI s) (hl : ∀ j, j < s → ∃ x, x ≤ 500 ∧ v 1 j = nI x ∧ R.1 6 j = nI x) (h4 : R.1 7 4 = nI 0) (h5 : R.1 7 5 = nI 0) (h6 : R.1 7 6 = nI 1) (h7 : R.1 7 7 = -1) (hc : c < 128) : TxStp 0 i v R c := by
  by_cases hd : 48 ≤ c ∧ c ≤ 57
  · obtain ⟨q, rfl⟩ : ∃ q, c = 48 + q := ⟨c - 48, by omega⟩
    have hq : q ≤ 9 := by omega
    refine Or.inr ⟨1, s, q, 0, wn v 2 2 (nI q), w7 (w7 R 4 (nI (10 * 0 + q))) 5 (nI (0 + 1)), by decide, ?_, ?_, Fx.w2 v (by decide) (by decide) _, (Fy.w7 R (by decide) _).trans (Fy.w7 _ (by decide) _), ?_⟩
    · rw [nx0]
      unfold f_X3_beginNumber
      rw [isd_d hq, pu_some, ite10, sub48, pu_let]
      rfl
    · rw [tkd R hq, if_neg (by rw [h7]; decide), tdig h4 h5 (by decide) (by decide) hq, if_neg (by omega)]
    · refine ⟨by omega, by rw [pu_wn_j _ _ _ _ (by decide)]; exact h21, by rw [w77, if_neg (by decide), w77, if_neg (by decide)]; exact h73, fun j hj => ?_, Or.inr (Or.inl ⟨rfl, hs, by omega, pu_wn_s _ _ _ _, ?_, ⟨1, by omega, by omega, ?_⟩, ?_, ?_⟩)⟩
      · rw [pu_wn_k _ _ _ _ (by decide), w7k _ _ _ (by decide), w7k _ _ _ (by decide)]; exact hl j hj
      · rw [w77, if_neg (by decide), w77, if_pos rfl, Nat.mul_zero, Nat.zero_add]
      · rw [w77, if_pos rfl]
      · rw [w77, if_neg (by decide), w77, if_neg (by decide)]; exact h6
      · rw [w77, if_neg (by decide), w77, if_neg (by decide)]; exact h7
  · have e1 : f_X3_next v (nI 0) (nI c) = some (4, v) := by
      rw [nx0]
      unfold f_X3_beginNumber
      rw [isd_n hc (by omega), pu_some, ite00]
    by_cases c44 : c = 44
    · subst c44
      refine tx_no e1 (R' := R) ?_ (Fx.rfl' v) (Fy.rfl' R)
      rw [tk44, isItem_of h5 (by decide), if_pos rfl, pu_some, if_pos rfl]
    · by_cases c42 : c = 42
      · subst c42
        refine tx_no e1 (R' := noR R) ?_ (Fx.rfl' v) (noR_Fy R)
        rw [tk42, if_pos (by rw [h5]; decide)]
      · exact tx_no e1 (tkn R hc c44 c42 (by omega)) (Fx.rfl' v) (Fy.rfl' R)
theorem tx_step1 {s val i c : Nat} {v : VS} {R : RS} (hi : i < 60) (hs : s < 48) (h21 : v 2 1 = nI s) (h73 : R.1 7 3 = nI s) (hl : ∀ j, j < s → ∃ x, x ≤ 500 ∧ v 1 j = nI x ∧ R.1 6 j = nI x) (hv : val ≤ 500) (h22 : v 2 2 = nI val) (h4 : R.1 7 4 = nI val) (h5 : ∃ d, 1 ≤ d ∧ d ≤ i ∧ R.1 7 5 = nI d) (h6 : R.1 7 6 = nI 1) (h7 : R.1 7 7 = -1) (hc : c < 128) : TxStp 1 i v R c := by
  obtain ⟨d, d1, d2, d3⟩ := h5
  by_cases c44 : c = 44
  · subst c44
    have hit : f_X7_isItem R = some 1 := by rw [isItem_of d3 (by omega), if_neg (by omega), if_pos (by rw [h7]; decide)]
    have e1 : f_X3_next v (nI 1) (nI 44) = if (48 : Int32) ≤ v 2 1 + 1 then some (4, v) else bnd2 (f_X3_endItem v 1) fun r => some (r.1, r.2) := by
      rw [nx1]
      unfold f_X3_inNumber
      rw [if_pos (show nI 44 = 44 from rfl)]
    have e2 : f_X7_takes R (nI 44) = if (48 : Int32) ≤ R.1 7 3 + R.1 7 6 then some (0, R) else bnd2 (f_X7_endItem R) fun r => some (1, r) := by rw [tk44, hit, pu_some, ite10]
    rw [h21, nI_1] at e1
    rw [h73, h6, nI_add] at e2
    by_cases cs : 48 ≤ s + 1
    · rw [if_pos (show (48 : Int32) ≤ nI (s + 1) from (nI_leI (a := 48) (by decide) (by omega)).mpr cs)] at e1 e2
      exact tx_no e1 e2 (Fx.rfl' v) (Fy.rfl' R)
    · rw [if_neg (show ¬ (48 : Int32) ≤ nI (s + 1) from fun z => cs ((nI_leI (a := 48) (by decide) (by omega)).mp z))] at e1 e2
      obtain ⟨w, R', a1, a2, a3, a4, a5, a6, a7, a8⟩ := end_both (i := i + 1) h21 h22 hv (T := 1) (by omega) h73 h4 h6 hl
      refine Or.inr ⟨0, s + 1, 0, 0, w, R', by decide, ?_, ?_, a3, a4, a8 (by omega)⟩
      · rw [e1, bnd2_eta]
        unfold f_X3_endItem
        rw [if_neg (by decide), h21]
        exact a1
      · rw [e2, a2, pu_some]
  · by_cases c42 : c = 42
    · subst c42
      have e1 : f_X3_next v (nI 1) (nI 42) = if (48 : Int32) < v 2 1 + 2 then some (4, v) else some (2, v) := by
        rw [nx1]
        unfold f_X3_inNumber
        rw [if_neg (show ¬ nI 42 = 44 by decide), if_pos (show nI 42 = 42 from rfl)]
      have e2 : f_X7_takes R (nI 42) = if (48 : Int32) < R.1 7 3 + 2 then some (0, noR R) else some (1, w7 (w7 R 7 0) 6 0) := by
        rw [tk42, if_neg (by rw [d3]; exact nI_nle (by omega) (by omega)), if_neg (by rw [h7]; decide)]
      rw [h21, show nI s + 2 = nI (s + 2) from nI_add s 2] at e1
      rw [h73, show nI s + 2 = nI (s + 2) from nI_add s 2] at e2
      by_cases cs : 48 < s + 2
      · rw [if_pos (show (48 : Int32) < nI (s + 2) from nI_lt (a := 48) cs (by omega))] at e1 e2
        exact tx_no e1 e2 (Fx.rfl' v) (noR_Fy R)
      · rw [if_neg (show ¬ (48 : Int32) < nI (s + 2) from nI_nlt (a := 48) (by omega) (by decide))] at e1 e2
        refine Or.inr ⟨2, s, val, 0, v, w7 (w7 R 7 0) 6 0, by decide, e1, e2, Fx.rfl' v, (Fy.w7 R (by decide) _).trans (Fy.w7 _ (by decide) _), ⟨by omega, h21, by rw [w77, if_neg (by decide), w77, if_neg (by decide)]; exact h73, fun j hj => ?_, Or.inr (Or.inr (Or.inl ⟨rfl, by omega, hv, h22, ?_, ⟨d, d1, by omega, ?_⟩, ?_, ?_⟩))⟩⟩
        · rw [w7k _ _ _ (by decide), w7k _ _ _ (by decide)]; exact hl j hj
        · rw [w77, if_neg (by decide), w77, if_neg (by decide)]; exact h4
        · rw [w77, if_neg (by decide), w77, if_neg (by decide)]; exact d3
        · rw [w77, if_pos rfl]; rfl
        · rw [w77, if_neg (by decide), w77, if_pos rfl]; rfl
    · have e1 : f_X3_next v (nI 1) (nI c) = (bnd2 (f_X3_isDigit (nI c)) fun r_2 => if r_2 = (0 : Int32) then (some ((4 : Int32), v)) else (if (v 2 2) = (0 : Int32) then (some ((4 : Int32), v)) else (if ((((v 2 2) * (10 : Int32)) + nI c) - (48 : Int32)) ≤ (500 : Int32) then (letv (wn v 2 2 ((((v 2 2) * (10 : Int32)) + nI c) - (48 : Int32))) fun S_3 => some ((1 : Int32), S_3)) else (some ((4 : Int32), v))))) := by
        rw [nx1]
        unfold f_X3_inNumber
        rw [if_neg (show ¬ nI c = 44 from ne_n (b := 44) (by omega) (by decide) c44), if_neg (show ¬ nI c = 42 from ne_n (b := 42) (by omega) (by decide) c42)]
      by_cases hd : 48 ≤ c ∧ c ≤ 57
      · obtain ⟨q, rfl⟩ : ∃ q, c = 48 + q := ⟨c - 48, by omega⟩
        have hq : q ≤ 9 := by omega
        have ev : v 2 2 * 10 + nI (48 + q) - 48 = nI (10 * val + q) := by
          rw [h22, show (10 : Int32) = nI 10 from rfl, show (48 : Int32) = nI 48 from rfl, pk_mul, nI_add, pk_sub (by omega), show val * 10 + (48 + q) - 48 = 10 * val + q by omega]
        rw [isd_d hq, pu_some, ite10, ev, h22] at e1
        have e2 := tkd R hq
        rw [if_neg (by rw [h7]; decide), tdig h4 d3 hv (by omega) hq] at e2
        by_cases cv : val = 0
        · rw [if_pos (show nI val = 0 by rw [cv]; rfl)] at e1
          rw [if_pos (Or.inl ⟨by omega, cv⟩)] at e2
          exact tx_no e1 e2 (Fx.rfl' v) (Fy.rfl' R)
        · rw [if_neg (show ¬ nI val = 0 from ne_n (b := 0) (by omega) (by decide) cv)] at e1
          by_cases cq : 500 < 10 * val + q
          · rw [if_neg (show ¬ nI (10 * val + q) ≤ 500 from fun z => by have := (nI_leI (b := 500) (by omega) (by decide)).mp z; omega)] at e1
            rw [if_pos (Or.inr cq)] at e2
            exact tx_no e1 e2 (Fx.rfl' v) (Fy.rfl' R)
          · rw [if_pos (show nI (10 * val + q) ≤ 500 from (nI_leI (b := 500) (by omega) (by decide)).mpr (by omega)), pu_let] at e1
            rw [if_neg (by omega)] at e2
            refine Or.inr ⟨1, s, 10 * val + q, 0, _, _, by decide, e1, e2, Fx.w2 v (by decide) (by decide) _, (Fy.w7 R (by decide) _).trans (Fy.w7 _ (by decide) _), ⟨by omega, by rw [pu_wn_j _ _ _ _ (by decide)]; exact h21, by rw [w77, if_neg (by decide), w77, if_neg (by decide)]; exact h73, fun j hj => ?_, Or.inr (Or.inl ⟨rfl, hs, by omega, pu_wn_s _ _ _ _, ?_, ⟨d + 1, by omega, by omega, ?_⟩, ?_, ?_⟩)⟩⟩
            · rw [pu_wn_k _ _ _ _ (by decide), w7k _ _ _ (by decide), w7k _ _ _ (by decide)]; exact hl j hj
            · rw [w77, if_neg (by decide), w77, if_pos rfl]
            · rw [w77, if_pos rfl]
            · rw [w77, if_neg (by decide), w77, if_neg (by decide)]; exact h6
            · rw [w77, if_neg (by decide), w77, if_neg (by decide)]; exact h7
      · rw [isd_n hc (by omega), pu_some, ite00] at e1
        exact tx_no e1 (tkn R hc c44 c42 (by omega)) (Fx.rfl' v) (Fy.rfl' R)
theorem tx_step2 {s val i c : Nat} {v : VS} {R : RS} (hi : i < 60) (hs : s + 2 ≤ 48) (h21 : v 2 1 = nI s) (h73 : R.1 7 3 = nI s) (hl : ∀ j, j < s → ∃ x, x ≤ 500 ∧ v 1 j = nI x ∧ R.1 6 j = nI x) (hv : val ≤ 500) (h22 : v 2 2 = nI val) (h4 : R.1 7 4 = nI val) (h5 : ∃ d, 1 ≤ d ∧ d ≤ i ∧ R.1 7 5 = nI d) (h6 : R.1 7 6 = nI 0) (h7 : R.1 7 7 = nI 0) (hc : c < 128) : TxStp 2 i v R c := by
  obtain ⟨d, d1, d2, d3⟩ := h5
  have e1 : f_X3_next v (nI 2) (nI c) = (bnd2 (f_X3_isDigit (nI c)) fun r_1 => if r_1 = (0 : Int32) then (some ((4 : Int32), v)) else (if nI c = (48 : Int32) then (some ((4 : Int32), v)) else (letv (wn v 2 3 (nI c - (48 : Int32))) fun S_2 => if (S_2 2 3) = (1 : Int32) then (f_X3_beginTimes_44 S_2 (10 : Int32) (S_2 2 1)) else (f_X3_beginTimes_44 S_2 (S_2 2 3) (S_2 2 1))))) := by
    rw [nx2]
    rfl
  by_cases hd : 48 ≤ c ∧ c ≤ 57
  · obtain ⟨q, rfl⟩ : ∃ q, c = 48 + q := ⟨c - 48, by omega⟩
    have hq : q ≤ 9 := by omega
    have e2 := tkd R hq
    rw [if_pos (by rw [h7]; decide), tcnt (n := q) h73 h6 h7 (by omega) (by decide) (by decide) hq rfl] at e2
    rw [isd_d hq, pu_some, ite10] at e1
    by_cases q0 : q = 0
    · subst q0
      rw [if_pos (show nI (48 + 0) = 48 from rfl)] at e1
      rw [if_pos (Or.inl rfl)] at e2
      exact tx_no e1 e2 (Fx.rfl' v) (Fy.rfl' R)
    · rw [if_neg (show ¬ nI (48 + q) = 48 from ne_n (b := 48) (by omega) (by decide) (by omega)), sub48, pu_let, pu_wn_s, pu_wn_j _ _ _ _ (by decide), h21] at e1
      have e3 : f_X3_next v (nI 2) (nI (48 + q)) = if 48 < s + (if q = 1 then 10 else q) then some (4, wn v 2 3 (nI q)) else some (3, wn v 2 3 (nI q)) := by
        rw [e1]
        unfold f_X3_beginTimes_44
        by_cases q1 : q = 1
        · rw [if_pos (show nI q = 1 by rw [q1]; rfl), if_pos q1, show nI s + 10 = nI (s + 10) from nI_add s 10]
          by_cases cs : 48 < s + 10
          · rw [if_pos cs, if_pos (show 48 < nI (s + 10) from nI_lt (a := 48) cs (by omega))]
          · rw [if_neg cs, if_neg (show ¬ 48 < nI (s + 10) from nI_nlt (a := 48) (by omega) (by decide))]
        · rw [if_neg (show ¬ nI q = 1 from ne_n (b := 1) (by omega) (by decide) q1), if_neg q1, nI_add]
          by_cases cs : 48 < s + q
          · rw [if_pos cs, if_pos (show 48 < nI (s + q) from nI_lt (a := 48) cs (by omega))]
          · rw [if_neg cs, if_neg (show ¬ 48 < nI (s + q) from nI_nlt (a := 48) (by omega) (by decide))]
      by_cases cs : 48 < s + (if q = 1 then 10 else q)
      · rw [if_pos cs] at e3
        rw [if_pos (by split at cs <;> omega)] at e2
        exact tx_no e3 e2 (Fx.w2 v (by decide) (by decide) _) (Fy.rfl' R)
      · rw [if_neg cs] at e3
        rw [if_neg (by split at cs <;> omega)] at e2
        have hsq : s + q ≤ 48 ∧ (q = 1 → s + 10 ≤ 48) := by split at cs <;> omega
        refine Or.inr ⟨3, s, val, q, _, _, by decide, e3, e2, Fx.w2 v (by decide) (by decide) _, (Fy.w7 R (by decide) _).trans (Fy.w7 _ (by decide) _), ⟨by omega, by rw [pu_wn_j _ _ _ _ (by decide)]; exact h21, by rw [w77, if_neg (by decide), w77, if_neg (by decide)]; exact h73, fun j hj => ?_, Or.inr (Or.inr (Or.inr ⟨rfl, hv, by rw [pu_wn_j _ _ _ _ (by decide)]; exact h22, ?_, ⟨d, d1, by omega, ?_⟩, by omega, hsq.1, hsq.2, pu_wn_s _ _ _ _, ?_, ⟨1, by omega, by omega, ?_⟩⟩))⟩⟩
        · rw [pu_wn_k _ _ _ _ (by decide), w7k _ _ _ (by decide), w7k _ _ _ (by decide)]; exact hl j hj
        · rw [w77, if_neg (by decide), w77, if_neg (by decide)]; exact h4
        · rw [w77, if_neg (by decide), w77, if_neg (by decide)]; exact d3
        · rw [w77, if_neg (by decide), w77, if_pos rfl]
        · rw [w77, if_pos rfl]
  · rw [isd_n hc (by omega), pu_some, ite00] at e1
    by_cases c44 : c = 44
    · subst c44
      refine tx_no e1 (R' := R) ?_ (Fx.rfl' v) (Fy.rfl' R)
      rw [tk44, isItem_of d3 (by omega), if_neg (by omega), if_neg (by rw [h7]; decide), if_pos (by rw [h6]; decide), pu_some, if_pos rfl]
    · by_cases c42 : c = 42
      · subst c42
        refine tx_no e1 (R' := noR R) ?_ (Fx.rfl' v) (noR_Fy R)
        rw [tk42, if_neg (by rw [d3]; exact nI_nle (by omega) (by omega)), if_pos (by rw [h7]; decide)]
      · exact tx_no e1 (tkn R hc c44 c42 (by omega)) (Fx.rfl' v) (Fy.rfl' R)
theorem tx_step3 {s val t i c : Nat} {v : VS} {R : RS} (hi : i < 60) (h21 : v 2 1 = nI s) (h73 : R.1 7 3 = nI s) (hl : ∀ j, j < s → ∃ x, x ≤ 500 ∧ v 1 j = nI x ∧ R.1 6 j = nI x) (hv : val ≤ 500) (h22 : v 2 2 = nI val) (h4 : R.1 7 4 = nI val) (h5 : ∃ d, 1 ≤ d ∧ d ≤ i ∧ R.1 7 5 = nI d) (ht : 1 ≤ t) (hst : s + t ≤ 48) (h1t : t = 1 → s + 10 ≤ 48) (h23 : v 2 3 = nI t) (h6 : R.1 7 6 = nI t) (h7 : ∃ c, 1 ≤ c ∧ c ≤ i ∧ R.1 7 7 = nI c) (hc : c < 128) : TxStp 3 i v R c := by
  obtain ⟨d, d1, d2, d3⟩ := h5
  obtain ⟨k, k1, k2, k3⟩ := h7
  have hk0 : ¬ R.1 7 7 < 0 := by rw [k3]; exact nI_pos (by omega)
  have hk1 : 0 ≤ R.1 7 7 := by rw [k3]; exact nI_pos' (by omega)
  by_cases c44 : c = 44
  · subst c44
    have e1 : f_X3_next v (nI 3) (nI 44) = if (v 2 3) < (2 : Int32) then some (4, v) else if (48 : Int32) ≤ v 2 1 + v 2 3 then some (4, v) else bnd2 (f_X3_endItem v 3) fun r => some (r.1, r.2) := by
      rw [nx3]
      unfold f_X3_inTimes
      rw [if_pos (show nI 44 = 44 from rfl)]
    have e2 := tk44 R
    rw [isItem_of d3 (by omega), if_neg (by omega), if_neg hk0, h6, h73, nI_add] at e2
    rw [h23, h21, nI_add] at e1
    by_cases t1 : t = 1
    · rw [if_pos (show nI t < 2 from nI_lt (b := 2) (by omega) (by decide))] at e1
      rw [if_pos (show nI t ≤ 1 by rw [t1]; decide), pu_some, ite00] at e2
      exact tx_no e1 e2 (Fx.rfl' v) (Fy.rfl' R)
    · rw [if_neg (show ¬ nI t < 2 from nI_nlt (b := 2) (by omega) (by omega))] at e1
      rw [if_neg (show ¬ nI t ≤ 1 from fun z => by have := (nI_leI (b := 1) (by omega) (by decide)).mp z; omega), pu_some, ite10] at e2
      by_cases cs : 48 ≤ s + t
      · rw [if_pos (show (48 : Int32) ≤ nI (s + t) from (nI_leI (a := 48) (by decide) (by omega)).mpr cs)] at e1 e2
        exact tx_no e1 e2 (Fx.rfl' v) (Fy.rfl' R)
      · rw [if_neg (show ¬ (48 : Int32) ≤ nI (s + t) from fun z => cs ((nI_leI (a := 48) (by decide) (by omega)).mp z))] at e1 e2
        obtain ⟨w, R', a1, a2, a3, a4, a5, a6, a7, a8⟩ := end_both (i := i + 1) h21 h22 hv (T := t) (by omega) h73 h4 h6 hl
        refine Or.inr ⟨0, s + t, 0, 0, w, R', by decide, ?_, ?_, a3, a4, a8 (by omega)⟩
        · rw [e1, bnd2_eta]
          unfold f_X3_endItem
          rw [if_pos rfl, h21, h23]
          exact a1
        · rw [e2, a2, pu_some]
  · have e1 : f_X3_next v (nI 3) (nI c) = (bnd2 (f_X3_isDigit (nI c)) fun r_2 => if r_2 = (0 : Int32) then (some ((4 : Int32), v)) else (if ((((v 2 1) + ((v 2 3) * (10 : Int32))) + nI c) - (48 : Int32)) ≤ (48 : Int32) then (letv (wn v 2 3 ((((v 2 3) * (10 : Int32)) + nI c) - (48 : Int32))) fun S_3 => some ((3 : Int32), S_3)) else (some ((4 : Int32), v)))) := by
      rw [nx3]
      unfold f_X3_inTimes
      rw [if_neg (show ¬ nI c = 44 from ne_n (b := 44) (by omega) (by decide) c44)]
    by_cases hd : 48 ≤ c ∧ c ≤ 57
    · obtain ⟨q, rfl⟩ : ∃ q, c = 48 + q := ⟨c - 48, by omega⟩
      have hq : q ≤ 9 := by omega
      have e2 := tkd R hq
      rw [if_pos hk1, tcnt (n := 10 * t + q) h73 h6 k3 (by omega) (by omega) (by omega) hq (by rw [if_neg (by omega)])] at e2
      have ev1 : v 2 1 + v 2 3 * 10 + nI (48 + q) - 48 = nI (s + (10 * t + q)) := by
        rw [h21, h23, show (10 : Int32) = nI 10 from rfl, show (48 : Int32) = nI 48 from rfl, pk_mul, nI_add, nI_add, pk_sub (by omega), show s + t * 10 + (48 + q) - 48 = s + (10 * t + q) by omega]
      have ev2 : v 2 3 * 10 + nI (48 + q) - 48 = nI (10 * t + q) := by
        rw [h23, show (10 : Int32) = nI 10 from rfl, show (48 : Int32) = nI 48 from rfl, pk_mul, nI_add, pk_sub (by omega), show t * 10 + (48 + q) - 48 = 10 * t + q by omega]
      rw [isd_d hq, pu_some, ite10, ev1, ev2] at e1
      by_cases cs : s + (10 * t + q) ≤ 48
      · rw [if_pos (show nI (s + (10 * t + q)) ≤ 48 from (nI_leI (b := 48) (by omega) (by decide)).mpr cs), pu_let] at e1
        rw [if_neg (by omega)] at e2
        refine Or.inr ⟨3, s, val, 10 * t + q, _, _, by decide, e1, e2, Fx.w2 v (by decide) (by decide) _, (Fy.w7 R (by decide) _).trans (Fy.w7 _ (by decide) _), ⟨by omega, by rw [pu_wn_j _ _ _ _ (by decide)]; exact h21, by rw [w77, if_neg (by decide), w77, if_neg (by decide)]; exact h73, fun j hj => ?_, Or.inr (Or.inr (Or.inr ⟨rfl, hv, by rw [pu_wn_j _ _ _ _ (by decide)]; exact h22, ?_, ⟨d, d1, by omega, ?_⟩, by omega, cs, by omega, pu_wn_s _ _ _ _, ?_, ⟨k + 1, by omega, by omega, ?_⟩⟩))⟩⟩
        · rw [pu_wn_k _ _ _ _ (by decide), w7k _ _ _ (by decide), w7k _ _ _ (by decide)]; exact hl j hj
        · rw [w77, if_neg (by decide), w77, if_neg (by decide)]; exact h4
        · rw [w77, if_neg (by decide), w77, if_neg (by decide)]; exact d3
        · rw [w77, if_neg (by decide), w77, if_pos rfl]
        · rw [w77, if_pos rfl]
      · rw [if_neg (show ¬ nI (s + (10 * t + q)) ≤ 48 from fun z => cs ((nI_leI (b := 48) (by omega) (by decide)).mp z))] at e1
        rw [if_pos (by omega)] at e2
        exact tx_no e1 e2 (Fx.rfl' v) (Fy.rfl' R)
    · rw [isd_n hc (by omega), pu_some, ite00] at e1
      by_cases c42 : c = 42
      · subst c42
        refine tx_no e1 (R' := noR R) ?_ (Fx.rfl' v) (noR_Fy R)
        rw [tk42, if_neg (by rw [d3]; exact nI_nle (by omega) (by omega)), if_pos hk1]
      · exact tx_no e1 (tkn R hc c44 c42 (by omega)) (Fx.rfl' v) (Fy.rfl' R)
theorem tx_step {st s val t i c : Nat} {v : VS} {R : RS} (h : Zr st s val t i v R) (hi : i < 60) (hc : c < 128) : TxStp st i v R c := by
  obtain ⟨h0, h1, h2, h3, h | h | h | h⟩ := h
  · obtain ⟨rfl, q1, q2, q3, q4, q5⟩ := h
    exact tx_step0 q1 h1 h2 h3 q2 q3 q4 q5 hc
  · obtain ⟨rfl, q1, q2, q3, q4, q5, q6, q7⟩ := h
    exact tx_step1 hi q1 h1 h2 h3 q2 q3 q4 q5 q6 q7 hc
  · obtain ⟨rfl, q1, q2, q3, q4, q5, q6, q7⟩ := h
    exact tx_step2 hi q1 h1 h2 h3 q2 q3 q4 q5 q6 q7 hc
  · obtain ⟨rfl, q1, q2, q3, q4, q5, q6, q7, q8, q9, q10⟩ := h
    exact tx_step3 hi h1 h2 h3 q1 q2 q3 q4 q5 q6 q7 q8 q9 q10 hc
