/-! THE LAW'S LOANS: what is owed, dropping the paid ones -/
theorem sl_owes {v R : VS} (h : VL v R) (s : SM v) (g : GA v) {k : Nat} (hk : k < 2) (x : Int32) : f_L_owes R x (nI k) = some (smF (owF v (10 + k) x) 0 (lsz v) 0) := by
  have h10 := s.2.1
  have r1 : rd R 0 (1 : Int32) = nI (lsz v) := (pu_rd (i := 1) (by decide)).trans (rl_1 h g)
  have lp : ∀ (d i n : Nat) (acc : Int32), i + d = lsz v → d < n → f_L_owes_6 R x (nI k) n acc (nI i) = some (smF (owF v (10 + k) x) i d acc) := by
    intro d
    induction d with
    | zero =>
      intro i n acc hi hn
      obtain ⟨n, rfl⟩ : ∃ m, n = m + 1 := ⟨n - 1, by omega⟩
      obtain rfl : i = lsz v := by omega
      rw [f_L_owes_6, show inb (1 : Int32) 20 = true by decide, pu_bnd, r1, if_pos (nI_le (Nat.le_refl _) (by omega))]
      rfl
    | succ d ih =>
      intro i n acc hi hn
      obtain ⟨n, rfl⟩ : ∃ m, n = m + 1 := ⟨n - 1, by omega⟩
      have hj : i < lsz v := by omega
      have e1 : R 3 (3 * i + k) = v (10 + k) i := rl_l h (by omega) hj rfl
      have e2 : R 3 (3 * i + 2) = v 12 i := rl_l h (k := 2) (by decide) hj rfl
      rw [f_L_owes_6, show inb (1 : Int32) 20 = true by decide, pu_bnd, r1, if_neg (nI_ge hj (by omega)), show (3 : Int32) * nI i = nI (3 * i) from pk_mul 3 i, nI_add, show nI (3 * i) + (2 : Int32) = nI (3 * i + 2) from nI_add _ 2, pu_inb (by omega) (by decide), pu_inb (by omega) (by decide), pu_bnd, pu_bnd, pu_rd (by omega), pu_rd (by omega), e1, e2, pu_let]
      unfold f_L_owes_39
      rw [pu_let, pu_let, nI_1]
      show _ = some (smF _ (i + 1) d (acc + owF v (10 + k) x i))
      unfold owF
      by_cases c : v (10 + k) i = x
      · rw [if_pos c, if_pos c]
        exact ih (i + 1) n _ (by omega) (by omega)
      · rw [if_neg c, if_neg c, Int32.add_zero]
        exact ih (i + 1) n _ (by omega) (by omega)
  exact lp (lsz v) 0 fuel 0 (by omega) (fuel_gt (by omega))
theorem lrw3 {k : Nat} (h : 10 ≤ k ∧ k < 13) : lrw k = 3 := by
  unfold lrw
  rw [if_neg (by omega), if_neg (by omega), if_pos (by omega)]
theorem lpl3 {k : Nat} (j : Nat) (h : 10 ≤ k ∧ k < 13) : lpl k j = 3 * j + (k - 10) := by
  unfold lpl
  rw [if_neg (by omega), if_neg (by omega), if_neg (by omega), if_neg (by omega), if_pos (by omega)]
theorem lrw_n3 {k : Nat} (h : ¬ (10 ≤ k ∧ k < 13)) (h8 : k ≠ 8 ∧ k ≠ 9) : lrw k ≠ 3 := by
  unfold lrw
  split
  · decide
  · split
    · decide
    · rw [if_neg (by omega)]
      split
      · decide
      · split <;> decide
theorem rl_n89 {v : VS} {k j : Nat} (h : rl v k j) : k ≠ 8 ∧ k ≠ 9 := by
  unfold rl at h
  rcases h with h | h | h | h | h | h | h | h <;> omega
theorem rl_same {u w : VS} (hz : hsz w = hsz u) {k j : Nat} (hk : ¬ (10 ≤ k ∧ k < 13)) (hr : rl w k j) : rl u k j := by
  unfold rl at hr ⊢
  rcases hr with h | h | h | h | h | h | h | h
  · exact Or.inl ⟨h.1, by omega⟩
  · exact absurd ⟨h.1, h.2.1⟩ hk
  · exact Or.inr (Or.inr (Or.inl h))
  · exact Or.inr (Or.inr (Or.inr (Or.inl h)))
  · exact Or.inr (Or.inr (Or.inr (Or.inr (Or.inl h))))
  · exact Or.inr (Or.inr (Or.inr (Or.inr (Or.inr (Or.inl h)))))
  · exact Or.inr (Or.inr (Or.inr (Or.inr (Or.inr (Or.inr (Or.inl h))))))
  · exact Or.inr (Or.inr (Or.inr (Or.inr (Or.inr (Or.inr (Or.inr h))))))
theorem rl_lsz {w : VS} {k j : Nat} (hk : 10 ≤ k ∧ k < 13) (hr : rl w k j) : j < lsz w := by
  unfold rl at hr
  rcases hr with h | h | h | h | h | h | h | h
  · omega
  · exact h.2.2
  all_goals omega
theorem inL1 : inL 22 1 := inL22 (by decide)
theorem VL_loans {u w R R' : VS} (h : VL u R) (s : SM u) (hsame : SameL u w) (h22 : R' 0 1 = w 22 1) (hR : ∀ r p, r ≠ 3 → ¬ (r = 0 ∧ p = 1) → R' r p = R r p) (hl : ∀ k j, 10 ≤ k → k < 13 → j < lsz w → R' 3 (3 * j + (k - 10)) = w k j) : VL w R' := by
  intro k j hr
  have hz : hsz w = hsz u := hsz_congr (hsame 22 0 (by decide) (by decide))
  by_cases hk : 10 ≤ k ∧ k < 13
  · rw [lrw3 hk, lpl3 j hk]
    exact hl k j hk.1 hk.2 (rl_lsz hk hr)
  · by_cases h1 : k = 22 ∧ j = 1
    · rw [h1.1, h1.2]; exact h22
    · have hr' : rl u k j := rl_same hz hk hr
      rw [hsame k j hk h1, hR _ _ (lrw_n3 hk (rl_n89 hr)) (fun z => h1 (lz_inj (rl_inL s hr') inL1 z.1 z.2))]
      exact h k j hr'
theorem sl_shift {m : Nat} (hm : m ≤ 10) (K : Int32 → VS → Option VS) (x2 : Int32) : ∀ (d x n : Nat) (Q : VS), x + d = 3 * (m - 1) → d < n → Q 0 1 = nI (m - 1) → ∃ Q', f_L_drop_31 K x2 n (nI x) Q = f_L_drop_54 K Q' x2 ∧ (∀ r p, r ≠ 3 → Q' r p = Q r p) ∧ (∀ p, Q' 3 p = if x ≤ p ∧ p < 3 * (m - 1) then Q 3 (p + 3) else Q 3 p) := by
  intro d
  induction d with
  | zero =>
    intro x n Q hx hn hQ
    obtain ⟨n, rfl⟩ : ∃ m, n = m + 1 := ⟨n - 1, by omega⟩
    have r1 : rd Q 0 (1 : Int32) = nI (m - 1) := (pu_rd (i := 1) (by decide)).trans hQ
    refine ⟨Q, ?_, fun _ _ _ => rfl, fun p => by rw [if_neg (by omega)]⟩
    rw [f_L_drop_31, show inb (1 : Int32) 20 = true by decide, pu_bnd, r1, show (3 : Int32) * nI (m - 1) = nI (3 * (m - 1)) from pk_mul 3 _, if_pos (nI_le (by omega) (by omega))]
  | succ d ih =>
    intro x n Q hx hn hQ
    obtain ⟨n, rfl⟩ : ∃ m, n = m + 1 := ⟨n - 1, by omega⟩
    have r1 : rd Q 0 (1 : Int32) = nI (m - 1) := (pu_rd (i := 1) (by decide)).trans hQ
    obtain ⟨Q', a1, a2, a3⟩ := ih (x + 1) n (wn Q 3 x (Q 3 (x + 3))) (by omega) (by omega) (by rw [pu_wn_k _ _ _ _ (by decide)]; exact hQ)
    refine ⟨Q', ?_, fun r p hr => by rw [a2 r p hr, pu_wn_k _ _ _ _ hr], fun p => ?_⟩
    · rw [← a1, f_L_drop_31, show inb (1 : Int32) 20 = true by decide, pu_bnd, r1, show (3 : Int32) * nI (m - 1) = nI (3 * (m - 1)) from pk_mul 3 _, if_neg (nI_ge (by omega) (by omega)), show nI x + (3 : Int32) = nI (x + 3) from nI_add _ 3, pu_inb (by omega) (by decide), pu_inb (by omega) (by decide), pu_bnd, pu_bnd, pu_let, pu_let, nI_1, pu_rd (by omega), pu_wr (by omega)]
    · rw [a3 p]
      by_cases c : p = x
      · subst c
        rw [if_neg (by omega), pu_wn_s, if_pos (by omega)]
      · rw [pu_wn_j _ _ _ _ c]
        by_cases c2 : x + 1 ≤ p ∧ p < 3 * (m - 1)
        · rw [if_pos c2, if_pos (by omega), pu_wn_j _ _ _ _ (by omega)]
        · rw [if_neg c2, if_neg (by omega)]
theorem sl_remove {u R : VS} (h : VL u R) (s : SM u) {m k M : Nat} (h22 : u 22 1 = nI m) (hm : m ≤ 10) (hk : k < m) (o : OffR M R) (K : Int32 → VS → Option VS) : ∃ w R', f_X4_remove u (nI k) = some w ∧ w 22 1 = nI (m - 1) ∧ SameL u w ∧ (∀ j, j < k → w 12 j = u 12 j) ∧ f_L_drop_31 K (nI k) fuel (nI (3 * k)) (wn R 0 1 (nI (m - 1))) = f_L_drop_54 K R' (nI k) ∧ VL w R' ∧ OffR M R' := by
  obtain ⟨w, w1, w2, w3, w4⟩ := sp_remove h22 (by omega) hk
  obtain ⟨Q', a1, a2, a3⟩ := sl_shift hm K (nI k) (3 * (m - 1) - 3 * k) (3 * k) fuel (wn R 0 1 (nI (m - 1))) (by omega) (fuel_gt (by omega)) (pu_wn_s _ _ _ _)
  have hlw : lsz w = m - 1 := by unfold lsz; rw [w2, nI_clamp (by omega)]
  have hlu : lsz u = m := by unfold lsz; rw [h22, nI_clamp (by omega)]
  refine ⟨w, Q', w1, w2, w4, fun j hj => by rw [w3 12 j (by decide) (by decide) (by omega), if_pos hj], a1, ?_, ?_⟩
  · refine VL_loans h s w4 ?_ (fun r p hr hp => ?_) (fun r j h1 h2 hj => ?_)
    · rw [a2 0 1 (by decide), pu_wn_s, w2]
    · rw [a2 r p hr, pu_wn, if_neg hp]
    · rw [hlw] at hj
      rw [a3, w3 r j h1 h2 hj]
      have e : ∀ j, j < m → R 3 (3 * j + (r - 10)) = u r j := fun j hj => by
        have := rl_l h (k := r - 10) (by omega) (j := j) (by omega) rfl
        rw [show 10 + (r - 10) = r by omega] at this
        exact this
      by_cases c : j < k
      · rw [if_neg (by omega), if_pos c, pu_wn_k _ _ _ _ (by decide)]
        exact e j (by omega)
      · rw [if_pos (by omega), if_neg c, pu_wn_k _ _ _ _ (by decide), ← e (j + 1) (by omega), show 3 * (j + 1) + (r - 10) = 3 * j + (r - 10) + 3 by omega]
  · unfold OffR
    rw [a2 0 19 (by decide), pu_wn_j _ _ _ _ (by decide)]
    exact o
theorem sl_drop6 {M : Nat} : ∀ (d n n' : Nat) (u R : VS) (m : Nat), VL u R → SM u → u 22 1 = nI m → m ≤ 10 → d ≤ m → d < n → d < n' → (∀ j, j < d → ∃ o, o ≤ 200 ∧ u 12 j = nI o) → OffR M R → ∃ w R', f_X4_removePaid_7 n (nI d - 1) u = some w ∧ f_L_drop_6 n' (nI d - 1) R = some R' ∧ VL w R' ∧ OffR M R' := by
  intro d
  induction d with
  | zero =>
    intro n n' u R m h s h22 hm hd hn hn' ho o
    obtain ⟨n, rfl⟩ : ∃ m, n = m + 1 := ⟨n - 1, by omega⟩
    obtain ⟨n', rfl⟩ : ∃ m, n' = m + 1 := ⟨n' - 1, by omega⟩
    refine ⟨u, R, ?_, ?_, h, o⟩
    · show (if nI 0 - 1 < 0 then some u else _) = _
      rw [if_pos (by decide)]
    · show (if nI 0 - 1 < 0 then some R else _) = _
      rw [if_pos (by decide)]
  | succ d ih =>
    intro n n' u R m h s h22 hm hd hn hn' ho o
    obtain ⟨n, rfl⟩ : ∃ m, n = m + 1 := ⟨n - 1, by omega⟩
    obtain ⟨n', rfl⟩ : ∃ m, n' = m + 1 := ⟨n' - 1, by omega⟩
    obtain ⟨q, hq, eq⟩ := ho d (by omega)
    have hlu : lsz u = m := by unfold lsz; rw [h22, nI_clamp (by omega)]
    have e2 : R 3 (3 * d + 2) = u 12 d := rl_l h (k := 2) (by decide) (j := d) (by omega) rfl
    have r1 : rd R 0 (1 : Int32) = nI m := (pu_rd (i := 1) (by decide)).trans ((rl_22 h (j := 1) (by decide)).trans h22)
    have hst : f_X4_removePaid_7 (n + 1) (nI (d + 1) - 1) u = if 0 < u 12 d then f_X4_removePaid_7 n (nI d - 1) u else bnd2 (f_X4_remove u (nI d)) fun r => f_X4_removePaid_7 n (nI d - 1) r := by
      rw [nI_pred]
      show (if nI d < 0 then some u else bnd (inb (nI d) 12) (if 0 < rd u 12 (nI d) then f_X4_removePaid_25 (f_X4_removePaid_7 n) u (nI d) else bnd2 (f_X4_remove u (nI d)) fun r_4 => f_X4_removePaid_25 (f_X4_removePaid_7 n) r_4 (nI d))) = _
      rw [if_neg (nI_pos (by omega)), pu_inb (by omega) (by decide), pu_bnd, pu_rd (by omega)]
      unfold f_X4_removePaid_25
      simp only [pv_let, ← Int32.sub_eq_add_neg]
    have hsl : f_L_drop_6 (n' + 1) (nI (d + 1) - 1) R = if u 12 d = 0 then f_L_drop_31 (f_L_drop_6 n') (nI d) fuel (nI (3 * d)) (wn R 0 1 (nI (m - 1))) else f_L_drop_6 n' (nI d - 1) R := by
      rw [nI_pred]
      show (if nI d < 0 then some R else _) = _
      rw [if_neg (nI_pos (by omega)), show (3 : Int32) * nI d = nI (3 * d) from pk_mul 3 d, show nI (3 * d) + (2 : Int32) = nI (3 * d + 2) from nI_add _ 2, pu_inb (by omega) (by decide), pu_bnd, pu_rd (by omega), e2, show inb (1 : Int32) 20 = true by decide, pu_bnd, pu_bnd, r1, show nI m - (1 : Int32) = nI (m - 1) from pk_sub (a := m) (b := 1) (by omega), show wr R 0 (1 : Int32) (nI (m - 1)) = wn R 0 1 (nI (m - 1)) from pu_wr (i := 1) (by decide)]
      unfold f_L_drop_54
      simp only [pv_let, ← Int32.sub_eq_add_neg]
    rw [hst, hsl, eq]
    by_cases c : q = 0
    · subst c
      rw [if_neg (by decide), if_pos (by decide)]
      obtain ⟨w, R', b1, b2, b3, b4, b5, b6, b7⟩ := sl_remove h s h22 hm (k := d) (by omega) o (f_L_drop_6 n')
      have sw : SM w := ⟨by rw [hsz_congr (b3 22 0 (by decide) (by decide))]; exact s.1, by unfold lsz; rw [b2, nI_clamp (by omega)]; omega, by unfold qsz; rw [b3 22 2 (by decide) (by decide)]; exact s.2.2⟩
      rw [b1, pu_some, b5]
      unfold f_L_drop_54
      rw [pv_let, show nI d + (-1 : Int32) = nI d - 1 from by rw [Int32.sub_eq_add_neg]]
      exact ih n n' w R' (m - 1) b6 sw b2 (by omega) (by omega) (by omega) (by omega) (fun j hj => by rw [b4 j hj]; exact ho j (by omega)) b7
    · rw [if_pos (show (0 : Int32) < nI q from nI_lt (a := 0) (by omega) (by omega)), if_neg (nI_ne0 (by omega) (by omega))]
      exact ih n n' u R m h s h22 hm (by omega) (by omega) (by omega) (fun j hj => ho j (by omega)) o
theorem sl_drop {u R : VS} (h : VL u R) (s : SM u) (g : GA u) {M : Nat} (ho : ∀ j, j < lsz u → ∃ o, o ≤ 200 ∧ u 12 j = nI o) (o : OffR M R) : ∃ R', f_L_drop R = some R' ∧ VL (rpV u) R' ∧ OffR M R' := by
  obtain ⟨w, R', a1, a2, a3, a4⟩ := sl_drop6 (M := M) (lsz u) fuel fuel u R (lsz u) h s g.2.2.1 s.2.1 (Nat.le_refl _) (fuel_gt (by have := s.2.1; omega)) (fuel_gt (by have := s.2.1; omega)) ho o
  have er : rpV u = w := by
    unfold rpV f_X4_removePaid
    rw [g.2.2.1, pv_let, a1]
    rfl
  rw [er]
  refine ⟨R', ?_, a3, a4⟩
  unfold f_L_drop
  rw [show inb (1 : Int32) 20 = true by decide, pu_bnd, show rd R 0 (1 : Int32) = nI (lsz u) from (pu_rd (i := 1) (by decide)).trans (rl_1 h g), pv_let]
  exact a2
