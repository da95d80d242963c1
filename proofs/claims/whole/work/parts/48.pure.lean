/-! loans: removing -/
theorem sp_remove {v : VS} {m k : Nat} (h22 : v 22 1 = nI m) (hm : m ≤ 12) (hk : k < m) : ∃ w, f_X4_remove v (nI k) = some w ∧ w 22 1 = nI (m - 1) ∧ (∀ r j, 10 ≤ r → r < 13 → j < m - 1 → w r j = v r (if j < k then j else j + 1)) ∧ (∀ r j, ¬ (10 ≤ r ∧ r < 13) → ¬ (r = 22 ∧ j = 1) → w r j = v r j) := by
  have lp : ∀ (d x n : Nat) (u : VS), x + d = m - 1 → d < n → k ≤ x → u 22 1 = nI (m - 1) → (∀ r j, 10 ≤ r → r < 13 → u r j = if k ≤ j ∧ j < x then v r (j + 1) else v r j) → (∀ r j, ¬ (10 ≤ r ∧ r < 13) → ¬ (r = 22 ∧ j = 1) → u r j = v r j) →
      ∃ w, f_X4_remove_12 n (nI x) u = some w ∧ w 22 1 = nI (m - 1) ∧ (∀ r j, 10 ≤ r → r < 13 → j < m - 1 → w r j = v r (if j < k then j else j + 1)) ∧ (∀ r j, ¬ (10 ≤ r ∧ r < 13) → ¬ (r = 22 ∧ j = 1) → w r j = v r j) := by
    intro d
    induction d with
    | zero =>
      intro x n u hx hn hkx u1 u2 u3
      obtain ⟨n, rfl⟩ : ∃ m, n = m + 1 := ⟨n - 1, by omega⟩
      obtain rfl : x = m - 1 := by omega
      refine ⟨u, ?_, u1, fun r j h1 h2 hj => ?_, u3⟩
      · simp (disch := omega) only [f_X4_remove_12, u1, nI_leI, Nat.le_refl, if_true]
      · rw [u2 r j h1 h2]
        by_cases c : j < k
        · rw [if_pos c, if_neg (by omega)]
        · rw [if_neg c, if_pos (by omega)]
    | succ d ih =>
      intro x n u hx hn hkx u1 u2 u3
      obtain ⟨n, rfl⟩ : ∃ m, n = m + 1 := ⟨n - 1, by omega⟩
      have h2 : ¬ m - 1 ≤ x := by omega
      have e11 : (wn u 10 x (u 10 (x + 1))) 11 (x + 1) = u 11 (x + 1) := pu_wn_k _ _ _ _ (by decide)
      have e12 : (wn (wn u 10 x (u 10 (x + 1))) 11 x (u 11 (x + 1))) 12 (x + 1) = u 12 (x + 1) := (pu_wn_k _ _ _ _ (by decide)).trans (pu_wn_k _ _ _ _ (by decide))
      obtain ⟨w, a1, a2⟩ := ih (x + 1) n (wn (wn (wn u 10 x (u 10 (x + 1))) 11 x (u 11 (x + 1))) 12 x (u 12 (x + 1))) (by omega) (by omega) (by omega) (by rw [pu_wn_k _ _ _ _ (by decide), pu_wn_k _ _ _ _ (by decide), pu_wn_k _ _ _ _ (by decide)]; exact u1) (fun r j h1 h3 => by
        have hr : r = 10 ∨ r = 11 ∨ r = 12 := by omega
        have ev : wn (wn (wn u 10 x (u 10 (x + 1))) 11 x (u 11 (x + 1))) 12 x (u 12 (x + 1)) r j = if j = x then u r (x + 1) else u r j := by
          simp only [pu_wn]
          rcases hr with e | e | e <;> subst e <;> by_cases hj : j = x <;> simp [hj]
        rw [ev]
        by_cases hj : j = x
        · rw [if_pos hj, hj, u2 r (x + 1) h1 h3, if_neg (by omega), if_pos (by omega)]
        · rw [if_neg hj, u2 r j h1 h3]
          by_cases c : k ≤ j ∧ j < x
          · rw [if_pos c, if_pos (by omega)]
          · rw [if_neg c, if_neg (by omega)]) (fun r j h1 h3 => by
        rw [pu_wn_k _ _ _ _ (by omega), pu_wn_k _ _ _ _ (by omega), pu_wn_k _ _ _ _ (by omega)]
        exact u3 r j h1 h3)
      refine ⟨w, ?_, a2⟩
      rw [← a1]
      simp (disch := omega) only [f_X4_remove_12, u1, pu_bnd, pu_some, pu_let, pu_inb, pu_rd, pu_wr, nI_1, nI_leI, nI_ltI, nI_eq, pu_lit, nI_add, pk_mul, h2, if_false, e11, e12]
  obtain ⟨w, a1, a2⟩ := lp (m - 1 - k) k fuel (wn v 22 1 (nI (m - 1))) (by omega) (fuel_gt (by omega)) (Nat.le_refl _) (pu_wn_s _ _ _ _) (fun r j h1 h2 => by rw [pu_wn_k _ _ _ _ (by omega), if_neg (by omega)]) (fun r j h1 h2 => by rw [pu_wn, if_neg h2])
  refine ⟨w, ?_, a2⟩
  rw [← a1]
  unfold f_X4_remove
  obtain ⟨q, rfl⟩ : ∃ q, m = q + 1 := ⟨m - 1, by omega⟩
  rw [h22, nI_pred, pu_let, Nat.add_sub_cancel]
/-- the loans of a village as a list -/
def Lst (v : VS) (l : List (Int32 × Int32 × Int32)) : Prop := v 22 1 = nI l.length ∧ ∀ j, j < l.length → l[j]? = some (v 10 j, v 11 j, v 12 j)
def SameL (v w : VS) : Prop := ∀ r j, ¬ (10 ≤ r ∧ r < 13) → ¬ (r = 22 ∧ j = 1) → w r j = v r j
theorem Lst_of (v : VS) (g : GA v) : ∃ l, Lst v l ∧ l.length = lsz v := by
  refine ⟨(List.range (lsz v)).map (fun j => (v 10 j, v 11 j, v 12 j)), ⟨?_, fun j hj => ?_⟩, by simp⟩
  · rw [List.length_map, List.length_range]; exact g.2.2.1
  · rw [List.length_map, List.length_range] at hj
    rw [List.getElem?_map, List.getElem?_range hj]
    rfl
theorem sp_remove_l {v : VS} {l : List (Int32 × Int32 × Int32)} {k : Nat} (h : Lst v l) (hm : l.length ≤ 12) (hk : k < l.length) : ∃ w, f_X4_remove v (nI k) = some w ∧ Lst w (l.eraseIdx k) ∧ SameL v w := by
  obtain ⟨w, w1, w2, w3, w4⟩ := sp_remove h.1 hm hk
  have hl : (l.eraseIdx k).length = l.length - 1 := by rw [List.length_eraseIdx, if_pos hk]
  refine ⟨w, w1, ⟨by rw [hl]; exact w2, fun j hj => ?_⟩, w4⟩
  rw [hl] at hj
  rw [w3 10 j (by decide) (by decide) hj, w3 11 j (by decide) (by decide) hj, w3 12 j (by decide) (by decide) hj, List.getElem?_eraseIdx]
  by_cases c : j < k
  · rw [if_pos c, if_pos c]; exact h.2 j (by omega)
  · rw [if_neg c, if_neg c]; exact h.2 (j + 1) (by omega)
