/-! loans: both sides -/
theorem zi_nl {k j : Nat} (hin : inR k j) (hk : ¬ (10 ≤ k ∧ k < 13)) : zi k j < 80 ∨ 116 ≤ zi k j := by
  have h := hin
  unfold inR at h
  unfold zi
  by_cases h8 : k < 8
  · rw [if_pos h8]
    rcases h with h | h | h | h | h | h | h | h | h <;> omega
  · rw [if_neg h8, if_neg (by
      rcases h with h | h | h | h | h | h | h | h | h <;> omega)]
    repeat' split
    all_goals omega
theorem zi_l {k j : Nat} (hk : 10 ≤ k ∧ k < 13) : zi k j = 80 + 3 * j + (k - 10) := by
  unfold zi
  rw [if_neg (by omega), if_pos hk.2]
theorem Lst_lsz {v : VS} {l : List (Int32 × Int32 × Int32)} (h : Lst v l) (hl : l.length ≤ 12) : lsz v = l.length := by
  unfold lsz
  rw [h.1, nI_clamp (by omega)]
theorem Lst_RV {v w : VS} {R R' : RS} {l' : List (Int32 × Int32 × Int32)} (h : RV v R) (g : GA v) (hs : SameL v w) (hw : Lst w l') (hl' : l'.length ≤ 12) (h173 : R'.1 0 173 = nI l'.length) (hL : ∀ j, j < l'.length → l'[j]? = some (LC R' j)) (ho : ∀ i, (i < 80 ∨ 116 ≤ i) → i ≠ 173 → R'.1 0 i = R.1 0 i) : RV w R' := by
  have e0 : hsz w = hsz v := hsz_congr (hs 22 0 (by decide) (by decide))
  have e2 : qsz w = qsz v := by unfold qsz; rw [hs 22 2 (by decide) (by decide)]
  have e1 := Lst_lsz hw hl'
  intro k j hr
  show R'.1 0 (zi k j) = w k j
  by_cases hk : 10 ≤ k ∧ k < 13
  · have hj : j < l'.length := by
      unfold relv at hr
      rw [e1] at hr
      rcases hr with h | h | h | h | h | h | h | h | h <;> omega
    have q := hw.2 j hj
    rw [hL j hj] at q
    have q' := Option.some.inj q
    unfold LC at q'
    rw [Prod.mk.injEq, Prod.mk.injEq] at q'
    rw [zi_l hk]
    have : k = 10 ∨ k = 11 ∨ k = 12 := by omega
    rcases this with e | e | e <;> subst e
    · exact q'.1
    · exact q'.2.1
    · exact q'.2.2
  · by_cases h22 : k = 22 ∧ j = 1
    · rw [h22.1, h22.2, hw.1]; exact h173
    · have hr' : relv v k j := by
        unfold relv at hr ⊢
        rw [e0, e2] at hr
        rcases hr with h | h | h
        · exact Or.inl h
        · exact absurd ⟨h.1, h.2.1⟩ hk
        · exact Or.inr (Or.inr h)
      have hin := relv_inR g hr'
      have hne : zi k j ≠ 173 := fun z => h22 (zi_inj hin (k' := 22) (j' := 1) (by unfold inR; omega) z)
      rw [ho _ (zi_nl hin hk) hne, hs k j hk h22]
      exact h k j hr'
/-- bounds when only loans change -/
theorem SameL_G {v w : VS} {l' : List (Int32 × Int32 × Int32)} (g : G v) (hs : SameL v w) (hw : Lst w l') (hl' : l'.length ≤ 12) (hg : ∀ j, j < l'.length → ∃ a b o, a < hsz v ∧ b < hsz v ∧ a ≠ b ∧ 1 ≤ o ∧ o ≤ 200 ∧ w 10 j = nI a ∧ w 11 j = nI b ∧ w 12 j = nI o) : G w := by
  obtain ⟨ga, gh, gl, gb, gs, gt, gq⟩ := g
  have e0 : hsz w = hsz v := hsz_congr (hs 22 0 (by decide) (by decide))
  have e2 : qsz w = qsz v := by unfold qsz; rw [hs 22 2 (by decide) (by decide)]
  have e3 : hrz w = hrz v := by unfold hrz; rw [hs 22 3 (by decide) (by decide)]
  have e1 := Lst_lsz hw hl'
  have hk : ∀ k j, k < 10 → w k j = v k j := fun k j h => hs k j (by omega) (by omega)
  have hk2 : ∀ k j, 13 ≤ k → k < 22 → w k j = v k j := fun k j h h' => hs k j (by omega) (by omega)
  refine ⟨⟨?_, ?_, ?_, ?_, ?_, ?_, ?_, ?_, ?_, ?_⟩, ?_, ?_, ?_, ?_, ?_, ?_⟩
  · rw [hs 22 0 (by decide) (by decide), e0]; exact ga.1
  · rw [e0]; exact ga.2.1
  · rw [e1]; exact hw.1
  · rw [e1]; exact hl'
  · rw [hs 22 2 (by decide) (by decide), e2]; exact ga.2.2.2.2.1
  · rw [e2]; exact ga.2.2.2.2.2.1
  · rw [e2]; exact ga.2.2.2.2.2.2.1
  · rw [hs 22 3 (by decide) (by decide), e3]; exact ga.2.2.2.2.2.2.2.1
  · rw [e3]; exact ga.2.2.2.2.2.2.2.2.1
  · rw [hs 22 4 (by decide) (by decide)]; exact ga.2.2.2.2.2.2.2.2.2
  · intro j hj
    rw [e0] at hj
    rw [hk 0 j (by decide), hk 1 j (by decide), hk 2 j (by decide), hk 3 j (by decide), hk 4 j (by decide), hk 5 j (by decide)]
    exact gh j hj
  · intro k hk'
    rw [e1] at hk'
    rw [e0]
    exact hg k hk'
  · intro b hb
    rw [hk2 13 b (by decide) (by decide), hk2 14 b (by decide) (by decide), hk2 15 b (by decide) (by decide), hk2 16 b (by decide) (by decide)]
    exact gb b hb
  · exact ⟨by rw [hk2 17 0 (by decide) (by decide)]; exact gs.1, fun k hk' => by rw [hk2 17 k (by decide) (by decide)]; exact gs.2 k hk'⟩
  · exact ⟨by rw [hk2 19 0 (by decide) (by decide)]; exact gt.1, fun k hk' => by rw [hk2 20 k (by decide) (by decide)]; exact gt.2 k hk'⟩
  · intro k hk'
    rw [e2] at hk'
    rw [hk2 21 k (by decide) (by decide)]
    exact gq k hk'
theorem set_filter {l : List (Int32 × Int32 × Int32)} {k : Nat} (hk : k < l.length) {x : Int32 × Int32 × Int32} (hx : pd x = false) (ha : ∀ y, y ∈ l → pd y = true) : (l.set k x).filter pd = l.eraseIdx k := by
  rw [List.set_eq_take_append_cons_drop, if_pos hk, List.eraseIdx_eq_take_drop_succ, List.filter_append, List.filter_cons_of_neg (by rw [hx]; decide)]
  rw [List.filter_eq_self.mpr (fun y hy => ha y (List.mem_of_mem_take hy)), List.filter_eq_self.mpr (fun y hy => ha y (List.mem_of_mem_drop hy))]
