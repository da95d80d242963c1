/-! THE START AND THE LOOP OF THE ACTS -/
def frS : VS := wn (wn (wn (wn (wn (wn (wn (wn (wn (wn (wn law0 0 3 1) 0 4 5) 0 5 40) 0 6 50) 0 7 50) 0 15 1) 5 0 20) 4 1 20) 4 2 90) 4 5 20) 4 6 90
theorem fr_ok : f_L_fresh law0 = some frS := by
  obtain ⟨m, hm⟩ : ∃ m, fuel = m + 1 + 1 + 1 := ⟨99997, rfl⟩
  have wl : ∀ (Q : VS) (r i : Nat) (x : Int32), i < 2 ^ 31 → wr Q r (nI i) x = wn Q r i x := fun Q r i x hi => pu_wr hi
  unfold f_L_fresh
  rw [show inb (3 : Int32) 20 = true by decide, show inb (4 : Int32) 20 = true by decide, show inb (5 : Int32) 20 = true by decide, show inb (6 : Int32) 20 = true by decide, show inb (7 : Int32) 20 = true by decide, show inb (15 : Int32) 20 = true by decide, show inb (0 : Int32) 12 = true by decide, pu_bnd, pu_let, pu_bnd, pu_let, pu_bnd, pu_let, pu_bnd, pu_let, pu_bnd, pu_let, pu_bnd, pu_let, pu_bnd, pu_let, hm]
  have st : ∀ (q i : Nat) (Q : VS), i < 2 → f_L_fresh_37 (q + 1) (nI i) Q = f_L_fresh_37 q (nI (i + 1)) (wn (wn Q 4 (4 * i + 1) 20) 4 (4 * i + 2) 90) := fun q i Q hi => by
    rw [f_L_fresh_37, if_neg (show ¬ (2 : Int32) ≤ nI i from nI_ge (b := 2) hi (by decide)), show (4 : Int32) * nI i = nI (4 * i) from pk_mul 4 i, show nI (4 * i) + (1 : Int32) = nI (4 * i + 1) from nI_add _ 1, show nI (4 * i) + (2 : Int32) = nI (4 * i + 2) from nI_add _ 2, pu_inb (by omega) (by decide), pu_inb (by omega) (by decide), pu_bnd, pu_let, pu_bnd, pu_let, pu_let, nI_1, pu_wr (by omega), pu_wr (by omega)]
  rw [show ∀ Q : VS, f_L_fresh_37 (m + 1 + 1 + 1) (0 : Int32) Q = f_L_fresh_37 (m + 1 + 1 + 1) (nI 0) Q from fun _ => rfl, st _ 0 _ (by decide), st _ (0 + 1) _ (by decide), f_L_fresh_37, if_pos (by decide)]
  rw [show ∀ (Q : VS) x, wr Q 0 (3 : Int32) x = wn Q 0 3 x from fun Q x => wl Q 0 3 x (by decide), show ∀ (Q : VS) x, wr Q 0 (4 : Int32) x = wn Q 0 4 x from fun Q x => wl Q 0 4 x (by decide), show ∀ (Q : VS) x, wr Q 0 (5 : Int32) x = wn Q 0 5 x from fun Q x => wl Q 0 5 x (by decide), show ∀ (Q : VS) x, wr Q 0 (6 : Int32) x = wn Q 0 6 x from fun Q x => wl Q 0 6 x (by decide), show ∀ (Q : VS) x, wr Q 0 (7 : Int32) x = wn Q 0 7 x from fun Q x => wl Q 0 7 x (by decide), show ∀ (Q : VS) x, wr Q 0 (15 : Int32) x = wn Q 0 15 x from fun Q x => wl Q 0 15 x (by decide), show ∀ (Q : VS) x, wr Q 5 (0 : Int32) x = wn Q 5 0 x from fun Q x => wl Q 5 0 x (by decide)]
  rfl
def rl0 (k j : Nat) : Bool := (decide (13 ≤ k) && decide (k < 17) && decide (j < 2)) || (decide (k = 17) && decide (j < 4)) || (decide (k = 18) && decide (j < 8) && decide (j ≠ 5)) || (decide (k = 19) && decide (j < 3)) || (decide (k = 21) && decide (j = 0)) || (decide (k = 22) && decide (j < 5))
theorem vl0 : ∀ k, k < 23 → ∀ j, j < 8 → rl0 k j = true → frS (lrw k) (lpl k j) = vinit k j := by decide +kernel
theorem h0_vi : hsz vinit = 0 ∧ lsz vinit = 0 ∧ qsz vinit = 1 ∧ hrz vinit = 0 := by decide +kernel
theorem vi_VL : VL vinit frS := by
  obtain ⟨eh, el, eq, er⟩ := h0_vi
  intro k j hr
  unfold rl at hr
  rw [eh, el] at hr
  refine vl0 k (by omega) j (by omega) ?_
  simp only [rl0, Bool.or_eq_true, Bool.and_eq_true, decide_eq_true_eq, or_assoc, and_assoc]
  rcases hr with h | h | h | h | h | h | h | h
  · omega
  · omega
  · exact Or.inl h
  · exact Or.inr (Or.inl h)
  · exact Or.inr (Or.inr (Or.inl h))
  · exact Or.inr (Or.inr (Or.inr (Or.inl h)))
  · exact Or.inr (Or.inr (Or.inr (Or.inr (Or.inl h))))
  · exact Or.inr (Or.inr (Or.inr (Or.inr (Or.inr h))))
theorem vi_G (c t : Nat) : G vinit ∧ GN c t vinit := by
  obtain ⟨eh, el, eq, er⟩ := h0_vi
  refine ⟨⟨⟨?_, ?_, ?_, ?_, ?_, ?_, ?_, ?_, ?_, ?_⟩, ?_, ?_, ?_, ⟨?_, ?_⟩, ⟨?_, ?_⟩, ?_⟩, ⟨?_, ?_⟩⟩
  · rw [eh]; decide +kernel
  · rw [eh]; decide
  · rw [el]; decide +kernel
  · rw [el]; decide
  · rw [eq]; decide +kernel
  · rw [eq]; decide
  · rw [eq]; decide
  · rw [er]; decide +kernel
  · rw [er]; decide
  · exact Or.inl (by decide +kernel)
  · intro h hh; rw [eh] at hh; omega
  · intro h hh; rw [el] at hh; omega
  · intro b hb
    refine ⟨0, 20, 90, 0, by decide, by decide, by decide, by decide, by decide, ?_⟩
    have : b = 0 ∨ b = 1 := by omega
    rcases this with e | e <;> subst e <;> decide +kernel
  · exact ⟨5, by decide, by decide +kernel⟩
  · intro k hk
    have : k = 0 ∨ k = 1 ∨ k = 2 ∨ k = 3 := by omega
    rcases this with e | e | e | e <;> subst e
    · exact ⟨5, by decide, by decide +kernel⟩
    · exact ⟨40, by decide, by decide +kernel⟩
    · exact ⟨50, by decide, by decide +kernel⟩
    · exact ⟨50, by decide, by decide +kernel⟩
  · decide +kernel
  · intro f hf
    have : f = 0 ∨ f = 1 ∨ f = 2 := by omega
    rcases this with e | e | e <;> subst e <;> exact ⟨0, by decide, by decide +kernel⟩
  · intro k hk
    rw [eq] at hk
    obtain rfl : k = 0 := by omega
    exact ⟨20, by decide, by decide +kernel⟩
  · intro h hh; rw [eh] at hh; omega
  · rw [er]; omega
theorem rq_0 : RQ 0 (pool0, frS) := by
  obtain ⟨eh, el, eq, er⟩ := h0_vi
  refine RQ_of (v := vinit) rfl vi_VL ⟨by rw [eh]; decide, by rw [el]; decide, eq⟩ (vi_G (1000 * 0) (100 * 0)).1 (vi_G (1000 * 0) (100 * 0)).2 ⟨false, false, ?_, fun f hf => ?_⟩ (by unfold BAL; decide +kernel) ⟨0, by decide, rfl, fun i hi => ?_⟩
  · unfold OffR
    decide +kernel
  · rw [bt_ff]
    rcases (show f = 0 ∨ f = 1 ∨ f = 2 by omega) with e | e | e <;> subst e <;> decide +kernel
  · show 4 ≤ 4 + i ∧ 4 + i < 12
    omega
theorem cell_ok (sc : Nat × (Nat → Int32)) (hsc : sc.1 ≤ 260) {i : Nat} (hi : i < 260) : ∃ x, f_L_cell sc (nI i) = some x := by
  unfold f_L_cell
  by_cases c : Int32.ofNat sc.1 ≤ nI i
  · rw [if_pos c]; exact ⟨_, rfl⟩
  · have hlt : i < sc.1 := by
      by_cases z : i < sc.1
      · exact z
      · exact absurd (nI_le (a := sc.1) (b := i) (by omega) (by omega)) c
    rw [if_neg c, pu_inb hlt (by omega), pu_bnd]
    exact ⟨_, rfl⟩
theorem law_run (ff : FF) (sc : Nat × (Nat → Int32)) (hsc : sc.1 ≤ 260) : ∀ (d k n : Nat) (S : LQ), k + d = 30 → d < n → RQ k S → ∃ Z, f_L_law_70 sc n (nI k) S = some (1, Z) := by
  intro d
  induction d with
  | zero =>
    intro k n S hk hn h
    obtain ⟨n, rfl⟩ : ∃ m, n = m + 1 := ⟨n - 1, by omega⟩
    obtain rfl : k = 30 := by omega
    exact ⟨S, by rw [f_L_law_70, if_pos (by decide)]⟩
  | succ d ih =>
    intro k n S hk hn h
    obtain ⟨n, rfl⟩ : ∃ m, n = m + 1 := ⟨n - 1, by omega⟩
    have e228 : ∀ S', RQ (k + 1) S' → ∃ Z, f_L_law_228 (f_L_law_70 sc n) sc S' (nI k) 1 = some (1, Z) := fun S' hS' => by
      obtain ⟨Z, hZ⟩ := ih (k + 1) n S' (by omega) (by omega) hS'
      refine ⟨Z, ?_⟩
      unfold f_L_law_228
      rw [if_neg ne10, t_told ff hS', pu_some, if_neg ne10, pu_let, nI_1, hZ]
    have e133 : ∀ x y, ∃ Z, f_L_law_133 (f_L_law_70 sc n) sc S (nI k) x y = some (1, Z) := fun x y => by
      obtain ⟨S', a1, a2⟩ := act_house h x y
      obtain ⟨Z, hZ⟩ := e228 S' a2
      refine ⟨Z, ?_⟩
      unfold f_L_law_133
      rw [a1, pu_some, hZ]
    have e119 : ∀ x y s0, ∃ Z, f_L_law_119 (f_L_law_70 sc n) sc S (nI k) x y s0 = some (1, Z) := fun x y s0 => by
      unfold f_L_law_119
      by_cases c : s0 < 2
      · rw [if_pos c]; exact e133 x y
      · have r0 : rd S.2 0 (0 : Int32) = nI (hsz (S.1.1 0)) := (pu_rd (i := 0) (by decide)).trans (rl_0 h.1 h.2.2.1.1)
        rw [if_neg c, show inb (0 : Int32) 20 = true by decide, pu_bnd, r0]
        by_cases c0 : nI (hsz (S.1.1 0)) = 0
        · rw [if_pos c0]; exact e133 x y
        · have hpos : 0 < hsz (S.1.1 0) := by
            rcases Nat.eq_zero_or_pos (hsz (S.1.1 0)) with z | z
            · exact absurd (by rw [z]; rfl) c0
            · exact z
          rw [if_neg c0]
          by_cases c6 : 6 ≤ s0
          · rw [if_pos c6]
            by_cases c9 : 9 ≤ s0
            · rw [if_pos c9]
              by_cases c12 : 12 ≤ s0
              · rw [if_pos c12]
                obtain ⟨S', a1, a2⟩ := act_run h (by omega) y
                obtain ⟨Z, hZ⟩ := e228 S' a2
                exact ⟨Z, by rw [a1, pu_some, hZ]⟩
              · rw [if_neg c12]
                obtain ⟨S', a1, a2⟩ := act_lend h (by omega) hpos x y
                obtain ⟨Z, hZ⟩ := e228 S' a2
                exact ⟨Z, by rw [a1, pu_some, hZ]⟩
            · rw [if_neg c9]
              obtain ⟨S', a1, a2⟩ := act_buy h (by omega) hpos x y
              obtain ⟨Z, hZ⟩ := e228 S' a2
              exact ⟨Z, by rw [a1, pu_some, hZ]⟩
          · rw [if_neg c6]
            obtain ⟨S', a1, a2⟩ := act_set h x y
            obtain ⟨Z, hZ⟩ := e228 S' a2
            exact ⟨Z, by rw [a1, pu_some, hZ]⟩
    obtain ⟨x, hx⟩ := cell_ok sc hsc (i := 2 * k) (by omega)
    obtain ⟨y, hy⟩ := cell_ok sc hsc (i := 2 * k + 1) (by omega)
    rw [f_L_law_70, if_neg (show ¬ (30 : Int32) ≤ nI k from nI_ge (b := 30) (by omega) (by decide)), show (2 : Int32) * nI k = nI (2 * k) from pk_mul 2 k, hx, pu_some, nI_1, hy, pu_some]
    by_cases c3 : 3 ≤ nI k
    · obtain ⟨a, ha, ea⟩ := at_ok (x >>> ((22 : Int32) &&& 31)) (n := 16) (by decide) (by decide)
      rw [if_pos c3, show f_L_at (x >>> ((22 : Int32) &&& 31)) 16 = some (nI a) from ea, pu_some]
      exact e119 x y _
    · rw [if_neg c3]
      exact e119 x y _
theorem law_good_of (ff : FF) : ∀ sc : Nat × (Nat → Int32), sc.1 ≤ 260 → ∃ Z, f_L_law sc (pool0, law0) = some (1, Z) := fun sc hsc => by
  obtain ⟨Z, hZ⟩ := law_run ff sc hsc 30 0 fuel (pool0, frS) (by decide) (fuel_gt (by decide)) rq_0
  refine ⟨Z, ?_⟩
  unfold f_L_law
  rw [show f_L_fresh (pool0, law0).2 = some frS from fr_ok, pu_some, pu_let, t_told ff (S := (pool0, frS)) rq_0, pu_some, if_neg ne10]
  exact hZ
