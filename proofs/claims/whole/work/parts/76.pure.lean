/-! hours met, and credit enough for them -/
def En (k : Nat) (v : VS) (p : Nat) : Prop := ∃ d, v 1 p = nI d ∧ d ≤ 50 ∧ (d = 0 ∨ k = 0 ∨ ((k * d : Nat) : Int) ≤ (v 4 p).toInt + (v 17 0).toInt)
theorem add_od {v : VS} (g : G v) {c t : Nat} (gn : GN c t v) (hc : c ≤ 2 ^ 29) {j : Nat} (hj : j < hsz v) : (v 4 j + v 17 0).toInt = (v 4 j).toInt + (v 17 0).toInt ∧ 0 ≤ (v 17 0).toInt ∧ (v 17 0).toInt ≤ 50 := by
  obtain ⟨⟨od, h1, h2⟩, _⟩ := g.2.2.2.2.1
  have h3 := (g.2.1 j hj).2.2.2.2.2
  have h4 := gn.1 j hj
  have h5 : (v 17 0).toInt = od := by rw [h2, nI_toInt (by omega)]
  refine ⟨?_, by omega, by omega⟩
  rw [Int32.toInt_add]
  exact Int.bmod_eq_of_le (by omega) (by omega)
theorem sub_got {v : VS} (g : G v) {c t : Nat} (gn : GN c t v) (hc : c ≤ 2 ^ 29) {j p : Nat} (hj : j < hsz v) (hp : p ≤ 50) : (v 4 j - nI p).toInt = (v 4 j).toInt - p := by
  have h3 := (g.2.1 j hj).2.2.2.2.2
  have h4 := gn.1 j hj
  rw [Int32.toInt_sub, nI_toInt (by omega)]
  exact Int.bmod_eq_of_le (by omega) (by omega)
theorem hm_s (p d i : Nat) (v : VS) : hm p (d + 1) i v = if PH v 1 p ≤ PH v 5 p then hm p d (i + 1) (PH v) else (i, PH v) := rfl
theorem hm_En {p c : Nat} (hc : c ≤ 2 ^ 29) : ∀ (k i t : Nat) (v : VS), G v → GN c t v → t + k < 2 ^ 29 → p < hsz v → (hm p k i v).1 = i + k → En k v p := by
  intro k
  induction k with
  | zero =>
    intro i t v g gn ht hp h
    obtain ⟨_, ⟨d, d1, d2⟩, _⟩ := g.2.1 p hp
    exact ⟨d, d2, d1, Or.inr (Or.inl rfl)⟩
  | succ k ih =>
    intro i t v g gn ht hp h
    rw [hm_s] at h
    by_cases cc : PH v 1 p ≤ PH v 5 p
    · rw [if_pos cc] at h
      have hG := PH_G g gn (by omega)
      obtain ⟨q, d, q1, q2, q3, q4, q5, q6⟩ := PH_got g hp
      obtain ⟨d', e1, e2, e3⟩ := ih (i + 1) (t + 1) (PH v) hG.1 hG.2 (by omega) (by rw [PH_hsz]; exact hp) (by rw [h]; omega)
      rw [PH_same v (by omega), q3] at e1
      have ed := nI_inj0 (by omega) (by omega) e1
      subst ed
      rw [PH_same v (by omega), q3, q1] at cc
      have hqd := (nI_leI (by omega) (by omega)).mp cc
      obtain ⟨a1, a2, a3⟩ := add_od g gn hc hp
      refine ⟨d, q3, q4, ?_⟩
      by_cases d0 : d = 0
      · exact Or.inl d0
      · refine Or.inr (Or.inr ?_)
        have hq : q = d := by omega
        have hcr : (d : Int) ≤ (v 4 p).toInt + (v 17 0).toInt := by
          rcases q6 with q6 | q6
          · omega
          · omega
        rw [q2, PH_same v (by omega), sub_got g gn hc hp (by omega)] at e3
        rcases e3 with e3 | e3 | e3
        · omega
        · subst e3
          rw [Nat.zero_add, Nat.one_mul]
          exact hcr
        · rw [Nat.add_mul, Nat.one_mul]
          omega
    · rw [if_neg cc] at h
      have : i = i + (k + 1) := h
      omega
theorem cdr_En {k p c t : Nat} {v : VS} (hc : c ≤ 2 ^ 29) (g : G v) (gn : GN c t v) (hp : p < hsz v) (h : En (k + 1) v p) : cdr (v 4 p) (v 1 p) (v 3 p) (v 17 0) = if v 3 p = 0 then 0 else v 1 p := by
  obtain ⟨d, e1, e2, e3⟩ := h
  obtain ⟨a1, a2, a3⟩ := add_od g gn hc hp
  have hd : (nI d).toInt = d := nI_toInt (by omega)
  unfold cdr
  by_cases c0 : v 3 p = 0
  · rw [if_pos c0, if_pos c0]
  · rw [if_neg c0, if_neg c0, e1, jmax0]
    rcases e3 with e3 | e3 | e3
    · subst e3
      rw [jmin_le]
      by_cases c1 : nI 0 ≤ v 4 p + v 17 0
      · rw [if_pos c1, if_pos (by decide)]
      · rw [if_neg c1, if_neg (show ¬ 0 ≤ v 4 p + v 17 0 from c1)]
        rfl
    · omega
    · rw [Nat.add_mul, Nat.one_mul] at e3
      rw [jmin_le, if_pos (show nI d ≤ v 4 p + v 17 0 by rw [Int32.le_iff_toInt_le, a1, hd]; omega), if_pos (nI_pos' (n := d) (by omega))]
theorem En_PH {k p c t : Nat} {v : VS} (hc : c ≤ 2 ^ 29) (g : G v) (gn : GN c t v) (hp : p < hsz v) (h : En (k + 1) v p) : En k (PH v) p := by
  obtain ⟨d, e1, e2, e3⟩ := h
  obtain ⟨q, d', q1, q2, q3, q4, q5, q6⟩ := PH_got g hp
  rw [e1] at q3
  have ed := nI_inj0 (by omega) (by omega) q3
  subst ed
  refine ⟨d, by rw [PH_same v (by omega)]; exact e1, e2, ?_⟩
  rw [q2, PH_same v (by omega), sub_got g gn hc hp (by omega)]
  rcases e3 with e3 | e3 | e3
  · exact Or.inl e3
  · omega
  · rw [Nat.add_mul, Nat.one_mul] at e3
    refine Or.inr (Or.inr ?_)
    omega
theorem hm_Sm {p c : Nat} (hc : c ≤ 2 ^ 29) : ∀ (k i t t' : Nat) (v w : VS), Sm v w → G v → GN c t v → G w → GN c t' w → t + k < 2 ^ 29 → t' + k < 2 ^ 29 → p < hsz v → (∀ j, j < hsz v → j ≠ p → w 4 j = v 4 j) → (w 4 p = v 4 p ∨ (En k v p ∧ En k w p)) → (hm p k i v).1 = (hm p k i w).1 := by
  intro k
  induction k with
  | zero => intro i t t' v w _ _ _ _ _ _ _ _ _ _; rfl
  | succ k ih =>
    intro i t t' v w hs g gn g' gn' ht ht' hp h4 hE
    have hp' : p < hsz w := by rw [hs.hz]; exact hp
    have hcd : ∀ j, j < hsz v → cdr (w 4 j) (w 1 j) (w 3 j) (w 17 0) = cdr (v 4 j) (v 1 j) (v 3 j) (v 17 0) := fun j hj => by
      by_cases cj : j = p
      · subst cj
        rcases hE with e | ⟨e, e'⟩
        · rw [hs.r 1 (by decide), hs.r 3 (by decide), hs.r 17 (by decide), e]
        · rw [cdr_En hc g gn hp e, cdr_En hc g' gn' hp' e', hs.r 1 (by decide), hs.r 3 (by decide)]
      · rw [hs.r 1 (by decide), hs.r 3 (by decide), hs.r 17 (by decide), h4 j hj cj]
    have hs2 := Sm_PH hs hcd
    rw [hm_s, hm_s, hs2.r 1 (by decide), hs2.r 5 (by decide)]
    by_cases cc : PH v 1 p ≤ PH v 5 p
    · rw [if_pos cc, if_pos cc]
      have hG := PH_G g gn (by omega)
      have hG' := PH_G g' gn' (by omega)
      have e4 : ∀ j, j < hsz v → PH w 4 j = w 4 j - PH v 5 j ∧ PH v 4 j = v 4 j - PH v 5 j := fun j hj => by
        obtain ⟨q, d, q1, q2, _⟩ := PH_got g hj
        obtain ⟨q', d', q1', q2', _⟩ := PH_got g' (j := j) (by rw [hs.hz]; exact hj)
        rw [hs2.r 5 (by decide), q1] at q1'
        exact ⟨by rw [q2', ← q1', q1], by rw [q2, q1]⟩
      refine ih (i + 1) (t + 1) (t' + 1) (PH v) (PH w) hs2 hG.1 hG.2 hG'.1 hG'.2 (by omega) (by omega) (by rw [PH_hsz]; exact hp) (fun j hj cj => ?_) ?_
      · rw [PH_hsz] at hj
        rw [(e4 j hj).1, (e4 j hj).2, h4 j hj cj]
      · rcases hE with e | ⟨e, e'⟩
        · refine Or.inl ?_
          rw [(e4 p hp).1, (e4 p hp).2, e]
        · exact Or.inr ⟨En_PH hc g gn hp e, En_PH hc g' gn' hp' e'⟩
    · rw [if_neg cc, if_neg cc]
/-- two villages like one reference meet the same hours -/
theorem srv_tie {p L c t : Nat} (hL : L ≤ 1000) {v w : VS} {R : RS} (hv : RV v R) (hw : RV w R) (g : G v) (gn : GN c t v) (g' : G w) (gn' : GN c t w) (ht : t + L < 2 ^ 29) (hp : p < hsz v) (hp' : p < hsz w) : ((hm p L 0 v).1 = L) ↔ ((hm p L 0 w).1 = L) := by
  obtain ⟨R1, a1, _⟩ := sr_firstDark hL L 0 fuel t v R (by omega) (fuel_gt (by omega)) hp g gn ht hv
  obtain ⟨R2, b1, _⟩ := sr_firstDark hL L 0 fuel t w R (by omega) (fuel_gt (by omega)) hp' g' gn' ht hw
  have l1 := (hm_le p L 0 v).2
  have l2 := (hm_le p L 0 w).2
  rw [a1] at b1
  have e := (Prod.mk.inj (Option.some.inj b1)).1
  have hne : ∀ m, m ≤ 1000 → ¬ (-1000001 : Int32) = nI m := fun m hm z => by
    have hp := nI_pos' (n := m) (by omega)
    rw [← z] at hp
    revert hp
    decide
  constructor
  · intro z
    rw [if_pos z] at e
    by_cases z' : (hm p L 0 w).1 = L
    · exact z'
    · rw [if_neg z'] at e
      exact absurd e (hne _ (by omega))
  · intro z
    rw [if_pos z] at e
    by_cases z' : (hm p L 0 v).1 = L
    · exact z'
    · rw [if_neg z'] at e
      exact absurd e.symm (hne _ (by omega))
