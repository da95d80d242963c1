/-! tokens of one part for the loans -/
theorem plS_E {p0 : Nat} (p : Int32) : ∀ (d i : Nat) (r : Int32) (u u' : VS), (∀ k j, ¬ (k = 2 ∧ j = p0) → u' k j = u k j) → ∀ k j, ¬ (k = 2 ∧ j = p0) → plS p d i r u' k j = plS p d i r u k j := by
  intro d
  induction d with
  | zero => intro i r u u' h k j hk; exact h k j hk
  | succ d ih =>
    intro i r u u' h k j hk
    unfold plS
    rw [h 11 i (by omega), h 12 i (by omega), h 10 i (by omega), h 4 (u 10 i).toNatClampNeg (by omega)]
    by_cases c : u 11 i = p
    · rw [if_pos c, if_pos c]
      refine ih _ _ _ _ (fun k' j' hk' => ?_) k j hk
      simp only [pu_wn, h k' j' hk']
    · rw [if_neg c, if_neg c]
      exact ih _ _ _ _ h k j hk
theorem plS_4 {p : Nat} : ∀ (d i : Nat) (r : Int32) (u : VS), (∀ j, i ≤ j → j < i + d → ∃ a b, u 10 j = nI a ∧ u 11 j = nI b ∧ a ≠ b ∧ a < 10 ∧ b < 10) → p < 10 → plS (nI p) d i r u 4 p = u 4 p := by
  intro d
  induction d with
  | zero => intro i r u h hp; rfl
  | succ d ih =>
    intro i r u h hp
    unfold plS
    obtain ⟨a, b, e1, e2, e3, e4, e5⟩ := h i (Nat.le_refl _) (by omega)
    by_cases c : u 11 i = nI p
    · rw [e2] at c
      have hb := nI_inj0 (by omega) (by omega) c
      subst hb
      rw [if_pos (show u 11 i = nI b from e2), e1, nI_clamp (by omega), ih (i + 1) _ _ (fun j h1 h2 => by
        rw [pu_wn_k _ _ _ _ (by decide), pu_wn_k _ _ _ _ (by decide), pu_wn_k _ _ _ _ (by decide), pu_wn_k _ _ _ _ (by decide)]
        exact h j (by omega) (by omega)) hp, pu_wn, if_neg (by omega), pu_wn_k _ _ _ _ (by decide)]
    · rw [if_neg c]
      exact ih (i + 1) _ _ (fun j h1 h2 => h j (by omega) (by omega)) hp
theorem plS_0 (p : Int32) : ∀ (d i : Nat) (u : VS), (∀ j, i ≤ j → j < i + d → ∃ o, o ≤ 200 ∧ u 12 j = nI o) → plS p d i (nI 0) u = u := by
  intro d
  induction d with
  | zero => intro i u h; rfl
  | succ d ih =>
    intro i u h
    unfold plS
    obtain ⟨o, o1, o2⟩ := h i (Nat.le_refl _) (by omega)
    have ej : jmin (nI 0) (nI o) = nI 0 := by rw [jmin_nI (by decide) (by omega), Nat.zero_min]
    have es : ∀ x : Int32, x - nI 0 = x := fun x => by rw [nI_0]; exact Int32.sub_zero x
    have ea : ∀ x : Int32, x + nI 0 = x := fun x => by rw [nI_0]; exact Int32.add_zero x
    have hu : wn (wn u 12 i (u 12 i)) 4 (u 10 i).toNatClampNeg (u 4 (u 10 i).toNatClampNeg) = u := vs_ext fun k j => by
      rw [pu_wn, pu_wn]
      by_cases c1 : k = 4 ∧ j = (u 10 i).toNatClampNeg
      · rw [if_pos c1, c1.1, c1.2]
      · rw [if_neg c1]
        by_cases c2 : k = 12 ∧ j = i
        · rw [if_pos c2, c2.1, c2.2]
        · rw [if_neg c2]
    by_cases c : u 11 i = p
    · rw [if_pos c, o2, ej, es, es, ea, ← o2, hu]
      exact ih (i + 1) u (fun j h1 h2 => h j (by omega) (by omega))
    · rw [if_neg c]
      exact ih (i + 1) u (fun j h1 h2 => h j (by omega) (by omega))
theorem TK_off {v : VS} {p x k j : Nat} (hs : SameL (tkB v p x) (rpV (tkB v p x))) (h4 : k ≠ 4 ∨ j ≠ p) (h18 : k ≠ 18) (h : ¬ (10 ≤ k ∧ k < 13)) (h22 : ¬ (k = 22 ∧ j = 1)) : TK v p x k j = tkB v p x k j := by
  rw [show TK v p x k j = rpV (tkB v p x) k j from tkE_k _ _ _ _ _ h4 h18, hs k j h h22]
theorem tk0_E (v : VS) (p x x' : Nat) : ∀ k j, ¬ (k = 2 ∧ j = p) → tk0V v p x' k j = tk0V v p x k j := fun k j hk => by
  unfold tk0V
  rw [pu_wn, if_neg hk, pu_wn, if_neg hk]
theorem TK_Sm {v : VS} (g : G v) {c t p x x' : Nat} (gn : GN c t v) (hp : p < hsz v) (hc : c ≤ 600000) (hx : x ≤ 500) (hx' : x' ≤ 500) (hP : plN v p x' = plN v p x) : Sm (TK v p x) (TK v p x') ∧ ∀ j, j ≠ p → TK v p x' 4 j = TK v p x 4 j := by
  have s1 := (tkR g gn hp hc hx).2.2.1
  have s2 := (tkR g gn hp hc hx').2.2.1
  have eB : ∀ k j, ¬ (k = 2 ∧ j = p) → tkB v p x' k j = tkB v p x k j := fun k j hk => by
    unfold tkB
    rw [hP]
    exact plS_E _ _ _ _ _ _ (tk0_E v p x x') k j hk
  refine ⟨fun k j h2 h4 h18 h10 h22 => ?_, fun j hj => ?_⟩
  · rw [TK_off s1 (Or.inl h4) h18 h10 h22, TK_off s2 (Or.inl h4) h18 h10 h22]
    exact eB k j (fun z => h2 z.1)
  · rw [TK_off s1 (Or.inr hj) (by decide) (by decide) (by omega), TK_off s2 (Or.inr hj) (by decide) (by decide) (by omega)]
    exact eB 4 j (by omega)
theorem TK_4 {v : VS} (g : G v) {c t p x : Nat} (gn : GN c t v) (hp : p < hsz v) (hc : c ≤ 600000) (hx : x ≤ 500) : TK v p x 4 p = v 4 p + nI (x - pdN v p x - plN v p x) := by
  have s1 := (tkR g gn hp hc hx).2.2.1
  have h10 := g.1.2.1
  rw [show TK v p x 4 p = _ from tkE_4 _ _ _ _ _, s1 4 p (by decide) (by omega)]
  unfold tkB
  rw [plS_4 (lsz v) 0 _ (tk0V v p x) (fun j _ hj => by
    obtain ⟨a, b, o, q1, q2, q3, _, _, q6, q7, _⟩ := g.2.2.1 j (by omega)
    exact ⟨a, b, by unfold tk0V; rw [pu_wn_k _ _ _ _ (by decide)]; exact q6, by unfold tk0V; rw [pu_wn_k _ _ _ _ (by decide)]; exact q7, q3, by omega, by omega⟩) (by omega)]
  unfold tk0V
  rw [pu_wn_k _ _ _ _ (by decide)]
theorem TK_same {v : VS} (g : G v) {c t p x k j : Nat} (gn : GN c t v) (hp : p < hsz v) (hc : c ≤ 600000) (hx : x ≤ 500) (h2 : k ≠ 2) (h4 : k ≠ 4) (h18 : k ≠ 18) (h : ¬ (10 ≤ k ∧ k < 13)) (h22 : ¬ (k = 22 ∧ j = 1)) : TK v p x k j = v k j := by
  rw [TK_off (tkR g gn hp hc hx).2.2.1 (Or.inl h4) h18 h h22, tkB_k v p x (Or.inl h2) h4 (by omega)]
theorem TK_zero {v : VS} (g : G v) {c t p : Nat} (gn : GN c t v) (hp : p < hsz v) (hc : c ≤ 600000) : Sm v (TK v p 0) ∧ ∀ j, j < hsz v → TK v p 0 4 j = v 4 j := by
  have e1 : pdN v p 0 = 0 := Nat.le_zero.mp (pd_le g p 0)
  have e2 : plN v p 0 = 0 := by have := pl_le g p 0; omega
  refine ⟨fun k j h2 h4 h18 h10 h22 => TK_same g gn hp hc (by decide) h2 h4 h18 h10 h22, fun j hj => ?_⟩
  by_cases cj : j = p
  · subst cj
    rw [TK_4 g gn hp hc (by decide), e1, e2, show 0 - 0 - 0 = 0 from rfl, nI_0]
    exact Int32.add_zero _
  · rw [TK_off (tkR g gn hp hc (by decide)).2.2.1 (Or.inr cj) (by decide) (by decide) (by omega)]
    unfold tkB
    rw [e2, plS_0 _ _ _ _ (fun i _ hi => by
      obtain ⟨a, b, o, _, _, _, _, q5, _, _, q8⟩ := g.2.2.1 i (by omega)
      exact ⟨o, q5, by unfold tk0V; rw [pu_wn_k _ _ _ _ (by decide)]; exact q8⟩)]
    unfold tk0V
    rw [pu_wn_k _ _ _ _ (by decide)]
