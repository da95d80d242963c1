/-! the part met: the class's side -/
theorem sp_met {S : PS} (g : GA (S.1 0)) (gh : GH (S.1 0)) : f_X6_met S = mtV (S.1 0) := by
  have h10 := g.2.1
  obtain ⟨D, e, hD, _⟩ := smF_nat (f := S.1 0 1) (m := 50) (hsz (S.1 0)) 0 0 (fun j _ hj => (gh j (by omega)).2.1)
  rw [Nat.zero_add] at e
  have e' : smF (S.1 0 1) 0 (hsz (S.1 0)) 0 = nI D := e
  unfold f_X6_met mtV
  rw [sp_sum g (by decide), pu_some, e']
  by_cases h0 : D = 0
  · subst h0
    rw [if_pos (show nI 0 ≤ 0 by decide), if_pos (show nI 0 = 0 from rfl)]
  · rw [if_neg (nI_nle (by omega) (by omega)), if_neg (nI_ne0 (by omega) (by omega)), sp_sum g (by decide), pu_some]
/-- the quotient is a number: what is left of met -/
def N64 : Prop := ∀ a b : Nat, a ≤ 500 → 1 ≤ b → b ≤ 500 → n64 (FP.ddiv (FP.i2d (nI a)) (FP.i2d (nI b))) = true
theorem mtV_some (hN : N64) {v : VS} (g : GA v) (gh : GH v) : ∃ r, mtV v = some r := by
  have h10 := g.2.1
  obtain ⟨D, e, hD, _⟩ := smF_nat (f := v 1) (m := 50) (hsz v) 0 0 (fun j _ hj => (gh j (by omega)).2.1)
  obtain ⟨A, e2, hA, _⟩ := smF_nat (f := v 5) (m := 50) (hsz v) 0 0 (fun j _ hj => (gh j (by omega)).2.2.2.2.1)
  rw [Nat.zero_add] at e e2
  have e' : smF (v 1) 0 (hsz v) 0 = nI D := e
  have e2' : smF (v 5) 0 (hsz v) 0 = nI A := e2
  unfold mtV
  rw [e', e2']
  by_cases h0 : D = 0
  · subst h0
    exact ⟨_, if_pos rfl⟩
  · rw [if_neg (nI_ne0 (by omega) (by omega)), hN A D (by omega) (by omega) (by omega)]
    exact ⟨_, rfl⟩
theorem op_met_of (hN : N64) : Op_met Rel := by
  intro n S R hn h
  obtain ⟨r, hr⟩ := mtV_some hN h.1.1.1 h.1.1.2.1
  exact ⟨r, by rw [sp_met h.1.1.1 h.1.1.2.1, hr], by rw [sr_met (v := S.1 0) h.1.2.2 h.1.1.1, hr], rel_mono h (by omega)⟩
