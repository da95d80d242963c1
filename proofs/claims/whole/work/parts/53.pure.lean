/-! the part met: both sides -/
def mtV (v : VS) : Option UInt64 := if smF (v 1) 0 (hsz v) 0 = 0 then some FP.dconst1 else bnd (n64 (FP.ddiv (FP.i2d (smF (v 5) 0 (hsz v) 0)) (FP.i2d (smF (v 1) 0 (hsz v) 0)))) (some (FP.ddiv (FP.i2d (smF (v 5) 0 (hsz v) 0)) (FP.i2d (smF (v 1) 0 (hsz v) 0))))
theorem sr_met {v : VS} {R : RS} (h : RV v R) (g : GA v) : f_X7_met R = mtV v := by
  have h10 := g.2.1
  have lp : ∀ (d i n : Nat) (x y : Int32), i + d = hsz v → d < n → f_X7_met_6 R n x y (nI i) = (if smF (v 1) i d y = 0 then some FP.dconst1 else bnd (n64 (FP.ddiv (FP.i2d (smF (v 5) i d x)) (FP.i2d (smF (v 1) i d y)))) (some (FP.ddiv (FP.i2d (smF (v 5) i d x)) (FP.i2d (smF (v 1) i d y))))) := by
    intro d
    induction d with
    | zero =>
      intro i n x y hi hn
      obtain ⟨n, rfl⟩ : ∃ m, n = m + 1 := ⟨n - 1, by omega⟩
      obtain rfl : i = hsz v := by omega
      unfold f_X7_met_6 smF
      rw [show (172 : Int32) = nI 172 from rfl, pu_inb (by decide) (by decide), pu_bnd, pu_rd (by decide), rz_172 h g, if_pos (nI_le (Nat.le_refl _) (by omega))]
    | succ d ih =>
      intro i n x y hi hn
      obtain ⟨n, rfl⟩ : ∃ m, n = m + 1 := ⟨n - 1, by omega⟩
      have h1 : ¬ hsz v ≤ i := by omega
      have s5 := sr_of h g (by omega : 5 < 8) (by omega : i < hsz v)
      have s1 := sr_of h g (by omega : 1 < 8) (by omega : i < hsz v)
      have e := ih (i + 1) n (x + v 5 i) (y + v 1 i) (by omega) (by omega)
      show f_X7_met_6 R (n + 1) x y (nI i) = (if smF (v 1) (i + 1) d (y + v 1 i) = 0 then some FP.dconst1 else bnd (n64 (FP.ddiv (FP.i2d (smF (v 5) (i + 1) d (x + v 5 i))) (FP.i2d (smF (v 1) (i + 1) d (y + v 1 i))))) (some (FP.ddiv (FP.i2d (smF (v 5) (i + 1) d (x + v 5 i))) (FP.i2d (smF (v 1) (i + 1) d (y + v 1 i))))))
      rw [← e]
      simp (disch := omega) only [f_X7_met_6, pv_bnd, pv_some, pv_let, pu_inb, pu_rd, pv_lit, nI_leI, nI_add, rz_172 h g, h1, if_false, s5, s1]
  exact lp (hsz v) 0 fuel 0 0 (by omega) (fuel_gt (by omega))
