theorem law_good : ∀ sc : Nat × (Nat → Int32), sc.1 ≤ 260 → ∃ Z, f_L_law sc (pool0, law0) = some (1, Z) := sorry
