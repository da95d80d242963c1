/-! the bits: loops -/
/-- dividing until it is below two -/
theorem bits18 {c : Nat} (h1 : 2 ^ 52 ≤ c) (h2 : c < 2 ^ 53) : ∀ (m n x e : Nat) (d : UInt64), FP.Core.val64 d = .fin false c (-52 + m) → m < n → x + m < 600 → ∃ d', f_X6_bitsOf_18 n d (lN e) (nI x) = f_X6_bitsOf_52 d' (lN (e + m)) ∧ FP.Core.val64 d' = .fin false c (-52) := by
  intro m
  induction m with
  | zero =>
    intro n x e d h hn hx
    obtain ⟨n, rfl⟩ : ∃ m, n = m + 1 := ⟨n - 1, by omega⟩
    refine ⟨d, ?_, h⟩
    show (if (1100 : Int32) ≤ nI x then _ else if (cmpValue (FP.dcmp d 4611686018427387904) .l) < 0 then _ else _) = _
    rw [if_neg (show ¬ (1100 : Int32) ≤ nI x from fun z => by have := (nI_leI (a := 1100) (by omega) (by omega)).mp z; omega), if_pos (by rw [ge_two h h1 h2]; omega)]
    rfl
  | succ m ih =>
    intro n x e d h hn hx
    obtain ⟨n, rfl⟩ : ∃ m, n = m + 1 := ⟨n - 1, by omega⟩
    have hd := dv_two h h1 h2 (by omega) (by omega)
    obtain ⟨d', a1, a2⟩ := ih n (x + 1) (e + 1) (FP.ddiv d 4611686018427387904) (by rw [hd]; congr 1; omega) (by omega) (by omega)
    refine ⟨d', ?_, a2⟩
    rw [show e + (m + 1) = e + 1 + m by omega, ← a1]
    show (if (1100 : Int32) ≤ nI x then _ else if (cmpValue (FP.dcmp d 4611686018427387904) .l) < 0 then _ else _) = _
    rw [if_neg (show ¬ (1100 : Int32) ≤ nI x from fun z => by have := (nI_leI (a := 1100) (by omega) (by omega)).mp z; omega), if_neg (by rw [ge_two h h1 h2]; omega), n64_of (fin_ne hd), pu_bnd, pu_let, pu_let, pu_let, lN_1, nI_1]
/-- doubling until it is one at least -/
theorem bits55 {c : Nat} (h1 : 2 ^ 52 ≤ c) (h2 : c < 2 ^ 53) : ∀ (m n x e : Nat) (d : UInt64), FP.Core.val64 d = .fin false c (-52 - m) → m < n → x + m < 600 → m ≤ e → ∃ d', f_X6_bitsOf_55 n d (lN e) (nI x) = f_X6_bitsOf_87 d' (lN (e - m)) ∧ FP.Core.val64 d' = .fin false c (-52) := by
  intro m
  induction m with
  | zero =>
    intro n x e d h hn hx he
    obtain ⟨n, rfl⟩ : ∃ m, n = m + 1 := ⟨n - 1, by omega⟩
    refine ⟨d, ?_, h⟩
    show (if (1100 : Int32) ≤ nI x then _ else if 0 ≤ (cmpValue (FP.dcmp d FP.dconst1) .g) then _ else _) = _
    rw [if_neg (show ¬ (1100 : Int32) ≤ nI x from fun z => by have := (nI_leI (a := 1100) (by omega) (by omega)).mp z; omega), if_pos (by rw [ge_one h h1 h2]; omega)]
    rfl
  | succ m ih =>
    intro n x e d h hn hx he
    obtain ⟨n, rfl⟩ : ∃ m, n = m + 1 := ⟨n - 1, by omega⟩
    have hd := dm_two h h1 h2 (by omega) (by omega)
    obtain ⟨d', a1, a2⟩ := ih n (x + 1) (e - 1) (FP.dmul d 4611686018427387904) (by rw [hd]; congr 1; omega) (by omega) (by omega) (by omega)
    refine ⟨d', ?_, a2⟩
    rw [show e - (m + 1) = e - 1 - m by omega, ← a1]
    show (if (1100 : Int32) ≤ nI x then _ else if 0 ≤ (cmpValue (FP.dcmp d FP.dconst1) .g) then _ else _) = _
    rw [if_neg (show ¬ (1100 : Int32) ≤ nI x from fun z => by have := (nI_leI (a := 1100) (by omega) (by omega)).mp z; omega), if_neg (by rw [ge_one h h1 h2]; omega), n64_of (fin_ne hd), pu_bnd, pu_let, pu_let, pu_let, show (1 : Int64) = lN 1 from rfl, lN_sub (by omega), nI_1]
