/-! the bits: twos -/
theorem v64_one : FP.Core.val64 FP.dconst1 = .fin false (2 ^ 52) (-52) := FP.Core.val64_dconst1
theorem v64_zero : FP.Core.val64 FP.dconst0 = .fin false 0 (-1074) := FP.Core.val64_dconst0.trans (by rw [FP.Core.qmin_b64])
theorem dv_two {d : UInt64} {c : Nat} {q : Int} (h : FP.Core.val64 d = .fin false c q) (h1 : 2 ^ 52 ≤ c) (h2 : c < 2 ^ 53) (h3 : -1000 ≤ q) (h4 : q ≤ 900) : FP.Core.val64 (FP.ddiv d 4611686018427387904) = .fin false c (q - 1) := by
  show FP.Core.val64 (FP.Core.ddiv d 4611686018427387904) = _
  rw [FP.Core.val64_ddiv, h, v64_two]
  show (if 2 ^ 52 = 0 then (if c = 0 then FP.Core.Datum.nan else FP.Core.Datum.inf (false != false)) else FP.Core.roundRatio FP.Core.b64 (false != false) c (2 ^ 52) (q - -51)) = _
  rw [if_neg (by decide)]
  refine FP.Core.roundRatio_exact FP.Core.good_b64 (by decide) (fit64 h1 h2 (by omega) (by omega)) ?_
  rw [show (q - -51 - (q - 1)).toNat = 52 by omega, show (q - 1 - (q - -51)).toNat = 0 by omega, Nat.pow_zero, Nat.mul_one]
theorem dm_two {d : UInt64} {c : Nat} {q : Int} (h : FP.Core.val64 d = .fin false c q) (h1 : 2 ^ 52 ≤ c) (h2 : c < 2 ^ 53) (h3 : -1000 ≤ q) (h4 : q ≤ 800) : FP.Core.val64 (FP.dmul d 4611686018427387904) = .fin false c (q + 1) := by
  show FP.Core.val64 (FP.Core.dmul d 4611686018427387904) = _
  rw [FP.Core.val64_dmul, h, v64_two]
  show FP.Core.roundRatio FP.Core.b64 (false != false) (c * 2 ^ 52) 1 (q + -51) = _
  refine FP.Core.roundRatio_exact FP.Core.good_b64 (by decide) (fit64 h1 h2 (by omega) (by omega)) ?_
  rw [show (q + -51 - (q + 1)).toNat = 0 by omega, show (q + 1 - (q + -51)).toNat = 52 by omega, Nat.pow_zero, Nat.mul_one, Nat.mul_one]
theorem cmp_fin {d e : UInt64} {c c' : Nat} {q q' : Int} (h : FP.Core.val64 d = .fin false c q) (h' : FP.Core.val64 e = .fin false c' q') : FP.dcmp d e = some (compare ((c * 2 ^ (q - min q q').toNat : Nat) : Int) ((c' * 2 ^ (q' - min q q').toNat : Nat) : Int)) := by
  show FP.Core.order (FP.Core.val64 d) (FP.Core.val64 e) = _
  rw [h, h']
  rfl
theorem cv_lt {a b : Nat} (op : CmpOp) (h : a < b) : cmpValue (some (compare (a : Int) (b : Int))) op = -1 := by
  rw [show compare (a : Int) (b : Int) = .lt from Int.compare_eq_lt.mpr (by omega)]
  rfl
theorem cv_gt {a b : Nat} (op : CmpOp) (h : b < a) : cmpValue (some (compare (a : Int) (b : Int))) op = 1 := by
  rw [show compare (a : Int) (b : Int) = .gt from Int.compare_eq_gt.mpr (by omega)]
  rfl
theorem cv_ge {a b : Nat} (op : CmpOp) (h : b ≤ a) : 0 ≤ cmpValue (some (compare (a : Int) (b : Int))) op := by
  by_cases e : a = b
  · subst e
    rw [show compare (a : Int) (a : Int) = .eq from Int.compare_eq_eq.mpr rfl]
    show (0 : Int32) ≤ 0
    decide
  · rw [cv_gt op (by omega)]
    decide
theorem ge_two {d : UInt64} {c : Nat} {q : Int} (h : FP.Core.val64 d = .fin false c q) (h1 : 2 ^ 52 ≤ c) (h2 : c < 2 ^ 53) : (cmpValue (FP.dcmp d 4611686018427387904) .l < 0) = (q < -51) := by
  rw [cmp_fin h v64_two]
  by_cases hq : q < -51
  · refine propext ⟨fun _ => hq, fun _ => ?_⟩
    rw [cv_lt]
    · decide
    · rw [show min q (-51) = q by omega, Int.sub_self, Int.toNat_zero, Nat.pow_zero, Nat.mul_one]
      obtain ⟨k, hk⟩ : ∃ k, (-51 - q).toNat = k + 1 := ⟨(-51 - q).toNat - 1, by omega⟩
      rw [hk, Nat.pow_succ]
      have := Nat.two_pow_pos k
      have h3 : 2 ^ 52 * 1 ≤ 2 ^ 52 * 2 ^ k := Nat.mul_le_mul_left _ this
      omega
  · refine propext ⟨fun z => absurd z ?_, fun z => absurd z hq⟩
    have := cv_ge .l (a := c * 2 ^ (q - min q (-51)).toNat) (b := 2 ^ 52 * 2 ^ (-51 - min q (-51)).toNat) (by
      rw [show min q (-51) = -51 by omega, show (-51 - -51 : Int).toNat = 0 by omega, Nat.pow_zero, Nat.mul_one]
      have h3 : c * 1 ≤ c * 2 ^ (q - -51).toNat := Nat.mul_le_mul_left _ (Nat.two_pow_pos _)
      omega)
    rw [Int32.le_iff_toInt_le] at this
    rw [Int32.lt_iff_toInt_lt]
    have e0 : (0 : Int32).toInt = 0 := by decide
    omega
theorem ge_one {d : UInt64} {c : Nat} {q : Int} (h : FP.Core.val64 d = .fin false c q) (h1 : 2 ^ 52 ≤ c) (h2 : c < 2 ^ 53) : (0 ≤ cmpValue (FP.dcmp d FP.dconst1) .g) = (-52 ≤ q) := by
  rw [cmp_fin h v64_one]
  by_cases hq : -52 ≤ q
  · refine propext ⟨fun _ => hq, fun _ => ?_⟩
    refine cv_ge .g ?_
    rw [show min q (-52) = -52 by omega, show (-52 - -52 : Int).toNat = 0 by omega, Nat.pow_zero, Nat.mul_one]
    have h3 : c * 1 ≤ c * 2 ^ (q - -52).toNat := Nat.mul_le_mul_left _ (Nat.two_pow_pos _)
    omega
  · refine propext ⟨fun z => absurd z ?_, fun z => absurd z hq⟩
    rw [cv_lt]
    · decide
    · rw [show min q (-52) = q by omega, Int.sub_self, Int.toNat_zero, Nat.pow_zero, Nat.mul_one]
      obtain ⟨k, hk⟩ : ∃ k, (-52 - q).toNat = k + 1 := ⟨(-52 - q).toNat - 1, by omega⟩
      rw [hk, Nat.pow_succ]
      have := Nat.two_pow_pos k
      have h3 : 2 ^ 52 * 1 ≤ 2 ^ 52 * 2 ^ k := Nat.mul_le_mul_left _ this
      omega
