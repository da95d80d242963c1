/-! the bits: together -/
theorem bits_fin {p : UInt64} {c : Nat} {q : Int} (h : FP.Core.val64 p = .fin false c q) (h1 : 2 ^ 52 ≤ c) (h2 : c < 2 ^ 53) (h3 : -500 ≤ q) (h4 : q ≤ 500) : f_X6_bitsOf p = some p.toInt64 := by
  obtain ⟨t, rfl⟩ : ∃ t, c = 2 ^ 52 + t := ⟨c - 2 ^ 52, by omega⟩
  have hp : p.toNat = (q + 1075).toNat * 2 ^ 52 + t := by
    have hf := FP.Core.val64_fits p
    rw [h] at hf
    have e1 : p = FP.Core.of64 (.fin false (2 ^ 52 + t) q) := by rw [← h]; exact (FP.Core.of64_val64 (fin_ne h)).symm
    rw [e1, FP.Core.toNat_of64 hf]
    show (if 2 ^ 52 + t < FP.Core.b64.tails then _ else FP.Core.assemble FP.Core.b64 false ((q - FP.Core.b64.qmin).toNat + 1) (2 ^ 52 + t - FP.Core.b64.tails)) = _
    rw [FP.Core.tails_b64, if_neg (by omega), FP.Core.qmin_b64]
    show (0 * FP.Core.b64.exps + ((q - -1074).toNat + 1)) * FP.Core.b64.tails + (2 ^ 52 + t - 2 ^ 52) = _
    rw [FP.Core.tails_b64, Nat.zero_mul, Nat.zero_add, show (q - -1074).toNat + 1 = (q + 1075).toNat by omega, Nat.add_sub_cancel_left]
  have h87 : ∀ d', FP.Core.val64 d' = .fin false (2 ^ 52 + t) (-52) → f_X6_bitsOf_87 d' (lN (q + 1075).toNat) = some p.toInt64 := fun d' hd => by
    obtain ⟨n1, n2, n3⟩ := frac hd (by omega)
    unfold f_X6_bitsOf_87
    rw [n1, n2, pu_bnd, pu_bnd, pu_let, n3, or_bits (by omega) (by omega) hp]
  have hpos : 0 < cmpValue (FP.dcmp p FP.dconst0) .g := by
    rw [cmp_fin h v64_zero, cv_gt]
    · decide
    · rw [Nat.zero_mul]
      exact Nat.mul_pos (by omega) (Nat.two_pow_pos _)
  unfold f_X6_bitsOf
  rw [if_pos hpos]
  by_cases hq : -52 ≤ q
  · obtain ⟨d', a1, a2⟩ := bits18 h1 h2 (q + 52).toNat fuel 0 1023 p (by rw [h]; congr 1; omega) (fuel_gt (by omega)) (by omega)
    obtain ⟨d2, b1, b2⟩ := bits55 h1 h2 0 fuel 0 (1023 + (q + 52).toNat) d' (by rw [a2]; rfl) (fuel_gt (by omega)) (by omega) (by omega)
    have e1 : f_X6_bitsOf_18 fuel p (1023 : Int64) (0 : Int32) = f_X6_bitsOf_52 d' (lN (1023 + (q + 52).toNat)) := a1
    have e2 : f_X6_bitsOf_52 d' (lN (1023 + (q + 52).toNat)) = f_X6_bitsOf_87 d2 (lN (1023 + (q + 52).toNat - 0)) := b1
    rw [e1, e2, show 1023 + (q + 52).toNat - 0 = (q + 1075).toNat by omega]
    exact h87 d2 b2
  · have e1 : f_X6_bitsOf_18 fuel p (1023 : Int64) (0 : Int32) = f_X6_bitsOf_52 p (lN 1023) := by
      show (if (1100 : Int32) ≤ 0 then _ else if (cmpValue (FP.dcmp p 4611686018427387904) .l) < 0 then _ else _) = _
      rw [if_neg (by decide), if_pos (by rw [ge_two h h1 h2]; omega)]
      rfl
    obtain ⟨d2, b1, b2⟩ := bits55 h1 h2 (-52 - q).toNat fuel 0 1023 p (by rw [h]; congr 1; omega) (fuel_gt (by omega)) (by omega) (by omega)
    have e2 : f_X6_bitsOf_52 p (lN 1023) = f_X6_bitsOf_87 d2 (lN (1023 - (-52 - q).toNat)) := b1
    rw [e1, e2, show 1023 - (-52 - q).toNat = (q + 1075).toNat by omega]
    exact h87 d2 b2
theorem dlb_of {p : UInt64} (h : FP.Core.val64 p ≠ .nan) : f_Jxe99ae_doubleToLongBits_ccdee p = some p.toInt64 := by
  unfold f_Jxe99ae_doubleToLongBits_ccdee f_Jxe99ae_isNaN_b9ae7
  have e : FP.dcmp p p = some .eq := FP.Core.dcmp_self h
  rw [e]
  rfl
