/-! the bits: the rest -/
/-- what is left above one, as a whole number -/
theorem frac {d : UInt64} {t : Nat} (h : FP.Core.val64 d = .fin false (2 ^ 52 + t) (-52)) (ht : t < 2 ^ 52) : n64 (FP.dsub d FP.dconst1) = true ∧ n64 (FP.dmul (FP.dsub d FP.dconst1) 4841369599423283200) = true ∧ FP.d2l (FP.dmul (FP.dsub d FP.dconst1) 4841369599423283200) = lN t := by
  have hs : FP.Core.val64 (FP.dsub d FP.dconst1) = FP.Core.roundRatio FP.Core.b64 false t 1 (-52) := by
    show FP.Core.val64 (FP.Core.dsub d FP.Core.dconst1) = _
    rw [FP.Core.val64_dsub, h, FP.Core.val64_dconst1]
    have hu : FP.Core.sumUnits false (2 ^ 52 + t) (-52) true (2 ^ 52) (-52) (min (-52) (-52)) = (t : Int) := by
      show (((2 ^ 52 + t) * 2 ^ 0 : Nat) : Int) + -((2 ^ 52 * 2 ^ 0 : Nat) : Int) = _
      omega
    show FP.Core.roundRatio FP.Core.b64 (FP.Core.sumSign false true (FP.Core.sumUnits false (2 ^ 52 + t) (-52) true (2 ^ 52) (-52) (min (-52) (-52)))) (FP.Core.sumUnits false (2 ^ 52 + t) (-52) true (2 ^ 52) (-52) (min (-52) (-52))).natAbs 1 (min (-52) (-52)) = _
    rw [hu]
    have hg : FP.Core.sumSign false true (t : Int) = false := by
      unfold FP.Core.sumSign
      split
      · rfl
      · exact decide_eq_false (by omega)
    rw [hg]
    rfl
  have hm : ∀ {c : Nat} {q : Int}, FP.Core.val64 (FP.dsub d FP.dconst1) = .fin false c q → FP.Core.val64 (FP.dmul (FP.dsub d FP.dconst1) 4841369599423283200) = FP.Core.roundRatio FP.Core.b64 false (c * 2 ^ 52) 1 (q + 0) := fun {c q} hc => by
    show FP.Core.val64 (FP.Core.dmul _ 4841369599423283200) = _
    rw [FP.Core.val64_dmul, hc, v64_big]
    rfl
  have hfin : ∀ {c : Nat} {q : Int} {x : UInt64}, FP.Core.val64 x = .fin false c q → c * 2 ^ q.toNat / 2 ^ (-q).toNat = t → FP.d2l x = lN t := fun {c q x} hc he => by
    show FP.Core.toL (FP.Core.val64 x) = _
    rw [hc]
    show Int64.ofInt (max (-2 ^ 63) (min (2 ^ 63 - 1) (FP.Core.signed false (c * 2 ^ q.toNat / 2 ^ (-q).toNat)))) = _
    rw [he]
    show Int64.ofInt (max (-2 ^ 63) (min (2 ^ 63 - 1) (t : Int))) = _
    rw [show max (-2 ^ 63 : Int) (min (2 ^ 63 - 1) (t : Int)) = (t : Int) by omega]
    rfl
  by_cases h0 : t = 0
  · subst h0
    have e1 : FP.Core.val64 (FP.dsub d FP.dconst1) = .fin false 0 FP.Core.b64.qmin := hs
    have e2 : FP.Core.val64 (FP.dmul (FP.dsub d FP.dconst1) 4841369599423283200) = .fin false 0 FP.Core.b64.qmin := hm e1
    exact ⟨n64_of (fin_ne e1), n64_of (fin_ne e2), hfin e2 (by rw [Nat.zero_mul, Nat.zero_div])⟩
  · have l1 : 2 ^ t.log2 ≤ t := Nat.log2_self_le h0
    have l2 : t < 2 ^ (t.log2 + 1) := Nat.lt_log2_self
    have l3 : t.log2 < 52 := (Nat.pow_lt_pow_iff_right (by decide : 1 < 2)).mp (Nat.lt_of_le_of_lt l1 ht)
    generalize t.log2 = L at l1 l2 l3
    have f1 : 2 ^ 52 ≤ t * 2 ^ (52 - L) := by
      calc 2 ^ 52 = 2 ^ L * 2 ^ (52 - L) := by rw [← Nat.pow_add]; congr 1; omega
        _ ≤ t * 2 ^ (52 - L) := Nat.mul_le_mul_right _ l1
    have f2 : t * 2 ^ (52 - L) < 2 ^ 53 := by
      calc t * 2 ^ (52 - L) < 2 ^ (L + 1) * 2 ^ (52 - L) := Nat.mul_lt_mul_of_pos_right l2 (Nat.two_pow_pos _)
        _ = 2 ^ 53 := by rw [← Nat.pow_add]; congr 1; omega
    have e1 : FP.Core.val64 (FP.dsub d FP.dconst1) = .fin false (t * 2 ^ (52 - L)) ((L : Int) - 104) := by
      rw [hs]
      refine FP.Core.roundRatio_exact FP.Core.good_b64 (by decide) (fit64 f1 f2 (by omega) (by omega)) ?_
      rw [show ((-52 : Int) - ((L : Int) - 104)).toNat = 52 - L by omega, show ((L : Int) - 104 - -52).toNat = 0 by omega, Nat.pow_zero, Nat.mul_one, Nat.mul_one]
    have e2 : FP.Core.val64 (FP.dmul (FP.dsub d FP.dconst1) 4841369599423283200) = .fin false (t * 2 ^ (52 - L)) ((L : Int) - 52) := by
      rw [hm e1]
      refine FP.Core.roundRatio_exact FP.Core.good_b64 (by decide) (fit64 f1 f2 (by omega) (by omega)) ?_
      rw [show ((L : Int) - 104 + 0 - ((L : Int) - 52)).toNat = 0 by omega, show ((L : Int) - 52 - ((L : Int) - 104 + 0)).toNat = 52 by omega, Nat.pow_zero, Nat.mul_one, Nat.mul_one]
    refine ⟨n64_of (fin_ne e1), n64_of (fin_ne e2), hfin e2 ?_⟩
    rw [show ((L : Int) - 52).toNat = 0 by omega, show (-((L : Int) - 52)).toNat = 52 - L by omega, Nat.pow_zero, Nat.mul_one, Nat.mul_div_cancel _ (Nat.two_pow_pos _)]
theorem or_bits {E t : Nat} (hE : E < 2048) (ht : t < 2 ^ 52) {p : UInt64} (hp : p.toNat = E * 2 ^ 52 + t) : (lN E <<< ((52 : Int32).toInt64 &&& 63)) ||| lN t = p.toInt64 := by
  refine Int64.toBitVec_inj.mp ?_
  rw [Int64.toBitVec_or, Int64.toBitVec_shiftLeft]
  refine BitVec.eq_of_toNat_eq ?_
  rw [BitVec.toNat_or]
  have es : (((52 : Int32).toInt64 &&& 63).toBitVec.smod 64) = (52 : BitVec 64) := by decide
  rw [es]
  have e1 : ((lN E).toBitVec <<< (52 : BitVec 64)).toNat = E <<< 52 := by
    show ((lN E).toBitVec <<< 52).toNat = _
    rw [BitVec.toNat_shiftLeft]
    have : (lN E).toBitVec.toNat = E := by
      show E % 2 ^ 64 = E
      omega
    rw [this, Nat.shiftLeft_eq]
    omega
  have e2 : (lN t).toBitVec.toNat = t := by
    show t % 2 ^ 64 = t
    omega
  rw [e1, e2, ← Nat.shiftLeft_add_eq_or_of_lt ht, Nat.shiftLeft_eq]
  exact hp.symm
