/-! the bits of a number -/
theorem n64_of {r : UInt64} (h : FP.Core.val64 r ≠ .nan) : n64 r = true := by
  have h1 := (FP.Core.ne_nan r).mp h
  unfold n64
  refine decide_eq_true ?_
  rw [UInt64.le_iff_toNat_le, UInt64.toNat_and]
  show r.toNat &&& (2 ^ 63 - 1) ≤ 9218868437227405312
  rw [Nat.and_two_pow_sub_one_eq_mod]
  exact h1
theorem fin_ne {r : UInt64} {s : Bool} {c : Nat} {q : Int} (h : FP.Core.val64 r = .fin s c q) : FP.Core.val64 r ≠ .nan := by
  rw [h]
  exact fun z => FP.Core.Datum.noConfusion z
theorem v64_two : FP.Core.val64 (4611686018427387904 : UInt64) = .fin false (2 ^ 52) (-51) := by decide +kernel
theorem v64_big : FP.Core.val64 (4841369599423283200 : UInt64) = .fin false (2 ^ 52) 0 := by decide +kernel
theorem fit64 {c : Nat} {q : Int} (h1 : 2 ^ 52 ≤ c) (h2 : c < 2 ^ 53) (h3 : -1074 ≤ q) (h4 : q ≤ 900) : FP.Core.fits FP.Core.b64 (.fin false c q) := by
  have e1 : FP.Core.b64.qmin = -1074 := FP.Core.qmin_b64
  have e2 : FP.Core.b64.qmax = 971 := by decide
  refine ⟨h2, by omega, by omega, Or.inr ?_⟩
  rw [FP.Core.tails_b64]
  exact h1
