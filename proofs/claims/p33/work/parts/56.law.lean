/-! the class's side, as proved for the whole claim -/
theorem n64_of {r : UInt64} (h : FP.Core.val64 r ≠ .nan) : n64 r = true := by
  have h1 := (FP.Core.ne_nan r).mp h
  unfold n64
  refine decide_eq_true ?_
  rw [UInt64.le_iff_toNat_le, UInt64.toNat_and]
  show r.toNat &&& (2 ^ 63 - 1) ≤ 9218868437227405312
  rw [Nat.and_two_pow_sub_one_eq_mod]
  exact h1
theorem i2d_dat {a : Nat} (ha : a ≤ 500) : ∃ c q, FP.Core.val64 (FP.i2d (nI a)) = .fin false c q ∧ a * 2 ^ (0 - q).toNat = c * 2 ^ (q - 0).toNat := by
  obtain ⟨c, q, h1, h2⟩ := FP.Core.natFit FP.Core.good_b64 FP.Core.wide_b64 false (n := a) (Nat.le_trans ha (by decide))
  refine ⟨c, q, ?_, by rw [Nat.mul_one] at h2; exact h2⟩
  show FP.Core.val64 (FP.Core.i2d (nI a)) = _
  rw [FP.Core.val64_i2d, nI_toInt (by omega)]
  have e : FP.Core.ofInt (a : Int) = .fin false a 0 := by
    show FP.Core.Datum.fin (decide ((a : Int) < 0)) (a : Int).natAbs 0 = _
    rw [decide_eq_false (by omega), Int.natAbs_natCast]
  rw [e]
  exact FP.Core.roundRatio_exact FP.Core.good_b64 (by decide) h1 h2
theorem quo_dat {a b : Nat} (ha : a ≤ 500) (hb1 : 1 ≤ b) (hb : b ≤ 500) : FP.Core.val64 (FP.ddiv (FP.i2d (nI a)) (FP.i2d (nI b))) = FP.Core.roundRatio FP.Core.b64 false a b 0 := by
  obtain ⟨c, q, h1, h2⟩ := i2d_dat ha
  obtain ⟨d, r, h3, h4⟩ := i2d_dat hb
  have hd : d ≠ 0 := fun z => by
    rw [z, Nat.zero_mul] at h4
    have := Nat.mul_pos (show 0 < b by omega) (Nat.two_pow_pos (0 - r).toNat)
    omega
  show FP.Core.val64 (FP.Core.ddiv (FP.i2d (nI a)) (FP.i2d (nI b))) = _
  rw [FP.Core.val64_ddiv, h1, h3]
  show (if d = 0 then (if c = 0 then FP.Core.Datum.nan else FP.Core.Datum.inf (false != false)) else FP.Core.roundRatio FP.Core.b64 (false != false) c d (q - r)) = _
  rw [if_neg hd]
  refine FP.Core.roundRatio_congr (by omega) (by omega) ?_
  have ee : (0 - q).toNat + (r - 0).toNat + (q - r - 0).toNat = (q - 0).toNat + (0 - r).toNat + (0 - (q - r)).toNat := by omega
  generalize (0 - q).toNat = qm at *
  generalize (q - 0).toNat = qp at *
  generalize (0 - r).toNat = rm at *
  generalize (r - 0).toNat = rp at *
  generalize (q - r - 0).toNat = s at *
  generalize (0 - (q - r)).toNat = u at *
  refine Nat.eq_of_mul_eq_mul_right (Nat.mul_pos (Nat.two_pow_pos qp) (Nat.two_pow_pos rm)) ?_
  calc c * b * 2 ^ s * (2 ^ qp * 2 ^ rm) = (c * 2 ^ qp) * (b * 2 ^ rm) * 2 ^ s := by ac_rfl
    _ = (a * 2 ^ qm) * (d * 2 ^ rp) * 2 ^ s := by rw [h2, h4]
    _ = a * d * 2 ^ (qm + rp + s) := by rw [Nat.pow_add, Nat.pow_add]; ac_rfl
    _ = a * d * 2 ^ (qp + rm + u) := by rw [ee]
    _ = a * d * 2 ^ u * (2 ^ qp * 2 ^ rm) := by rw [Nat.pow_add, Nat.pow_add]; ac_rfl
theorem log2_500 {a : Nat} (ha : a ≤ 500) : a.log2 ≤ 8 := by
  by_cases h : a = 0
  · subst h; decide
  · have := (Nat.log2_lt h (k := 9)).mpr (by omega)
    omega
theorem rr_dat {a b : Nat} (ha1 : 1 ≤ a) (ha : a ≤ 500) (hb1 : 1 ≤ b) (hb : b ≤ 500) : ∃ c q, FP.Core.roundRatio FP.Core.b64 false a b 0 = .fin false c q ∧ 2 ^ 52 ≤ c ∧ c < 2 ^ 53 ∧ -500 ≤ q ∧ q ≤ 500 := by
  have hf := FP.Core.roundRatio_fits FP.Core.good_b64 false a (B := b) (by omega) 0
  have la := log2_500 ha
  have lb := log2_500 hb
  have hl : -9 ≤ FP.Core.leading a b ∧ FP.Core.leading a b ≤ 8 := by
    unfold FP.Core.leading
    dsimp only
    split <;> omega
  have e1 : FP.Core.b64.qmin = -1074 := FP.Core.qmin_b64
  have e2 : FP.Core.b64.qmax = 971 := by decide
  have ep : (FP.Core.b64.p : Int) = 53 := by decide
  have hq : -61 ≤ FP.Core.quantum FP.Core.b64 a b 0 ∧ FP.Core.quantum FP.Core.b64 a b 0 ≤ -44 := by
    unfold FP.Core.quantum
    rw [e1, ep]
    omega
  have key : ∃ c q, FP.Core.roundRatio FP.Core.b64 false a b 0 = .fin false c q ∧ -61 ≤ q ∧ q ≤ -43 := by
    unfold FP.Core.roundRatio
    rw [if_neg (by omega)]
    unfold FP.Core.roundAt FP.Core.settle FP.Core.bound
    split
    · rw [if_pos (by omega)]
      exact ⟨_, _, rfl, by omega, by omega⟩
    · rw [if_pos (by omega)]
      exact ⟨_, _, rfl, by omega, by omega⟩
  obtain ⟨c, q, k1, k2, k3⟩ := key
  rw [k1] at hf ⊢
  obtain ⟨f1, f2, f3, f4⟩ := hf
  rcases f4 with f4 | f4
  · omega
  · rw [FP.Core.tails_b64] at f4
    exact ⟨c, q, rfl, f4, f1, by omega, by omega⟩
theorem quo_nn {a b : Nat} (ha : a ≤ 500) (hb1 : 1 ≤ b) (hb : b ≤ 500) : FP.Core.val64 (FP.ddiv (FP.i2d (nI a)) (FP.i2d (nI b))) ≠ .nan := by
  rw [quo_dat ha hb1 hb]
  by_cases h0 : a = 0
  · subst h0
    intro z
    exact FP.Core.Datum.noConfusion z
  · obtain ⟨c, q, k1, _⟩ := rr_dat (by omega) ha hb1 hb
    rw [k1]
    intro z
    exact FP.Core.Datum.noConfusion z
theorem i2d_nn {a : Nat} (ha : a ≤ 500) : FP.Core.val64 (FP.i2d (nI a)) ≠ .nan := by
  obtain ⟨c, q, h1, _⟩ := i2d_dat ha
  rw [h1]
  intro z
  exact FP.Core.Datum.noConfusion z
theorem cmp_self {x : UInt64} (h : FP.Core.val64 x ≠ .nan) : Op.cmpValue (FP.dcmp x x) .l = (0 : Int32) := by
  rw [show FP.dcmp x x = some .eq from FP.Core.dcmp_self h]
  rfl
theorem ff_ok : FF := by
  refine ⟨cmp_self ?_, fun a b ha hb1 hb => ?_⟩
  · show FP.Core.val64 FP.Core.dconst1 ≠ .nan
    rw [FP.Core.val64_dconst1]
    intro z
    exact FP.Core.Datum.noConfusion z
  · have hm : FP.dmul (FP.i2d (nI a)) FP.dconst1 = FP.i2d (nI a) := FP.Core.dmul_one (i2d_nn ha)
    rw [hm]
    exact ⟨n64_of (i2d_nn ha), rfl, n64_of (quo_nn ha hb1 hb), cmp_self (quo_nn ha hb1 hb)⟩
theorem law_good : ∀ sc : Nat × (Nat → Int32), sc.1 ≤ 260 → ∃ Z, f_L_law sc (pool0, law0) = some (1, Z) := law_good_of ff_ok
