/-! the digest: the reference's side -/
theorem rmix (Z : VS) (h p : Int64) : f_X7_mix (Z, h) p = some (Z, 31 * h + p) := rfl
theorem dr_9 {Z : VS} {f : Nat → Int32} (hf : ∀ x, x < 8 → ∀ h, f_X7_counted (Z, h) (nI x) = some (f x)) : ∀ (d x n : Nat) (h : Int64), x + d = 8 → d < n → f_X7_digest_9 n (nI x) (Z, h) = f_X7_digest_33 fuel (nI 0) (Z, mxF f x d h) := by
  intro d
  induction d with
  | zero =>
    intro x n h hx hn
    obtain ⟨n, rfl⟩ : ∃ m, n = m + 1 := ⟨n - 1, by omega⟩
    obtain rfl : x = 8 := by omega
    rfl
  | succ d ih =>
    intro x n h hx hn
    obtain ⟨n, rfl⟩ : ∃ m, n = m + 1 := ⟨n - 1, by omega⟩
    show (if (8 : Int32) ≤ nI x then _ else _) = _
    rw [if_neg (show ¬ (8 : Int32) ≤ nI x from fun z => by have := (nI_leI (a := 8) (by omega) (by omega)).mp z; omega), hf x (by omega), pu_some, rmix, pu_some, pu_let, nI_1, ih (x + 1) n _ (by omega) (by omega), mxF_s]
theorem dr_33 {Z : VS} {f : Nat → Int32} (hf : ∀ x, x < 4 → ∀ h, f_X7_setting1 (Z, h) (nI x) = some (f x)) : ∀ (d x n : Nat) (h : Int64), x + d = 4 → d < n → f_X7_digest_33 n (nI x) (Z, h) = f_X7_digest_56 fuel (nI 0) (Z, mxF f x d h) := by
  intro d
  induction d with
  | zero =>
    intro x n h hx hn
    obtain ⟨n, rfl⟩ : ∃ m, n = m + 1 := ⟨n - 1, by omega⟩
    obtain rfl : x = 4 := by omega
    rfl
  | succ d ih =>
    intro x n h hx hn
    obtain ⟨n, rfl⟩ : ∃ m, n = m + 1 := ⟨n - 1, by omega⟩
    show (if (4 : Int32) ≤ nI x then _ else _) = _
    rw [if_neg (show ¬ (4 : Int32) ≤ nI x from fun z => by have := (nI_leI (a := 4) (by omega) (by omega)).mp z; omega), hf x (by omega), pu_some, rmix, pu_some, pu_let, nI_1, ih (x + 1) n _ (by omega) (by omega), mxF_s]
theorem dr_56 {Z : VS} {f : Nat → Int32} (hf : ∀ x, x < 8 → ∀ h, f_X7_accountNow (Z, h) (nI x) = some (f x)) : ∀ (d x n : Nat) (h : Int64), x + d = 8 → d < n → f_X7_digest_56 n (nI x) (Z, h) = bnd2 (f_X7_mixThings (Z, mxF f x d h)) fun r => f_X7_digest_84 fuel (nI 0) r := by
  intro d
  induction d with
  | zero =>
    intro x n h hx hn
    obtain ⟨n, rfl⟩ : ∃ m, n = m + 1 := ⟨n - 1, by omega⟩
    obtain rfl : x = 8 := by omega
    rfl
  | succ d ih =>
    intro x n h hx hn
    obtain ⟨n, rfl⟩ : ∃ m, n = m + 1 := ⟨n - 1, by omega⟩
    show (if (8 : Int32) ≤ nI x then _ else _) = _
    rw [if_neg (show ¬ (8 : Int32) ≤ nI x from fun z => by have := (nI_leI (a := 8) (by omega) (by omega)).mp z; omega), hf x (by omega), pu_some, rmix, pu_some, pu_let, nI_1, ih (x + 1) n _ (by omega) (by omega), mxF_s]
theorem dr_136 {Z : VS} {f : Nat → Int32} {m : Nat} (hm : m ≤ 48) (h175 : Z 0 175 = nI m) (hf : ∀ x, x < m → Z 0 (124 + x) = f x) : ∀ (d x n : Nat) (h : Int64), x + d = m → d < n → f_X7_mixThings_136 n (nI x) (Z, h) = some (Z, mxF f x d h) := by
  have hr : rd Z 0 (175 : Int32) = nI m := (pu_rd (v := Z) (k := 0) (i := 175) (by decide)).trans h175
  intro d
  induction d with
  | zero =>
    intro x n h hx hn
    obtain ⟨n, rfl⟩ : ∃ m, n = m + 1 := ⟨n - 1, by omega⟩
    show bnd (inb (nI 175) 198) (if rd Z 0 (175 : Int32) ≤ nI x then _ else _) = _
    rw [pu_inb (by decide) (by decide), pu_bnd, hr, if_pos ((nI_leI (by omega) (by omega)).mpr (by omega))]
    rfl
  | succ d ih =>
    intro x n h hx hn
    obtain ⟨n, rfl⟩ : ∃ m, n = m + 1 := ⟨n - 1, by omega⟩
    show bnd (inb (nI 175) 198) (if rd Z 0 (175 : Int32) ≤ nI x then _ else bnd (inb (nI 124 + nI x) 198) (bnd2 (f_X7_mix (Z, h) ((rd Z 0 (nI 124 + nI x)).toInt64)) fun r_5 => letv (nI x + (1 : Int32)) fun x_6 => f_X7_mixThings_136 n x_6 r_5)) = _
    rw [pu_inb (by decide) (by decide), pu_bnd, hr, if_neg (fun z => by have := (nI_leI (by omega) (by omega)).mp z; omega), nI_add, pu_inb (by omega) (by decide), pu_bnd, pu_rd (by omega), hf x (by omega), rmix, pu_some, pu_let, nI_1, ih (x + 1) n _ (by omega) (by omega), mxF_s]
theorem dr_107 {Z : VS} {f F : Nat → Int32} {m : Nat} (hm : m ≤ 48) (h175 : Z 0 175 = nI m) (hf : ∀ x, x < m → Z 0 (124 + x) = f x) (hF : ∀ i, i < 15 → ∀ h, f_X7_feederNow (Z, h) (nI (i / 5)) (nI (i % 5)) = some (F i)) : ∀ (d x n : Nat) (h : Int64), x + d = 15 → d < n → f_X7_mixThings_107 n (nI x) (Z, h) = some (Z, mxF f 0 m (mxF F x d h)) := by
  intro d
  induction d with
  | zero =>
    intro x n h hx hn
    obtain ⟨n, rfl⟩ : ∃ m, n = m + 1 := ⟨n - 1, by omega⟩
    obtain rfl : x = 15 := by omega
    show (if (15 : Int32) ≤ nI 15 then f_X7_mixThings_136 fuel (nI 0) (Z, h) else _) = _
    rw [if_pos (by decide), dr_136 hm h175 hf m 0 fuel h (by omega) (fuel_gt (by omega))]
    rfl
  | succ d ih =>
    intro x n h hx hn
    obtain ⟨n, rfl⟩ : ∃ m, n = m + 1 := ⟨n - 1, by omega⟩
    show (if (15 : Int32) ≤ nI x then _ else bnd2 (f_X7_feederNow (Z, h) (nI x / nI 5) (nI x - nI x / nI 5 * nI 5)) fun r_7 => bnd2 (f_X7_mix (Z, h) r_7.toInt64) fun r_8 => letv (nI x + (1 : Int32)) fun x_9 => f_X7_mixThings_107 n x_9 r_8) = _
    rw [if_neg (show ¬ (15 : Int32) ≤ nI x from fun z => by have := (nI_leI (a := 15) (by omega) (by omega)).mp z; omega), pk_rem (by omega) (by decide) (by decide), pk_div (by omega) (by decide) (by decide), hF x (by omega), pu_some, rmix, pu_some, pu_let, nI_1, ih (x + 1) n _ (by omega) (by omega), mxF_s F x]
theorem dr_78 {Z : VS} {f F B : Nat → Int32} {m : Nat} (hm : m ≤ 48) (h175 : Z 0 175 = nI m) (hf : ∀ x, x < m → Z 0 (124 + x) = f x) (hF : ∀ i, i < 15 → ∀ h, f_X7_feederNow (Z, h) (nI (i / 5)) (nI (i % 5)) = some (F i)) (hB : ∀ i, i < 10 → ∀ h, f_X7_batteryNow (Z, h) (nI (i / 5)) (nI (i % 5)) = some (B i)) : ∀ (d x n : Nat) (h : Int64), x + d = 10 → d < n → f_X7_mixThings_78 n (nI x) (Z, h) = some (Z, mxF f 0 m (mxF F 0 15 (mxF B x d h))) := by
  intro d
  induction d with
  | zero =>
    intro x n h hx hn
    obtain ⟨n, rfl⟩ : ∃ m, n = m + 1 := ⟨n - 1, by omega⟩
    obtain rfl : x = 10 := by omega
    show (if (10 : Int32) ≤ nI 10 then f_X7_mixThings_107 fuel (nI 0) (Z, h) else _) = _
    rw [if_pos (by decide), dr_107 hm h175 hf hF 15 0 fuel h (by omega) (fuel_gt (by omega))]
    rfl
  | succ d ih =>
    intro x n h hx hn
    obtain ⟨n, rfl⟩ : ∃ m, n = m + 1 := ⟨n - 1, by omega⟩
    show (if (10 : Int32) ≤ nI x then _ else bnd2 (f_X7_batteryNow (Z, h) (nI x / nI 5) (nI x - nI x / nI 5 * nI 5)) fun r_7 => bnd2 (f_X7_mix (Z, h) r_7.toInt64) fun r_8 => letv (nI x + (1 : Int32)) fun x_9 => f_X7_mixThings_78 n x_9 r_8) = _
    rw [if_neg (show ¬ (10 : Int32) ≤ nI x from fun z => by have := (nI_leI (a := 10) (by omega) (by omega)).mp z; omega), pk_rem (by omega) (by decide) (by decide), pk_div (by omega) (by decide) (by decide), hB x (by omega), pu_some, rmix, pu_some, pu_let, nI_1, ih (x + 1) n _ (by omega) (by omega), mxF_s B x]
theorem dr_42 {Z : VS} {f F B G' : Nat → Int32} {m L : Nat} (hm : m ≤ 48) (h175 : Z 0 175 = nI m) (hf : ∀ x, x < m → Z 0 (124 + x) = f x) (hF : ∀ i, i < 15 → ∀ h, f_X7_feederNow (Z, h) (nI (i / 5)) (nI (i % 5)) = some (F i)) (hB : ∀ i, i < 10 → ∀ h, f_X7_batteryNow (Z, h) (nI (i / 5)) (nI (i % 5)) = some (B i)) (hL : L ≤ 12) (h173 : Z 0 173 = nI L) (hG : ∀ i, i < 3 * L → Z 0 (80 + i) = G' i) : ∀ (d x n : Nat) (h : Int64), x + d = 3 * L → d < n → f_X7_mixThings_42 n (nI x) (Z, h) = some (Z, mxF f 0 m (mxF F 0 15 (mxF B 0 10 (mxF G' x d h)))) := by
  have hr : rd Z 0 (173 : Int32) = nI L := (pu_rd (v := Z) (k := 0) (i := 173) (by decide)).trans h173
  intro d
  induction d with
  | zero =>
    intro x n h hx hn
    obtain ⟨n, rfl⟩ : ∃ m, n = m + 1 := ⟨n - 1, by omega⟩
    show bnd (inb (nI 173) 198) (if nI 3 * rd Z 0 (173 : Int32) ≤ nI x then f_X7_mixThings_78 fuel (nI 0) (Z, h) else _) = _
    rw [pu_inb (by decide) (by decide), pu_bnd, hr, pk_mul, if_pos ((nI_leI (by omega) (by omega)).mpr (by omega)), dr_78 hm h175 hf hF hB 10 0 fuel h (by omega) (fuel_gt (by omega))]
    rfl
  | succ d ih =>
    intro x n h hx hn
    obtain ⟨n, rfl⟩ : ∃ m, n = m + 1 := ⟨n - 1, by omega⟩
    show bnd (inb (nI 173) 198) (if nI 3 * rd Z 0 (173 : Int32) ≤ nI x then _ else bnd (inb (nI 80 + nI x) 198) (bnd2 (f_X7_mix (Z, h) ((rd Z 0 (nI 80 + nI x)).toInt64)) fun r_5 => letv (nI x + (1 : Int32)) fun x_6 => f_X7_mixThings_42 n x_6 r_5)) = _
    rw [pu_inb (by decide) (by decide), pu_bnd, hr, pk_mul, if_neg (fun z => by have := (nI_leI (by omega) (by omega)).mp z; omega), nI_add, pu_inb (by omega) (by decide), pu_bnd, pu_rd (by omega), hG x (by omega), rmix, pu_some, pu_let, nI_1, ih (x + 1) n _ (by omega) (by omega), mxF_s G' x]
theorem dr_2 {Z : VS} {f F B G' H : Nat → Int32} {m L N : Nat} (hm : m ≤ 48) (h175 : Z 0 175 = nI m) (hf : ∀ x, x < m → Z 0 (124 + x) = f x) (hF : ∀ i, i < 15 → ∀ h, f_X7_feederNow (Z, h) (nI (i / 5)) (nI (i % 5)) = some (F i)) (hB : ∀ i, i < 10 → ∀ h, f_X7_batteryNow (Z, h) (nI (i / 5)) (nI (i % 5)) = some (B i)) (hL : L ≤ 12) (h173 : Z 0 173 = nI L) (hG : ∀ i, i < 3 * L → Z 0 (80 + i) = G' i) (hN : N ≤ 10) (h172 : Z 0 172 = nI N) (hH : ∀ i, i < 11 * N → ∀ h, f_X7_houseNow (Z, h) (nI (i / 11)) (nI (i % 11)) = some (H i)) : ∀ (d x n : Nat) (h : Int64), x + d = 11 * N → d < n → f_X7_mixThings_2 n (nI x) (Z, h) = some (Z, mxF f 0 m (mxF F 0 15 (mxF B 0 10 (mxF G' 0 (3 * L) (mxF H x d h))))) := by
  have hr : rd Z 0 (172 : Int32) = nI N := (pu_rd (v := Z) (k := 0) (i := 172) (by decide)).trans h172
  intro d
  induction d with
  | zero =>
    intro x n h hx hn
    obtain ⟨n, rfl⟩ : ∃ m, n = m + 1 := ⟨n - 1, by omega⟩
    show bnd (inb (nI 172) 198) (if nI 11 * rd Z 0 (172 : Int32) ≤ nI x then f_X7_mixThings_42 fuel (nI 0) (Z, h) else _) = _
    rw [pu_inb (by decide) (by decide), pu_bnd, hr, pk_mul, if_pos ((nI_leI (by omega) (by omega)).mpr (by omega)), dr_42 hm h175 hf hF hB hL h173 hG (3 * L) 0 fuel h (by omega) (fuel_gt (by omega))]
    rfl
  | succ d ih =>
    intro x n h hx hn
    obtain ⟨n, rfl⟩ : ∃ m, n = m + 1 := ⟨n - 1, by omega⟩
    show bnd (inb (nI 172) 198) (if nI 11 * rd Z 0 (172 : Int32) ≤ nI x then _ else bnd2 (f_X7_houseNow (Z, h) (nI x / nI 11) (nI x - nI x / nI 11 * nI 11)) fun r_16 => bnd2 (f_X7_mix (Z, h) r_16.toInt64) fun r_17 => letv (nI x + (1 : Int32)) fun x_18 => f_X7_mixThings_2 n x_18 r_17) = _
    rw [pu_inb (by decide) (by decide), pu_bnd, hr, pk_mul, if_neg (fun z => by have := (nI_leI (by omega) (by omega)).mp z; omega), pk_rem (by omega) (by decide) (by decide), pk_div (by omega) (by decide) (by decide), hH x (by omega), pu_some, rmix, pu_some, pu_let, nI_1, ih (x + 1) n _ (by omega) (by omega), mxF_s H x]
theorem dr_129 {Z : VS} {f : Nat → Int32} {m : Nat} (hm : m ≤ 60) (h72 : Z 7 2 = nI m) (hf : ∀ x, x < m → Z 4 x = f x) : ∀ (d x n : Nat) (h : Int64), x + d = m → d < n → f_X7_digest_129 n (nI x) (Z, h) = some (mxF f x d h, (Z, mxF f x d h)) := by
  intro d
  induction d with
  | zero =>
    intro x n h hx hn
    obtain ⟨n, rfl⟩ : ∃ m, n = m + 1 := ⟨n - 1, by omega⟩
    show (if Z 7 2 ≤ nI x then _ else _) = _
    rw [h72, if_pos ((nI_leI (by omega) (by omega)).mpr (by omega))]
    rfl
  | succ d ih =>
    intro x n h hx hn
    obtain ⟨n, rfl⟩ : ∃ m, n = m + 1 := ⟨n - 1, by omega⟩
    show (if Z 7 2 ≤ nI x then _ else bnd (inb (nI x) 60) (bnd2 (f_X7_mix (Z, h) ((rd Z 4 (nI x)).toInt64)) fun r_8 => letv (nI x + (1 : Int32)) fun x_9 => f_X7_digest_129 n x_9 r_8)) = _
    rw [h72, if_neg (fun z => by have := (nI_leI (by omega) (by omega)).mp z; omega), pu_inb (by omega) (by decide), pu_bnd, pu_rd (by omega), hf x (by omega), rmix, pu_some, pu_let, nI_1, ih (x + 1) n _ (by omega) (by omega), mxF_s]
/-- as before where it matters, the hash aside -/
def Bk (R Q : RS) : Prop := Fs R Q ∧ ∀ i, i < 195 → Q.1 0 i = R.1 0 i
theorem dr_84 {c t : Nat} {w : VS} {R : RS} (hk : HK c t w (R.1 0)) (ht : t + 24 < 2 ^ 29) : ∀ (d x n : Nat) (Q : RS), x + d = 5 → d < n → Bk R Q → ∃ n' Q', f_X7_digest_84 n (nI x) Q = f_X7_digest_84 (n' + 1) (nI 5) Q' ∧ Bk R Q' ∧ Q'.2 = mxF (fun k => ahV k w (PHn 24 w)) x d Q.2 := by
  intro d
  induction d with
  | zero =>
    intro x n Q hx hn hb
    obtain ⟨n, rfl⟩ : ∃ m, n = m + 1 := ⟨n - 1, by omega⟩
    obtain rfl : x = 5 := by omega
    exact ⟨n, Q, rfl, hb, rfl⟩
  | succ d ih =>
    intro x n Q hx hn hb
    obtain ⟨n, rfl⟩ : ∃ m, n = m + 1 := ⟨n - 1, by omega⟩
    have hq : HK c t w (Q.1 0) := HK_to hk (fun _ _ _ => rfl) hb.2
    obtain ⟨Q1, a1, a2⟩ := sr_ahead (a := 24) (k := x) hq (by decide) ht (by omega)
    obtain ⟨n', Q', b1, b2, b3⟩ := ih (x + 1) n (Q1.1, 31 * Q1.2 + (ahV x w (PHn 24 w)).toInt64) (by omega) (by omega) ⟨hb.1.trans a2.1, fun i hi => (a2.2.2 i hi).trans (hb.2 i hi)⟩
    refine ⟨n', Q', ?_, b2, ?_⟩
    · rw [← b1]
      show (if (5 : Int32) ≤ nI x then _ else bnd2 (f_X7_ahead Q (nI 24) (nI x)) fun r_10 => bnd2 (f_X7_mix r_10.2 r_10.1.toInt64) fun r_11 => letv (nI x + (1 : Int32)) fun x_12 => f_X7_digest_84 n x_12 r_11) = _
      rw [if_neg (show ¬ (5 : Int32) ≤ nI x from fun z => by have := (nI_leI (a := 5) (by omega) (by omega)).mp z; omega), a1, pu_some]
      show (bnd2 (f_X7_mix (Q1.1, Q1.2) (ahV x w (PHn 24 w)).toInt64) fun r_11 => letv (nI x + (1 : Int32)) fun x_12 => f_X7_digest_84 n x_12 r_11) = _
      rw [rmix, pu_some, pu_let, nI_1]
    · rw [b3, mxF_s]
      show mxF _ (x + 1) d (31 * Q1.2 + (ahV x w (PHn 24 w)).toInt64) = _
      rw [a2.2.1]
