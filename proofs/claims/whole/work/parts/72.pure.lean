/-! the digest: folding numbers in -/
def gd (o : Option Int32) : Int32 := o.getD 0
def mxF (f : Nat → Int32) : Nat → Nat → Int64 → Int64
  | _, 0, h => h
  | i, d + 1, h => mxF f (i + 1) d (31 * h + (f i).toInt64)
theorem mxF_add (f : Nat → Int32) : ∀ (d i e : Nat) (h : Int64), mxF f i (d + e) h = mxF f (i + d) e (mxF f i d h) := by
  intro d
  induction d with
  | zero => intro i e h; rw [Nat.zero_add, Nat.add_zero]; rfl
  | succ d ih =>
    intro i e h
    rw [show d + 1 + e = d + e + 1 by omega]
    show mxF f (i + 1) (d + e) _ = mxF f (i + (d + 1)) e (mxF f (i + 1) d _)
    rw [ih, show i + 1 + d = i + (d + 1) by omega]
theorem mix_some (a b : Int64) : f_X6_mix a b = some (31 * a + b) := rfl
theorem mxF_s (f : Nat → Int32) (i d : Nat) (h : Int64) : mxF f i (d + 1) h = mxF f (i + 1) d (31 * h + (f i).toInt64) := rfl
theorem dp_60 {S : PS} {f : Nat → Int32} (hf : ∀ x, x < 8 → f_X6_account S (nI x) = some (f x)) : ∀ (d x n : Nat) (h : Int64), x + d = 8 → d < n → f_X6_mixTotals_60 S n h (nI x) = some (mxF f x d h) := by
  intro d
  induction d with
  | zero =>
    intro x n h hx hn
    obtain ⟨n, rfl⟩ : ∃ m, n = m + 1 := ⟨n - 1, by omega⟩
    obtain rfl : x = 8 := by omega
    rfl
  | succ d ih =>
    intro x n h hx hn
    obtain ⟨n, rfl⟩ : ∃ m, n = m + 1 := ⟨n - 1, by omega⟩
    show (if (8 : Int32) ≤ nI x then _ else _) = _
    rw [if_neg (show ¬ (8 : Int32) ≤ nI x from fun z => by have := (nI_leI (a := 8) (by omega) (by omega)).mp z; omega), hf x (by omega), pu_some, mix_some, pu_some, pu_let, nI_1, ih (x + 1) n _ (by omega) (by omega), mxF_s]
theorem dp_33 {S : PS} {f g : Nat → Int32} (hg : ∀ x, x < 4 → f_X6_setting S (nI x) = some (g x)) (hf : ∀ x, x < 8 → f_X6_account S (nI x) = some (f x)) : ∀ (d x n : Nat) (h : Int64), x + d = 4 → d < n → f_X6_mixTotals_33 S n h (nI x) = some (mxF f 0 8 (mxF g x d h)) := by
  intro d
  induction d with
  | zero =>
    intro x n h hx hn
    obtain ⟨n, rfl⟩ : ∃ m, n = m + 1 := ⟨n - 1, by omega⟩
    obtain rfl : x = 4 := by omega
    show (if (4 : Int32) ≤ nI 4 then f_X6_mixTotals_60 S fuel h (nI 0) else _) = _
    rw [if_pos (by decide), dp_60 hf 8 0 fuel h (by omega) (fuel_gt (by omega))]
    rfl
  | succ d ih =>
    intro x n h hx hn
    obtain ⟨n, rfl⟩ : ∃ m, n = m + 1 := ⟨n - 1, by omega⟩
    show (if (4 : Int32) ≤ nI x then _ else _) = _
    rw [if_neg (show ¬ (4 : Int32) ≤ nI x from fun z => by have := (nI_leI (a := 4) (by omega) (by omega)).mp z; omega), hg x (by omega), pu_some, mix_some, pu_some, pu_let, nI_1, ih (x + 1) n _ (by omega) (by omega), mxF_s g x]
theorem dp_5 {S : PS} {f g k : Nat → Int32} (hk : ∀ x, x < 8 → f_X6_count S (nI x) = some (k x)) (hg : ∀ x, x < 4 → f_X6_setting S (nI x) = some (g x)) (hf : ∀ x, x < 8 → f_X6_account S (nI x) = some (f x)) : ∀ (d x n : Nat) (h : Int64), x + d = 8 → d < n → f_X6_mixTotals_5 S n h (nI x) = some (mxF f 0 8 (mxF g 0 4 (mxF k x d h))) := by
  intro d
  induction d with
  | zero =>
    intro x n h hx hn
    obtain ⟨n, rfl⟩ : ∃ m, n = m + 1 := ⟨n - 1, by omega⟩
    obtain rfl : x = 8 := by omega
    show (if (7 : Int32) < nI 8 then f_X6_mixTotals_33 S fuel h (nI 0) else _) = _
    rw [if_pos (by decide), dp_33 hg hf 4 0 fuel h (by omega) (fuel_gt (by omega))]
    rfl
  | succ d ih =>
    intro x n h hx hn
    obtain ⟨n, rfl⟩ : ∃ m, n = m + 1 := ⟨n - 1, by omega⟩
    show (if (7 : Int32) < nI x then _ else _) = _
    rw [if_neg (show ¬ (7 : Int32) < nI x from nI_nlt (a := 7) (by omega) (by omega)), hk x (by omega), pu_some, mix_some, pu_some, pu_let, nI_1, ih (x + 1) n _ (by omega) (by omega), mxF_s k x]
theorem dp_h23 {S : PS} {K : Int64 → Int32 → Option Int64} {F : Nat → Int32} {a : Nat} (hF : ∀ b, b < 11 → f_X6_house S (nI a) (nI b) = some (F (11 * a + b))) : ∀ (d b n : Nat) (h : Int64), b + d = 11 → d < n → f_X6_mixHouses_23 K S (nI a) n h (nI b) = K (mxF F (11 * a + b) d h) (nI (a + 1)) := by
  intro d
  induction d with
  | zero =>
    intro b n h hb hn
    obtain ⟨n, rfl⟩ : ∃ m, n = m + 1 := ⟨n - 1, by omega⟩
    obtain rfl : b = 11 := by omega
    show (if (10 : Int32) < nI 11 then _ else _) = _
    rw [if_pos (by decide), pu_let, nI_1]
    rfl
  | succ d ih =>
    intro b n h hb hn
    obtain ⟨n, rfl⟩ : ∃ m, n = m + 1 := ⟨n - 1, by omega⟩
    show (if (10 : Int32) < nI b then _ else _) = _
    rw [if_neg (show ¬ (10 : Int32) < nI b from nI_nlt (a := 10) (by omega) (by omega)), hF b (by omega), pu_some, mix_some, pu_some, pu_let, nI_1, ih (b + 1) n _ (by omega) (by omega), mxF_s]
    rfl
theorem dp_h5 {S : PS} {F : Nat → Int32} {m : Nat} (hm : m ≤ 12) (h22 : S.1 0 22 0 = nI m) (hF : ∀ a b, a < m → b < 11 → f_X6_house S (nI a) (nI b) = some (F (11 * a + b))) : ∀ (d a n : Nat) (h : Int64), a + d = m → d < n → f_X6_mixHouses_5 S n h (nI a) = some (mxF F (11 * a) (11 * d) h) := by
  intro d
  induction d with
  | zero =>
    intro a n h ha hn
    obtain ⟨n, rfl⟩ : ∃ m, n = m + 1 := ⟨n - 1, by omega⟩
    show (if S.1 0 22 0 ≤ nI a then _ else _) = _
    rw [h22, if_pos ((nI_leI (by omega) (by omega)).mpr (by omega))]
    rfl
  | succ d ih =>
    intro a n h ha hn
    obtain ⟨n, rfl⟩ : ∃ m, n = m + 1 := ⟨n - 1, by omega⟩
    show (if S.1 0 22 0 ≤ nI a then _ else f_X6_mixHouses_23 (f_X6_mixHouses_5 S n) S (nI a) fuel h (nI 0)) = _
    rw [h22, if_neg (fun z => by have := (nI_leI (by omega) (by omega)).mp z; omega), dp_h23 (F := F) (fun b hb => hF a b (by omega) hb) 11 0 fuel h (by omega) (fuel_gt (by omega)), ih (a + 1) n _ (by omega) (by omega), show 11 * (d + 1) = 11 + 11 * d by omega, mxF_add, Nat.add_zero, show 11 * (a + 1) = 11 * a + 11 by omega]
    rfl
theorem dp_l23 {S : PS} {K : Int64 → Int32 → Option Int64} {F : Nat → Int32} {a : Nat} (hF : ∀ b, b < 3 → f_X6_loan S (nI a) (nI b) = some (F (3 * a + b))) : ∀ (d b n : Nat) (h : Int64), b + d = 3 → d < n → f_X6_mixLoans_23 K S (nI a) n h (nI b) = K (mxF F (3 * a + b) d h) (nI (a + 1)) := by
  intro d
  induction d with
  | zero =>
    intro b n h hb hn
    obtain ⟨n, rfl⟩ : ∃ m, n = m + 1 := ⟨n - 1, by omega⟩
    obtain rfl : b = 3 := by omega
    show (if (2 : Int32) < nI 3 then _ else _) = _
    rw [if_pos (by decide), pu_let, nI_1]
    rfl
  | succ d ih =>
    intro b n h hb hn
    obtain ⟨n, rfl⟩ : ∃ m, n = m + 1 := ⟨n - 1, by omega⟩
    show (if (2 : Int32) < nI b then _ else _) = _
    rw [if_neg (show ¬ (2 : Int32) < nI b from nI_nlt (a := 2) (by omega) (by omega)), hF b (by omega), pu_some, mix_some, pu_some, pu_let, nI_1, ih (b + 1) n _ (by omega) (by omega), mxF_s]
    rfl
theorem dp_l5 {S : PS} {F : Nat → Int32} {m : Nat} (hm : m ≤ 12) (h22 : S.1 0 22 1 = nI m) (hF : ∀ a b, a < m → b < 3 → f_X6_loan S (nI a) (nI b) = some (F (3 * a + b))) : ∀ (d a n : Nat) (h : Int64), a + d = m → d < n → f_X6_mixLoans_5 S n h (nI a) = some (mxF F (3 * a) (3 * d) h) := by
  intro d
  induction d with
  | zero =>
    intro a n h ha hn
    obtain ⟨n, rfl⟩ : ∃ m, n = m + 1 := ⟨n - 1, by omega⟩
    show (if S.1 0 22 1 ≤ nI a then _ else _) = _
    rw [h22, if_pos ((nI_leI (by omega) (by omega)).mpr (by omega))]
    rfl
  | succ d ih =>
    intro a n h ha hn
    obtain ⟨n, rfl⟩ : ∃ m, n = m + 1 := ⟨n - 1, by omega⟩
    show (if S.1 0 22 1 ≤ nI a then _ else f_X6_mixLoans_23 (f_X6_mixLoans_5 S n) S (nI a) fuel h (nI 0)) = _
    rw [h22, if_neg (fun z => by have := (nI_leI (by omega) (by omega)).mp z; omega), dp_l23 (F := F) (fun b hb => hF a b (by omega) hb) 3 0 fuel h (by omega) (fuel_gt (by omega)), ih (a + 1) n _ (by omega) (by omega), show 3 * (d + 1) = 3 + 3 * d by omega, mxF_add, Nat.add_zero, show 3 * (a + 1) = 3 * a + 3 by omega]
    rfl
theorem dp_93 {S : PS} {f : Nat → Int32} {m : Nat} (hm : m ≤ 48) (h22 : S.1 0 22 2 = nI m) (hf : ∀ x, x < m → f_X6_supply S (nI x) = some (f x)) : ∀ (d x n : Nat) (h : Int64), x + d = m → d < n → f_X6_mixPlant_93 S n h (nI x) = some (mxF f x d h) := by
  intro d
  induction d with
  | zero =>
    intro x n h hx hn
    obtain ⟨n, rfl⟩ : ∃ m, n = m + 1 := ⟨n - 1, by omega⟩
    show (if S.1 0 22 2 ≤ nI x then _ else _) = _
    rw [h22, if_pos ((nI_leI (by omega) (by omega)).mpr (by omega))]
    rfl
  | succ d ih =>
    intro x n h hx hn
    obtain ⟨n, rfl⟩ : ∃ m, n = m + 1 := ⟨n - 1, by omega⟩
    show (if S.1 0 22 2 ≤ nI x then _ else _) = _
    rw [h22, if_neg (fun z => by have := (nI_leI (by omega) (by omega)).mp z; omega), hf x (by omega), pu_some, mix_some, pu_some, pu_let, nI_1, ih (x + 1) n _ (by omega) (by omega), mxF_s]
theorem dp_58 {S : PS} {K : Int64 → Int32 → Option Int64} {F : Nat → Int32} {a : Nat} (hF : ∀ b, b < 5 → f_X6_feeder S (nI a) (nI b) = some (F (5 * a + b))) : ∀ (d b n : Nat) (h : Int64), b + d = 5 → d < n → f_X6_mixPlant_58 K S (nI a) n h (nI b) = K (mxF F (5 * a + b) d h) (nI (a + 1)) := by
  intro d
  induction d with
  | zero =>
    intro b n h hb hn
    obtain ⟨n, rfl⟩ : ∃ m, n = m + 1 := ⟨n - 1, by omega⟩
    obtain rfl : b = 5 := by omega
    show (if (4 : Int32) < nI 5 then _ else _) = _
    rw [if_pos (by decide), pu_let, nI_1]
    rfl
  | succ d ih =>
    intro b n h hb hn
    obtain ⟨n, rfl⟩ : ∃ m, n = m + 1 := ⟨n - 1, by omega⟩
    show (if (4 : Int32) < nI b then _ else _) = _
    rw [if_neg (show ¬ (4 : Int32) < nI b from nI_nlt (a := 4) (by omega) (by omega)), hF b (by omega), pu_some, mix_some, pu_some, pu_let, nI_1, ih (b + 1) n _ (by omega) (by omega), mxF_s]
    rfl
theorem dp_49 {S : PS} {F f : Nat → Int32} {m : Nat} (hm : m ≤ 48) (h22 : S.1 0 22 2 = nI m) (hf : ∀ x, x < m → f_X6_supply S (nI x) = some (f x)) (hF : ∀ a b, a < 3 → b < 5 → f_X6_feeder S (nI a) (nI b) = some (F (5 * a + b))) : ∀ (d a n : Nat) (h : Int64), a + d = 3 → d < n → f_X6_mixPlant_49 S n h (nI a) = some (mxF f 0 m (mxF F (5 * a) (5 * d) h)) := by
  intro d
  induction d with
  | zero =>
    intro a n h ha hn
    obtain ⟨n, rfl⟩ : ∃ m, n = m + 1 := ⟨n - 1, by omega⟩
    obtain rfl : a = 3 := by omega
    show (if (3 : Int32) ≤ nI 3 then f_X6_mixPlant_93 S fuel h (nI 0) else _) = _
    rw [if_pos (by decide), dp_93 hm h22 hf m 0 fuel h (by omega) (fuel_gt (by omega))]
    rfl
  | succ d ih =>
    intro a n h ha hn
    obtain ⟨n, rfl⟩ : ∃ m, n = m + 1 := ⟨n - 1, by omega⟩
    show (if (3 : Int32) ≤ nI a then _ else f_X6_mixPlant_58 (f_X6_mixPlant_49 S n) S (nI a) fuel h (nI 0)) = _
    rw [if_neg (show ¬ (3 : Int32) ≤ nI a from fun z => by have := (nI_leI (a := 3) (by omega) (by omega)).mp z; omega), dp_58 (F := F) (fun b hb => hF a b (by omega) hb) 5 0 fuel h (by omega) (fuel_gt (by omega)), ih (a + 1) n _ (by omega) (by omega), show 5 * (d + 1) = 5 + 5 * d by omega, mxF_add F 5, Nat.add_zero, show 5 * (a + 1) = 5 * a + 5 by omega]
    rfl
theorem dp_14 {S : PS} {K : Int64 → Int32 → Option Int64} {F : Nat → Int32} {a : Nat} (hF : ∀ b, b < 5 → f_X6_battery S (nI a) (nI b) = some (F (5 * a + b))) : ∀ (d b n : Nat) (h : Int64), b + d = 5 → d < n → f_X6_mixPlant_14 K S (nI a) n h (nI b) = K (mxF F (5 * a + b) d h) (nI (a + 1)) := by
  intro d
  induction d with
  | zero =>
    intro b n h hb hn
    obtain ⟨n, rfl⟩ : ∃ m, n = m + 1 := ⟨n - 1, by omega⟩
    obtain rfl : b = 5 := by omega
    show (if (4 : Int32) < nI 5 then _ else _) = _
    rw [if_pos (by decide), pu_let, nI_1]
    rfl
  | succ d ih =>
    intro b n h hb hn
    obtain ⟨n, rfl⟩ : ∃ m, n = m + 1 := ⟨n - 1, by omega⟩
    show (if (4 : Int32) < nI b then _ else _) = _
    rw [if_neg (show ¬ (4 : Int32) < nI b from nI_nlt (a := 4) (by omega) (by omega)), hF b (by omega), pu_some, mix_some, pu_some, pu_let, nI_1, ih (b + 1) n _ (by omega) (by omega), mxF_s]
    rfl
theorem dp_p5 {S : PS} {B F f : Nat → Int32} {m : Nat} (hm : m ≤ 48) (h22 : S.1 0 22 2 = nI m) (hf : ∀ x, x < m → f_X6_supply S (nI x) = some (f x)) (hF : ∀ a b, a < 3 → b < 5 → f_X6_feeder S (nI a) (nI b) = some (F (5 * a + b))) (hB : ∀ a b, a < 2 → b < 5 → f_X6_battery S (nI a) (nI b) = some (B (5 * a + b))) : ∀ (d a n : Nat) (h : Int64), a + d = 2 → d < n → f_X6_mixPlant_5 S n h (nI a) = some (mxF f 0 m (mxF F 0 15 (mxF B (5 * a) (5 * d) h))) := by
  intro d
  induction d with
  | zero =>
    intro a n h ha hn
    obtain ⟨n, rfl⟩ : ∃ m, n = m + 1 := ⟨n - 1, by omega⟩
    obtain rfl : a = 2 := by omega
    show (if (2 : Int32) ≤ nI 2 then f_X6_mixPlant_49 S fuel h (nI 0) else _) = _
    rw [if_pos (by decide), dp_49 hm h22 hf hF 3 0 fuel h (by omega) (fuel_gt (by omega))]
    rfl
  | succ d ih =>
    intro a n h ha hn
    obtain ⟨n, rfl⟩ : ∃ m, n = m + 1 := ⟨n - 1, by omega⟩
    show (if (2 : Int32) ≤ nI a then _ else f_X6_mixPlant_14 (f_X6_mixPlant_5 S n) S (nI a) fuel h (nI 0)) = _
    rw [if_neg (show ¬ (2 : Int32) ≤ nI a from fun z => by have := (nI_leI (a := 2) (by omega) (by omega)).mp z; omega), dp_14 (F := B) (fun b hb => hB a b (by omega) hb) 5 0 fuel h (by omega) (fuel_gt (by omega)), ih (a + 1) n _ (by omega) (by omega), show 5 * (d + 1) = 5 + 5 * d by omega, mxF_add B 5, Nat.add_zero, show 5 * (a + 1) = 5 * a + 5 by omega]
    rfl
theorem dp_25 {S : PS} {f : Nat → Int32} (hf : ∀ x, x < 5 → f_X6_seenAhead S (nI x) = some (f x)) : ∀ (d x n : Nat) (h : Int64), x + d = 5 → d < n → f_X6_mixAhead_25 S n h (nI x) = some (mxF f x d h, S) := by
  intro d
  induction d with
  | zero =>
    intro x n h hx hn
    obtain ⟨n, rfl⟩ : ∃ m, n = m + 1 := ⟨n - 1, by omega⟩
    obtain rfl : x = 5 := by omega
    rfl
  | succ d ih =>
    intro x n h hx hn
    obtain ⟨n, rfl⟩ : ∃ m, n = m + 1 := ⟨n - 1, by omega⟩
    show (if (4 : Int32) < nI x then _ else _) = _
    rw [if_neg (show ¬ (4 : Int32) < nI x from nI_nlt (a := 4) (by omega) (by omega)), hf x (by omega), pu_some, mix_some, pu_some, pu_let, nI_1, ih (x + 1) n _ (by omega) (by omega), mxF_s]
theorem dp_16 {S : PS} {f : Nat → Int32} {m : Nat} (hm : m ≤ 60) (h20 : S.1 12 2 0 = nI m) (hf : ∀ x, x < m → S.1 12 0 x = f x) : ∀ (d x n : Nat) (h : Int64), x + d = m → d < n → f_X6_mixText_16 S n h (nI x) = some (mxF f x d h) := by
  intro d
  induction d with
  | zero =>
    intro x n h hx hn
    obtain ⟨n, rfl⟩ : ∃ m, n = m + 1 := ⟨n - 1, by omega⟩
    show (if S.1 12 2 0 ≤ nI x then _ else _) = _
    rw [h20, if_pos ((nI_leI (by omega) (by omega)).mpr (by omega))]
    rfl
  | succ d ih =>
    intro x n h hx hn
    obtain ⟨n, rfl⟩ : ∃ m, n = m + 1 := ⟨n - 1, by omega⟩
    show (if S.1 12 2 0 ≤ nI x then _ else _) = _
    rw [h20, if_neg (fun z => by have := (nI_leI (by omega) (by omega)).mp z; omega), pu_inb (by omega) (by decide), pu_bnd, pu_rd (by omega), hf x (by omega), mix_some, pu_some, pu_let, nI_1, ih (x + 1) n _ (by omega) (by omega), mxF_s]
