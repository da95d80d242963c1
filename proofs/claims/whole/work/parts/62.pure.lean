/-! the text: one character on both sides -/
theorem bnd2_eta {α β : Type} (x : Option (α × β)) : (bnd2 x fun r => some (r.1, r.2)) = x := by cases x <;> rfl
theorem nx0 (v : VS) (p : Int32) : f_X3_next v (nI 0) p = f_X3_beginNumber v p := by
  unfold f_X3_next
  rw [if_pos (show nI 0 = 0 from rfl), bnd2_eta]
theorem nx1 (v : VS) (p : Int32) : f_X3_next v (nI 1) p = f_X3_inNumber v p := by
  unfold f_X3_next
  rw [if_neg (show ¬ nI 1 = 0 by decide), if_pos (show nI 1 = 1 from rfl), bnd2_eta]
theorem nx2 (v : VS) (p : Int32) : f_X3_next v (nI 2) p = f_X3_beginTimes v p := by
  unfold f_X3_next
  rw [if_neg (show ¬ nI 2 = 0 by decide), if_neg (show ¬ nI 2 = 1 by decide), if_pos (show nI 2 = 2 from rfl), bnd2_eta]
theorem nx3 (v : VS) (p : Int32) : f_X3_next v (nI 3) p = f_X3_inTimes v p := by
  unfold f_X3_next
  rw [if_neg (show ¬ nI 3 = 0 by decide), if_neg (show ¬ nI 3 = 1 by decide), if_neg (show ¬ nI 3 = 2 by decide), bnd2_eta]
theorem isd_n {c : Nat} (hc : c < 128) (h : c < 48 ∨ 57 < c) : f_X3_isDigit (nI c) = some 0 := by
  unfold f_X3_isDigit
  by_cases h1 : c < 48
  · rw [if_pos (show nI c < 48 from nI_lt (b := 48) h1 (by decide))]
  · rw [if_neg (show ¬ nI c < 48 from nI_nlt (b := 48) (by omega) (by omega)), if_pos (show 57 < nI c from nI_lt (a := 57) (by omega) (by omega))]
theorem isd_d {q : Nat} (h : q ≤ 9) : f_X3_isDigit (nI (48 + q)) = some 1 := by
  unfold f_X3_isDigit
  rw [if_neg (show ¬ nI (48 + q) < 48 from nI_nlt (b := 48) (by omega) (by omega)), if_neg (show ¬ 57 < nI (48 + q) from nI_nlt (a := 57) (by omega) (by omega))]
theorem ne_n {a b : Nat} (ha : a < 2 ^ 31) (hb : b < 2 ^ 31) (h : a ≠ b) : ¬ nI a = nI b := fun z => h (nI_inj0 ha hb z)
theorem sub48 (q : Nat) : nI (48 + q) - 48 = nI q := by
  rw [show (48 : Int32) = nI 48 from rfl, pk_sub (by omega), Nat.add_sub_cancel_left]
/-- the reference's answer 'no' at a star -/
def noR (R : RS) : RS := w7 (w7 R 7 (R.1 7 7)) 6 ((w7 R 7 (R.1 7 7)).1 7 6)
theorem noR_Fy (R : RS) : Fy R (noR R) := (Fy.w7 R (by decide) _).trans (Fy.w7 _ (by decide) _)
theorem tk44 (R : RS) : f_X7_takes R (nI 44) = (bnd2 (f_X7_isItem R) fun r => if r = 0 then some (0, R) else if (48 : Int32) ≤ R.1 7 3 + R.1 7 6 then some (0, R) else bnd2 (f_X7_endItem R) fun r => some (1, r)) := by
  unfold f_X7_takes
  rw [if_pos (show nI 44 = 44 from rfl)]
  rfl
theorem tk42 (R : RS) : f_X7_takes R (nI 42) = if R.1 7 5 ≤ 0 then some (0, noR R) else if 0 ≤ R.1 7 7 then some (0, noR R) else if (48 : Int32) < R.1 7 3 + 2 then some (0, noR R) else some (1, w7 (w7 R 7 0) 6 0) := by
  unfold f_X7_takes
  rw [if_neg (show ¬ nI 42 = 44 by decide), if_pos (show nI 42 = 42 from rfl)]
  rfl
theorem tkn {c : Nat} (R : RS) (hc : c < 128) (h44 : c ≠ 44) (h42 : c ≠ 42) (h : c < 48 ∨ 57 < c) : f_X7_takes R (nI c) = some (0, R) := by
  unfold f_X7_takes
  rw [if_neg (show ¬ nI c = 44 from ne_n (b := 44) (by omega) (by decide) h44), if_neg (show ¬ nI c = 42 from ne_n (b := 42) (by omega) (by decide) h42), wi_67]
  have e : f_X6_within (nI c) 48 57 = some 0 := by
    unfold f_X6_within
    by_cases h1 : c < 48
    · rw [if_pos (show nI c < 48 from nI_lt (b := 48) h1 (by decide))]
    · rw [if_neg (show ¬ nI c < 48 from nI_nlt (b := 48) (by omega) (by omega)), if_pos (show 57 < nI c from nI_lt (a := 57) (by omega) (by omega))]
  rw [e, pu_some, ite00]
theorem tkd {q : Nat} (R : RS) (h : q ≤ 9) : f_X7_takes R (nI (48 + q)) = if 0 ≤ R.1 7 7 then f_X7_takesCount R (nI q) else f_X7_takesDigit R (nI q) := by
  unfold f_X7_takes
  rw [if_neg (show ¬ nI (48 + q) = 44 from ne_n (b := 44) (by omega) (by decide) (by omega)), if_neg (show ¬ nI (48 + q) = 42 from ne_n (b := 42) (by omega) (by decide) (by omega)), wi_67]
  have e : f_X6_within (nI (48 + q)) 48 57 = some 1 := by
    unfold f_X6_within
    rw [if_neg (show ¬ nI (48 + q) < 48 from nI_nlt (b := 48) (by omega) (by omega)), if_neg (show ¬ 57 < nI (48 + q) from nI_nlt (a := 57) (by omega) (by omega))]
  rw [e, pu_some, ite10, sub48]
  split <;> rw [bnd2_eta]
theorem tdig {R : RS} {val d q : Nat} (h4 : R.1 7 4 = nI val) (h5 : R.1 7 5 = nI d) (hv : val ≤ 500) (hd : d < 100) (hq : q ≤ 9) : f_X7_takesDigit R (nI q) = if (d ≠ 0 ∧ val = 0) ∨ 500 < 10 * val + q then some (0, R) else some (1, w7 (w7 R 4 (nI (10 * val + q))) 5 (nI (d + 1))) := by
  have e1 : (10 : Int32) * R.1 7 4 + nI q = nI (10 * val + q) := by rw [h4, show (10 : Int32) = nI 10 from rfl, pk_mul, nI_add]
  have a14 : f_X7_takesDigit_14 R (nI q) = if 500 < 10 * val + q then some (0, R) else some (1, w7 (w7 R 4 (nI (10 * val + q))) 5 (nI (d + 1))) := by
    unfold f_X7_takesDigit_14
    rw [e1]
    by_cases c : 500 < 10 * val + q
    · rw [if_pos c, if_pos (show 500 < nI (10 * val + q) from nI_lt (a := 500) c (by omega))]
      rfl
    · rw [if_neg c, if_neg (show ¬ 500 < nI (10 * val + q) from nI_nlt (a := 500) (by omega) (by omega))]
      unfold f_X7_takesDigit_34
      rw [if_neg (show ¬ (1 : Int32) = 0 by decide), e1, pu_let, pu_let]
      have e5 : (setR R (wn R.1 7 4 (nI (10 * val + q)))).1 7 5 = nI d := (pu_wn_j R.1 7 (nI (10 * val + q)) 7 (by decide : (5 : Nat) ≠ 4)).trans h5
      rw [e5, nI_1]
      rfl
  unfold f_X7_takesDigit
  rw [h5, h4]
  by_cases c0 : d = 0
  · rw [if_pos (show nI d = 0 by rw [c0]; rfl), a14]
    by_cases c : 500 < 10 * val + q
    · rw [if_pos c, if_pos (Or.inr c)]
    · rw [if_neg c, if_neg (by omega)]
  · rw [if_neg (show ¬ nI d = 0 from ne_n (b := 0) (by omega) (by decide) c0)]
    by_cases c1 : val = 0
    · rw [if_pos (show nI val ≤ 0 by rw [c1]; decide), if_pos (Or.inl ⟨c0, c1⟩)]
      rfl
    · rw [if_neg (nI_nle (by omega) (by omega)), a14]
      by_cases c : 500 < 10 * val + q
      · rw [if_pos c, if_pos (Or.inr c)]
      · rw [if_neg c, if_neg (by omega)]
theorem tcnt {R : RS} {s t k q : Nat} (h3 : R.1 7 3 = nI s) (h6 : R.1 7 6 = nI t) (h7 : R.1 7 7 = nI k) (hs : s ≤ 48) (ht : t ≤ 48) (hk : k < 100) (hq : q ≤ 9) {n : Nat} (hn : n = if k = 0 then q else 10 * t + q) : f_X7_takesCount R (nI q) = if n = 0 ∨ (n = 1 ∧ 48 - s < 10) ∨ (n ≠ 1 ∧ 48 - s < n) then some (0, R) else some (1, w7 (w7 R 6 (nI n)) 7 (nI (k + 1))) := by
  have hn5 : n ≤ 500 := by rw [hn]; split <;> omega
  have a1 : f_X7_takesCount R (nI q) = f_X7_takesCount_28 R (nI (48 - s)) (nI n) := by
    unfold f_X7_takesCount
    rw [h3, show (48 : Int32) = nI 48 from rfl, pk_sub hs, pu_let, h7, h6]
    by_cases c : k = 0
    · rw [if_pos (show nI k = 0 by rw [c]; rfl), hn, if_pos c]
    · rw [if_neg (show ¬ nI k = 0 from ne_n (b := 0) (by omega) (by decide) c), show (10 : Int32) = nI 10 from rfl, pk_mul, nI_add, hn, if_neg c]
  have no : f_X7_takesCount_56 R (nI n) = some (0, R) := rfl
  have yes : f_X7_takesCount_52 R (nI n) = some (1, w7 (w7 R 6 (nI n)) 7 (nI (k + 1))) := by
    unfold f_X7_takesCount_52 f_X7_takesCount_57
    rw [if_neg (show ¬ (1 : Int32) = 0 by decide), pu_let, pu_let]
    have e7 : (setR R (wn R.1 7 6 (nI n))).1 7 7 = nI k := (pu_wn_j R.1 7 (nI n) 7 (by decide : (7 : Nat) ≠ 6)).trans h7
    rw [e7, nI_1]
    rfl
  rw [a1]
  unfold f_X7_takesCount_28
  by_cases c0 : n = 0
  · rw [if_pos (show nI n ≤ 0 by rw [c0]; decide), no, if_pos (Or.inl c0)]
  · rw [if_neg (nI_nle (by omega) (by omega))]
    by_cases c1 : n = 1
    · rw [if_pos (show nI n = 1 by rw [c1]; rfl)]
      by_cases c2 : 48 - s < 10
      · rw [if_pos (show nI (48 - s) < 10 from nI_lt (b := 10) c2 (by decide)), no, if_pos (Or.inr (Or.inl ⟨c1, c2⟩))]
      · rw [if_neg (show ¬ nI (48 - s) < 10 from nI_nlt (b := 10) (by omega) (by omega)), yes, if_neg (by omega)]
    · rw [if_neg (show ¬ nI n = 1 from ne_n (b := 1) (by omega) (by decide) c1)]
      by_cases c2 : 48 - s < n
      · rw [if_pos (nI_lt c2 (by omega)), no, if_pos (Or.inr (Or.inr ⟨c1, c2⟩))]
      · rw [if_neg (fun z => c2 ((nI_ltI (by omega) (by omega)).mp z)), yes, if_neg (by omega)]
theorem isItem_of {R : RS} {d : Nat} (h5 : R.1 7 5 = nI d) (hd : d < 100) : f_X7_isItem R = if d = 0 then some 0 else if R.1 7 7 < 0 then some 1 else if R.1 7 6 ≤ 1 then some 0 else some 1 := by
  unfold f_X7_isItem
  rw [h5]
  by_cases c : d = 0
  · rw [if_pos c, if_pos (show nI d ≤ 0 by rw [c]; decide)]
  · rw [if_neg c, if_neg (nI_nle (by omega) (by omega))]
def TxStp (st i : Nat) (v : VS) (R : RS) (c : Nat) : Prop :=
  (∃ v' R', f_X3_next v (nI st) (nI c) = some (4, v') ∧ f_X7_takes R (nI c) = some (0, R') ∧ Fx v v' ∧ Fy R R') ∨
  ∃ st' s' val' t' v' R', st' ≤ 3 ∧ f_X3_next v (nI st) (nI c) = some (nI st', v') ∧ f_X7_takes R (nI c) = some (1, R') ∧ Fx v v' ∧ Fy R R' ∧ Zr st' s' val' t' (i + 1) v' R'
