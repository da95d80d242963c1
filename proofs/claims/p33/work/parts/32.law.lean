/-! the class's side, as proved for the whole claim -/
theorem GN.mono {c t c' t' : Nat} {v : VS} (h : GN c t v) (hc : c ≤ c') (ht : t ≤ t') : GN c' t' v := ⟨fun j hj => by have := h.1 j hj; omega, by have := h.2; omega⟩
theorem setV_ne (S : PS) {i j : Nat} (v : VS) (h : j ≠ i) : (setV S i v).1 j = S.1 j := by
  show va_up S.1 i v j = _
  simp [va_up, h]
theorem setV_2 (S : PS) (i : Nat) (v : VS) : (setV S i v).2 = S.2 := rfl
/-- villages that agree where it matters -/
def Ag (v w : VS) : Prop := ∀ k j, inR k j → w k j = v k j
theorem Ag.G {v w : VS} (h : Ag v w) (g : G v) : G w := by
  obtain ⟨ga, gh, gl, gb, gs, gt, gq⟩ := g
  have e22 : ∀ j, j < 5 → w 22 j = v 22 j := fun j hj => h 22 j (by unfold inR; omega)
  have hh : hsz w = hsz v := hsz_congr (e22 0 (by decide))
  have hl : lsz w = lsz v := by unfold lsz; rw [e22 1 (by decide)]
  have hq : qsz w = qsz v := by unfold qsz; rw [e22 2 (by decide)]
  have h10 := ga.2.1
  have h12 := ga.2.2.2.1
  have h48 := ga.2.2.2.2.2.2.1
  refine ⟨ga.congr (fun j hj => e22 j (by omega)) ⟨hrz v, ga.2.2.2.2.2.2.2.2.1, by rw [e22 3 (by decide)]; exact ga.2.2.2.2.2.2.2.1⟩ (by rw [e22 4 (by decide)]; exact ga.2.2.2.2.2.2.2.2.2), ?_, ?_, ?_, ?_, ?_, ?_⟩
  · intro j hj
    rw [hh] at hj
    rw [h 0 j (by unfold inR; omega), h 1 j (by unfold inR; omega), h 2 j (by unfold inR; omega), h 3 j (by unfold inR; omega), h 5 j (by unfold inR; omega), h 4 j (by unfold inR; omega)]
    exact gh j hj
  · intro k hk
    rw [hl] at hk
    rw [hh, h 10 k (by unfold inR; omega), h 11 k (by unfold inR; omega), h 12 k (by unfold inR; omega)]
    exact gl k hk
  · intro b hb
    rw [h 13 b (by unfold inR; omega), h 14 b (by unfold inR; omega), h 15 b (by unfold inR; omega), h 16 b (by unfold inR; omega)]
    exact gb b hb
  · refine ⟨by rw [h 17 0 (by unfold inR; omega)]; exact gs.1, fun k hk => by rw [h 17 k (by unfold inR; omega)]; exact gs.2 k hk⟩
  · refine ⟨by rw [h 19 0 (by unfold inR; omega)]; exact gt.1, fun f hf => by rw [h 20 f (by unfold inR; omega)]; exact gt.2 f hf⟩
  · intro k hk
    rw [hq] at hk
    rw [h 21 k (by unfold inR; omega)]
    exact gq k hk
theorem pu_cpy (v : VS) (k : Nat) (f : Nat → Int32) (n : Nat) (k' j' : Nat) : cpy v k f n k' j' = if k' = k ∧ j' < n then f j' else v k' j' := by
  unfold cpy va_up
  by_cases h : k' = k
  · subst h
    by_cases h2 : j' < n <;> simp [h2, va_cpy]
  · simp [h]
theorem k23 (k : Nat) (h : k < 23) : k = 0 ∨ k = 1 ∨ k = 2 ∨ k = 3 ∨ k = 4 ∨ k = 5 ∨ k = 6 ∨ k = 7 ∨ k = 8 ∨ k = 9 ∨ k = 10 ∨ k = 11 ∨ k = 12 ∨ k = 13 ∨ k = 14 ∨ k = 15 ∨ k = 16 ∨ k = 17 ∨ k = 18 ∨ k = 19 ∨ k = 20 ∨ k = 21 ∨ k = 22 := by omega
def cpV (u v : VS) : VS := wn (wn (wn (cpy (cpy (cpy (cpy (cpy (cpy (cpy (cpy (cpy (cpy (cpy (cpy (wn (cpy (cpy (cpy (cpy (cpy (cpy (cpy (cpy (wn u 22 0 (v 22 0)) 0 (v 0) 10) 1 (v 1) 10) 2 (v 2) 10) 3 (v 3) 10) 4 (v 4) 10) 5 (v 5) 10) 6 (v 6) 10) 7 (v 7) 10) 22 1 (v 22 1)) 10 (v 10) 12) 11 (v 11) 12) 12 (v 12) 12) 13 (v 13) 2) 14 (v 14) 2) 15 (v 15) 2) 16 (v 16) 2) 17 (v 17) 4) 18 (v 18) 8) 19 (v 19) 3) 20 (v 20) 3) 21 (v 21) 48) 22 2 (v 22 2)) 22 3 (v 22 3)) 22 4 (v 22 4)
theorem sp_copy {i j : Nat} (hij : i ≠ j) (S : PS) : ∃ w, f_X5_copy i j S = some (setV S i w) ∧ Ag (S.1 j) w := by
  have e1 : ∀ w, (setV S i w).1 i = w := fun w => setV_at S i w
  have e2 : ∀ w, (setV S i w).1 j = S.1 j := fun w => setV_ne S w (Ne.symm hij)
  refine ⟨cpV (S.1 i) (S.1 j), ?_, ?_⟩
  · simp only [f_X5_copy, f_X2_copy, f_X4_copy, f_X0_copy, f_X5_takeList, pu_let, pu_some, e1, e2, setV_up, cpV]
  intro k p hk
  simp only [cpV, pu_cpy, pu_wn]
  unfold inR at hk
  rcases k23 k (by omega) with h | h | h | h | h | h | h | h | h | h | h | h | h | h | h | h | h | h | h | h | h | h | h <;> subst h <;> first | (simp <;> omega) | (rcases (by omega : p = 0 ∨ p = 1 ∨ p = 2 ∨ p = 3 ∨ p = 4) with h | h | h | h | h <;> subst h <;> simp)
theorem sp_drop (S : PS) (hp : ∀ i, i < 8 → S.2 i < 12) : ∃ S', f_X1_dropOldest S = some S' ∧ (∀ i, i ≠ 12 → S'.1 i = S.1 i) ∧ (∀ k j, S'.1 12 k j = if k = 2 ∧ j = 4 then S.1 12 2 4 - 1 else S.1 12 k j) ∧ (∀ i, i < 7 → S'.2 i = S.2 (i + 1)) ∧ S'.2 7 = S.2 0 := by
  have lp : ∀ (d x n : Nat) (Q : PS), x + d = 7 → d < n → Q.1 = S.1 → (∀ i, i < 8 → Q.2 i = if i < x then S.2 (i + 1) else S.2 i) →
      ∃ S', f_X1_dropOldest_9 (S.2 0) n (nI x) Q = some S' ∧ (∀ i, i ≠ 12 → S'.1 i = S.1 i) ∧ (∀ k j, S'.1 12 k j = if k = 2 ∧ j = 4 then S.1 12 2 4 - 1 else S.1 12 k j) ∧ (∀ i, i < 7 → S'.2 i = S.2 (i + 1)) ∧ S'.2 7 = S.2 0 := by
    intro d
    induction d with
    | zero =>
      intro x n Q hx hn q1 q2
      obtain ⟨n, rfl⟩ : ∃ m, n = m + 1 := ⟨n - 1, by omega⟩
      obtain rfl : x = 7 := by omega
      refine ⟨setV (setP Q 7 (S.2 0)) 12 (wn (Q.1 12) 2 4 (Q.1 12 2 4 - 1)), ?_, ?_, ?_, ?_, ?_⟩
      · simp (disch := omega) only [f_X1_dropOldest_9, pu_bnd, pu_some, pu_let, pu_inb, pu_rd, pu_wr, nI_1, nI_leI, nI_ltI, nI_eq, pu_lit, nI_add, pk_mul, Nat.le_refl, if_true]
        rw [decide_eq_true (hp 0 (by decide)), pu_bnd, nI_clamp (by omega)]
        rfl
      · intro i hi
        rw [setV_ne _ _ hi]
        show Q.1 i = _
        rw [q1]
      · intro k j
        rw [setV_at, pu_wn, q1]
      · intro i hi
        show va_up Q.2 7 (S.2 0) i = _
        simp only [va_up]
        rw [if_neg (by omega), q2 i (by omega), if_pos hi]
      · show va_up Q.2 7 (S.2 0) 7 = _
        simp [va_up]
    | succ d ih =>
      intro x n Q hx hn q1 q2
      obtain ⟨n, rfl⟩ : ∃ m, n = m + 1 := ⟨n - 1, by omega⟩
      have h2 : ¬ 7 ≤ x := by omega
      obtain ⟨S', a1, a2⟩ := ih (x + 1) n (setP Q x (Q.2 (x + 1))) (by omega) (by omega) q1 (fun i hi => by
        show va_up Q.2 x (Q.2 (x + 1)) i = _
        simp only [va_up]
        by_cases hix : i = x
        · subst hix
          rw [if_pos rfl, if_pos (by omega), q2 (i + 1) (by omega), if_neg (by omega)]
        · rw [if_neg hix, q2 i hi]
          by_cases h3 : i < x
          · rw [if_pos h3, if_pos (by omega)]
          · rw [if_neg h3, if_neg (by omega)])
      refine ⟨S', ?_, a2⟩
      rw [← a1]
      have hq : Q.2 (x + 1) < 12 := by rw [q2 (x + 1) (by omega), if_neg (by omega)]; exact hp _ (by omega)
      simp (disch := omega) only [f_X1_dropOldest_9, pu_bnd, pu_some, pu_let, pu_inb, pu_rd, pu_wr, nI_1, nI_leI, nI_ltI, nI_eq, pu_lit, nI_add, pk_mul, h2, if_false, nI_clamp]
      rw [decide_eq_true hq, pu_bnd]
  obtain ⟨S', a1, a2⟩ := lp 7 0 fuel S (by omega) (fuel_gt (by omega)) rfl (fun i hi => by rw [if_neg (by omega)])
  refine ⟨S', ?_, a2⟩
  rw [← a1]
  unfold f_X1_dropOldest
  simp (disch := omega) only [pu_bnd, pu_some, pu_let, pu_inb, pu_rd, pu_wr, nI_1, nI_leI, nI_ltI, nI_eq, pu_lit, nI_add, pk_mul, nI_clamp]
  rw [decide_eq_true (hp 0 (by decide)), pu_bnd]
theorem nI_inj0 {a b : Nat} (ha : a < 2 ^ 31) (hb : b < 2 ^ 31) (h : nI a = nI b) : a = b := (nI_eq ha hb).mp h
def PHn : Nat → VS → VS
  | 0, v => v
  | d + 1, v => PHn d (PH v)
theorem PHn_G {c : Nat} : ∀ (d t : Nat) (v : VS), G v → GN c t v → t + d < 2 ^ 29 → G (PHn d v) ∧ GN c (t + d) (PHn d v) := by
  intro d
  induction d with
  | zero => intro t v g gn _; exact ⟨g, gn⟩
  | succ d ih =>
    intro t v g gn ht
    have h := PH_G g gn (by omega)
    have := ih (t + 1) (PH v) h.1 h.2 (by omega)
    rw [show t + (d + 1) = t + 1 + d by omega]
    exact this
theorem sp_passHours {a c : Nat} (ha : a < 2 ^ 31) : ∀ (d i n t : Nat) (v : VS), i + d = a → d < n → G v → GN c t v → t + d < 2 ^ 29 → f_X5_passHours_2 (nI a) n (nI i) v = some (PHn d v) := by
  intro d
  induction d with
  | zero =>
    intro i n t v hi hn g gn ht
    obtain ⟨n, rfl⟩ : ∃ m, n = m + 1 := ⟨n - 1, by omega⟩
    obtain rfl : i = a := by omega
    simp (disch := omega) only [f_X5_passHours_2, pu_bnd, pu_some, pu_let, pu_inb, pu_rd, pu_wr, nI_1, nI_leI, nI_ltI, nI_eq, pu_lit, nI_add, pk_mul, Nat.le_refl, if_true]
    rfl
  | succ d ih =>
    intro i n t v hi hn g gn ht
    obtain ⟨n, rfl⟩ : ∃ m, n = m + 1 := ⟨n - 1, by omega⟩
    have h1 : ¬ a ≤ i := by omega
    have h := PH_G g gn (by omega)
    simp (disch := omega) only [f_X5_passHours_2, pu_bnd, pu_some, pu_let, pu_inb, pu_rd, pu_wr, nI_1, nI_leI, nI_ltI, nI_eq, pu_lit, nI_add, pk_mul, h1, if_false, sp_passHour g.1 (GF.of g.2.1)]
    exact ih (i + 1) n (t + 1) (PH v) (by omega) (by omega) h.1 h.2 (by omega)
theorem ite10 {α : Type} (a b : α) : (if (1 : Int32) = 0 then a else b) = b := if_neg (by decide)
theorem ite00 {α : Type} (a b : α) : (if (0 : Int32) = 0 then a else b) = a := if_pos rfl
theorem wi {p : Int32} (a b : Nat) (ha : a < 2 ^ 31) (hb : b < 2 ^ 31) : f_X6_within p (nI a) (nI b) = some 0 ∨ (f_X6_within p (nI a) (nI b) = some 1 ∧ ∃ x, a ≤ x ∧ x ≤ b ∧ p = nI x) := by
  unfold f_X6_within
  by_cases h1 : p < nI a
  · rw [if_pos h1]; exact Or.inl rfl
  · rw [if_neg h1]
    by_cases h2 : nI b < p
    · rw [if_pos h2]; exact Or.inl rfl
    · rw [if_neg h2]
      refine Or.inr ⟨rfl, ?_⟩
      rw [Int32.lt_iff_toInt_lt, nI_toInt ha] at h1
      rw [Int32.lt_iff_toInt_lt, nI_toInt hb] at h2
      obtain ⟨x, e1, e2, e3⟩ := i32_nat (x := p) (by omega)
      exact ⟨x, by omega, by omega, e1⟩
/-- a number of a house, or of a loan -/
theorem wiL {p : Int32} (m : Nat) (hm : m ≤ 12) : f_X6_within p 0 (nI m - 1) = some 0 ∨ (f_X6_within p 0 (nI m - 1) = some 1 ∧ ∃ x, x < m ∧ p = nI x) := by
  by_cases h0 : m = 0
  · subst h0
    refine Or.inl ?_
    unfold f_X6_within
    by_cases h1 : p < 0
    · rw [if_pos h1]
    · rw [if_neg h1, if_pos]
      rw [Int32.lt_iff_toInt_lt] at h1 ⊢
      have e : (nI 0 - 1 : Int32).toInt = -1 := by decide
      have e0 : (0 : Int32).toInt = 0 := by decide
      omega
  · obtain ⟨k, rfl⟩ : ∃ k, m = k + 1 := ⟨m - 1, by omega⟩
    rw [nI_pred]
    rcases wi (p := p) 0 k (by decide) (by omega) with h | ⟨h, x, h1, h2, h3⟩
    · exact Or.inl h
    · exact Or.inr ⟨h, x, by omega, h3⟩
theorem G_upd {v w : VS} (g : G v) (h22 : ∀ j, w 22 j = v 22 j) (cH : (∀ k j, k < 6 → w k j = v k j) ∨ GH w) (cL : (∀ k j, 10 ≤ k → k < 13 → w k j = v k j) ∨ GL w) (cB : (∀ k j, 13 ≤ k → k < 17 → w k j = v k j) ∨ GB w) (cS : (∀ j, w 17 j = v 17 j) ∨ GS w) (cT : ∀ k j, 19 ≤ k → k < 22 → w k j = v k j) : G w := by
  obtain ⟨ga, gh, gl, gb, gs, gt, gq⟩ := g
  have hh : hsz w = hsz v := hsz_congr (h22 0)
  have hl : lsz w = lsz v := by unfold lsz; rw [h22 1]
  have hq : qsz w = qsz v := by unfold qsz; rw [h22 2]
  refine ⟨ga.congr' h22, ?_, ?_, ?_, ?_, ?_, ?_⟩
  · rcases cH with c | c
    · intro j hj
      rw [hh] at hj
      rw [c 0 j (by decide), c 1 j (by decide), c 2 j (by decide), c 3 j (by decide), c 4 j (by decide), c 5 j (by decide)]
      exact gh j hj
    · exact c
  · rcases cL with c | c
    · intro j hj
      rw [hl] at hj
      rw [hh, c 10 j (by decide) (by decide), c 11 j (by decide) (by decide), c 12 j (by decide) (by decide)]
      exact gl j hj
    · exact c
  · rcases cB with c | c
    · intro j hj
      rw [c 13 j (by decide) (by decide), c 14 j (by decide) (by decide), c 15 j (by decide) (by decide), c 16 j (by decide) (by decide)]
      exact gb j hj
    · exact c
  · rcases cS with c | c
    · exact ⟨by rw [c]; exact gs.1, fun k hk => by rw [c]; exact gs.2 k hk⟩
    · exact c
  · exact ⟨by rw [cT 19 0 (by decide) (by decide)]; exact gt.1, fun f hf => by rw [cT 20 f (by decide) (by decide)]; exact gt.2 f hf⟩
  · intro k hk
    rw [hq] at hk
    rw [cT 21 k (by decide) (by decide)]
    exact gq k hk
def adS (v : VS) (f d : Int32) : VS := wn (wn (wn (wn (wn (wn (wn (wn (wn v 0 (hsz v) f) 1 (hsz v) d) 2 (hsz v) 0) 3 (hsz v) 1) 4 (hsz v) 0) 5 (hsz v) 0) 6 (hsz v) 0) 7 (hsz v) 0) 22 0 (nI (hsz v + 1))
def adV (f d : Int32) (k : Nat) : Int32 := if k = 0 then f else if k = 1 then d else if k = 3 then 1 else 0
theorem adS_at (v : VS) (f d : Int32) (k j : Nat) : adS v f d k j = if k = 22 ∧ j = 0 then nI (hsz v + 1) else if k < 8 ∧ j = hsz v then adV f d k else v k j := by
  unfold adS adV
  simp only [pu_wn]
  by_cases h22 : k = 22 ∧ j = 0
  · simp [h22]
  · rw [if_neg h22, if_neg h22]
    by_cases hj : j = hsz v
    · by_cases hk : k < 8
      · have : k = 0 ∨ k = 1 ∨ k = 2 ∨ k = 3 ∨ k = 4 ∨ k = 5 ∨ k = 6 ∨ k = 7 := by omega
        rcases this with e | e | e | e | e | e | e | e <;> subst e <;> simp [hj]
      · simp only [hj, and_true]
        rw [if_neg (by omega), if_neg (by omega), if_neg (by omega), if_neg (by omega), if_neg (by omega), if_neg (by omega), if_neg (by omega), if_neg (by omega), if_neg (by omega)]
    · simp [hj]
def owF (v : VS) (k : Nat) (p : Int32) : Nat → Int32 := fun j => if v k j = p then v 12 j else 0
theorem sp_sumOwed {v : VS} (g : GA v) {k : Nat} (hk : k = 10 ∨ k = 11) (p : Int32) : f_X4_sumOwed k v p = some (smF (owF v k p) 0 (lsz v) 0) := by
  have h12 := g.2.2.2.1
  have hv : vlen k = 12 := by rcases hk with e | e <;> subst e <;> rfl
  have lp : ∀ (d i n : Nat) (acc : Int32), i + d = lsz v → d < n → f_X4_sumOwed_5 k v p n acc (nI i) = some (smF (owF v k p) i d acc) := by
    intro d
    induction d with
    | zero =>
      intro i n acc hi hn
      obtain ⟨n, rfl⟩ : ∃ m, n = m + 1 := ⟨n - 1, by omega⟩
      have h1 : lsz v ≤ i := by omega
      simp (disch := omega) only [f_X4_sumOwed_5, g.2.2.1, pu_bnd, pu_some, pu_let, pu_inb, pu_rd, pu_wr, nI_1, nI_leI, nI_ltI, nI_eq, pu_lit, nI_add, pk_mul, h1, if_true]
      rfl
    | succ d ih =>
      intro i n acc hi hn
      obtain ⟨n, rfl⟩ : ∃ m, n = m + 1 := ⟨n - 1, by omega⟩
      have h1 : ¬ lsz v ≤ i := by omega
      have e := ih (i + 1) n (acc + owF v k p i) (by omega) (by omega)
      show _ = some (smF _ (i + 1) d (acc + owF v k p i))
      by_cases hc : v k i = p
      · simp (disch := omega) only [f_X4_sumOwed_5, f_X4_sumOwed_34, g.2.2.1, pu_bnd, pu_some, pu_let, pu_inb, pu_rd, pu_wr, nI_1, nI_leI, nI_ltI, nI_eq, pu_lit, nI_add, pk_mul, h1, if_false, hc, if_true]
        rw [← e, owF, if_pos hc]
      · simp (disch := omega) only [f_X4_sumOwed_5, f_X4_sumOwed_34, g.2.2.1, pu_bnd, pu_some, pu_let, pu_inb, pu_rd, pu_wr, nI_1, nI_leI, nI_ltI, nI_eq, pu_lit, nI_add, pk_mul, h1, if_false, hc]
        rw [← e, owF, if_neg hc]
        rfl
  exact lp (lsz v) 0 fuel 0 (by omega) (fuel_gt (by omega))
def szF (v : VS) (p : Int32) : Nat → Int32 := ofF v p (fun _ => 1)
def drF (v : VS) (p od : Int32) : Nat → Int32 := ofF v p (fun j => cdr (v 4 j) (v 1 j) (v 3 j) od)
def ngF (v : VS) : Nat → Int32 := fun j => if 0 ≤ v 4 j then 0 else 1
theorem sp_sizeOf {v : VS} (g : GA v) (p : Int32) : f_X2_sizeOf v p = some (smF (szF v p) 0 (hsz v) 0) := by
  have h10 := g.2.1
  have lp : ∀ (d i n : Nat) (acc : Int32), i + d = hsz v → d < n → f_X2_sizeOf_4 v p n acc (nI i) = some (smF (szF v p) i d acc) := by
    intro d
    induction d with
    | zero =>
      intro i n acc hi hn
      obtain ⟨n, rfl⟩ : ∃ m, n = m + 1 := ⟨n - 1, by omega⟩
      have h1 : hsz v ≤ i := by omega
      simp (disch := omega) only [f_X2_sizeOf_4, g.1, pu_bnd, pu_some, pu_let, pu_inb, pu_rd, pu_wr, nI_1, nI_leI, nI_ltI, nI_eq, pu_lit, nI_add, pk_mul, h1, if_true]
      rfl
    | succ d ih =>
      intro i n acc hi hn
      obtain ⟨n, rfl⟩ : ∃ m, n = m + 1 := ⟨n - 1, by omega⟩
      have h1 : ¬ hsz v ≤ i := by omega
      have e := ih (i + 1) n (acc + szF v p i) (by omega) (by omega)
      show _ = some (smF _ (i + 1) d (acc + szF v p i))
      by_cases hc : v 0 i = p
      · simp (disch := omega) only [f_X2_sizeOf_4, f_X2_sizeOf_28, g.1, pu_bnd, pu_some, pu_let, pu_inb, pu_rd, pu_wr, nI_1, nI_leI, nI_ltI, nI_eq, pu_lit, nI_add, pk_mul, h1, if_false, hc, if_true]
        rw [← e, szF, ofF, if_pos hc]
        rfl
      · simp (disch := omega) only [f_X2_sizeOf_4, f_X2_sizeOf_28, g.1, pu_bnd, pu_some, pu_let, pu_inb, pu_rd, pu_wr, nI_1, nI_leI, nI_ltI, nI_eq, pu_lit, nI_add, pk_mul, h1, if_false, hc]
        rw [← e, szF, ofF, if_neg hc]
        rfl
  exact lp (hsz v) 0 fuel 0 (by omega) (fuel_gt (by omega))
theorem sp_drawnFrom {v : VS} (g : GA v) (p od : Int32) : f_X2_drawnFrom v p od = some (smF (drF v p od) 0 (hsz v) 0) := by
  have h10 := g.2.1
  have lp : ∀ (d i n : Nat) (acc : Int32), i + d = hsz v → d < n → f_X2_drawnFrom_5 v p od n acc (nI i) = some (smF (drF v p od) i d acc) := by
    intro d
    induction d with
    | zero =>
      intro i n acc hi hn
      obtain ⟨n, rfl⟩ : ∃ m, n = m + 1 := ⟨n - 1, by omega⟩
      have h1 : hsz v ≤ i := by omega
      simp (disch := omega) only [f_X2_drawnFrom_5, g.1, pu_bnd, pu_some, pu_let, pu_inb, pu_rd, pu_wr, nI_1, nI_leI, nI_ltI, nI_eq, pu_lit, nI_add, pk_mul, h1, if_true]
      rfl
    | succ d ih =>
      intro i n acc hi hn
      obtain ⟨n, rfl⟩ : ∃ m, n = m + 1 := ⟨n - 1, by omega⟩
      have h1 : ¬ hsz v ≤ i := by omega
      have e := ih (i + 1) n (acc + drF v p od i) (by omega) (by omega)
      show _ = some (smF _ (i + 1) d (acc + drF v p od i))
      by_cases hc : v 0 i = p
      · simp (disch := omega) only [f_X2_drawnFrom_5, f_X2_drawnFrom_37, g.1, pu_bnd, pu_some, pu_let, pu_inb, pu_rd, pu_wr, nI_1, nI_leI, nI_ltI, nI_eq, pu_lit, nI_add, pk_mul, h1, if_false, hc, if_true, sp_canDraw]
        rw [← e, drF, ofF, if_pos hc]
      · simp (disch := omega) only [f_X2_drawnFrom_5, f_X2_drawnFrom_37, g.1, pu_bnd, pu_some, pu_let, pu_inb, pu_rd, pu_wr, nI_1, nI_leI, nI_ltI, nI_eq, pu_lit, nI_add, pk_mul, h1, if_false, hc]
        rw [← e, drF, ofF, if_neg hc]
        rfl
  exact lp (hsz v) 0 fuel 0 (by omega) (fuel_gt (by omega))
theorem sp_overdrawn {v : VS} (g : GA v) : f_X2_overdrawn v = some (smF (ngF v) 0 (hsz v) 0) := by
  have h10 := g.2.1
  have lp : ∀ (d i n : Nat) (acc : Int32), i + d = hsz v → d < n → f_X2_overdrawn_4 v n acc (nI i) = some (smF (ngF v) i d acc) := by
    intro d
    induction d with
    | zero =>
      intro i n acc hi hn
      obtain ⟨n, rfl⟩ : ∃ m, n = m + 1 := ⟨n - 1, by omega⟩
      have h1 : hsz v ≤ i := by omega
      simp (disch := omega) only [f_X2_overdrawn_4, g.1, pu_bnd, pu_some, pu_let, pu_inb, pu_rd, pu_wr, nI_1, nI_leI, nI_ltI, nI_eq, pu_lit, nI_add, pk_mul, h1, if_true]
      rfl
    | succ d ih =>
      intro i n acc hi hn
      obtain ⟨n, rfl⟩ : ∃ m, n = m + 1 := ⟨n - 1, by omega⟩
      have h1 : ¬ hsz v ≤ i := by omega
      have e := ih (i + 1) n (acc + ngF v i) (by omega) (by omega)
      show _ = some (smF _ (i + 1) d (acc + ngF v i))
      by_cases hc : nI 0 ≤ v 4 i
      · simp (disch := omega) only [f_X2_overdrawn_4, f_X2_overdrawn_27, g.1, pu_bnd, pu_some, pu_let, pu_inb, pu_rd, pu_wr, nI_1, nI_leI, nI_ltI, nI_eq, pu_lit, nI_add, pk_mul, h1, if_false, hc, if_true]
        rw [← e, ngF, if_pos (show 0 ≤ v 4 i from hc)]
        rfl
      · simp (disch := omega) only [f_X2_overdrawn_4, f_X2_overdrawn_27, g.1, pu_bnd, pu_some, pu_let, pu_inb, pu_rd, pu_wr, nI_1, nI_leI, nI_ltI, nI_eq, pu_lit, nI_add, pk_mul, h1, if_false, hc]
        rw [← e, ngF, if_neg (show ¬ 0 ≤ v 4 i from hc)]
        rfl
  exact lp (hsz v) 0 fuel 0 (by omega) (fuel_gt (by omega))
theorem sp_remove {v : VS} {m k : Nat} (h22 : v 22 1 = nI m) (hm : m ≤ 12) (hk : k < m) : ∃ w, f_X4_remove v (nI k) = some w ∧ w 22 1 = nI (m - 1) ∧ (∀ r j, 10 ≤ r → r < 13 → j < m - 1 → w r j = v r (if j < k then j else j + 1)) ∧ (∀ r j, ¬ (10 ≤ r ∧ r < 13) → ¬ (r = 22 ∧ j = 1) → w r j = v r j) := by
  have lp : ∀ (d x n : Nat) (u : VS), x + d = m - 1 → d < n → k ≤ x → u 22 1 = nI (m - 1) → (∀ r j, 10 ≤ r → r < 13 → u r j = if k ≤ j ∧ j < x then v r (j + 1) else v r j) → (∀ r j, ¬ (10 ≤ r ∧ r < 13) → ¬ (r = 22 ∧ j = 1) → u r j = v r j) →
      ∃ w, f_X4_remove_12 n (nI x) u = some w ∧ w 22 1 = nI (m - 1) ∧ (∀ r j, 10 ≤ r → r < 13 → j < m - 1 → w r j = v r (if j < k then j else j + 1)) ∧ (∀ r j, ¬ (10 ≤ r ∧ r < 13) → ¬ (r = 22 ∧ j = 1) → w r j = v r j) := by
    intro d
    induction d with
    | zero =>
      intro x n u hx hn hkx u1 u2 u3
      obtain ⟨n, rfl⟩ : ∃ m, n = m + 1 := ⟨n - 1, by omega⟩
      obtain rfl : x = m - 1 := by omega
      refine ⟨u, ?_, u1, fun r j h1 h2 hj => ?_, u3⟩
      · simp (disch := omega) only [f_X4_remove_12, u1, nI_leI, Nat.le_refl, if_true]
      · rw [u2 r j h1 h2]
        by_cases c : j < k
        · rw [if_pos c, if_neg (by omega)]
        · rw [if_neg c, if_pos (by omega)]
    | succ d ih =>
      intro x n u hx hn hkx u1 u2 u3
      obtain ⟨n, rfl⟩ : ∃ m, n = m + 1 := ⟨n - 1, by omega⟩
      have h2 : ¬ m - 1 ≤ x := by omega
      have e11 : (wn u 10 x (u 10 (x + 1))) 11 (x + 1) = u 11 (x + 1) := pu_wn_k _ _ _ _ (by decide)
      have e12 : (wn (wn u 10 x (u 10 (x + 1))) 11 x (u 11 (x + 1))) 12 (x + 1) = u 12 (x + 1) := (pu_wn_k _ _ _ _ (by decide)).trans (pu_wn_k _ _ _ _ (by decide))
      obtain ⟨w, a1, a2⟩ := ih (x + 1) n (wn (wn (wn u 10 x (u 10 (x + 1))) 11 x (u 11 (x + 1))) 12 x (u 12 (x + 1))) (by omega) (by omega) (by omega) (by rw [pu_wn_k _ _ _ _ (by decide), pu_wn_k _ _ _ _ (by decide), pu_wn_k _ _ _ _ (by decide)]; exact u1) (fun r j h1 h3 => by
        have hr : r = 10 ∨ r = 11 ∨ r = 12 := by omega
        have ev : wn (wn (wn u 10 x (u 10 (x + 1))) 11 x (u 11 (x + 1))) 12 x (u 12 (x + 1)) r j = if j = x then u r (x + 1) else u r j := by
          simp only [pu_wn]
          rcases hr with e | e | e <;> subst e <;> by_cases hj : j = x <;> simp [hj]
        rw [ev]
        by_cases hj : j = x
        · rw [if_pos hj, hj, u2 r (x + 1) h1 h3, if_neg (by omega), if_pos (by omega)]
        · rw [if_neg hj, u2 r j h1 h3]
          by_cases c : k ≤ j ∧ j < x
          · rw [if_pos c, if_pos (by omega)]
          · rw [if_neg c, if_neg (by omega)]) (fun r j h1 h3 => by
        rw [pu_wn_k _ _ _ _ (by omega), pu_wn_k _ _ _ _ (by omega), pu_wn_k _ _ _ _ (by omega)]
        exact u3 r j h1 h3)
      refine ⟨w, ?_, a2⟩
      rw [← a1]
      simp (disch := omega) only [f_X4_remove_12, u1, pu_bnd, pu_some, pu_let, pu_inb, pu_rd, pu_wr, nI_1, nI_leI, nI_ltI, nI_eq, pu_lit, nI_add, pk_mul, h2, if_false, e11, e12]
  obtain ⟨w, a1, a2⟩ := lp (m - 1 - k) k fuel (wn v 22 1 (nI (m - 1))) (by omega) (fuel_gt (by omega)) (Nat.le_refl _) (pu_wn_s _ _ _ _) (fun r j h1 h2 => by rw [pu_wn_k _ _ _ _ (by omega), if_neg (by omega)]) (fun r j h1 h2 => by rw [pu_wn, if_neg h2])
  refine ⟨w, ?_, a2⟩
  rw [← a1]
  unfold f_X4_remove
  obtain ⟨q, rfl⟩ : ∃ q, m = q + 1 := ⟨m - 1, by omega⟩
  rw [h22, nI_pred, pu_let, Nat.add_sub_cancel]
/-- the loans of a village as a list -/
def Lst (v : VS) (l : List (Int32 × Int32 × Int32)) : Prop := v 22 1 = nI l.length ∧ ∀ j, j < l.length → l[j]? = some (v 10 j, v 11 j, v 12 j)
def SameL (v w : VS) : Prop := ∀ r j, ¬ (10 ≤ r ∧ r < 13) → ¬ (r = 22 ∧ j = 1) → w r j = v r j
theorem Lst_of (v : VS) (g : GA v) : ∃ l, Lst v l ∧ l.length = lsz v := by
  refine ⟨(List.range (lsz v)).map (fun j => (v 10 j, v 11 j, v 12 j)), ⟨?_, fun j hj => ?_⟩, by simp⟩
  · rw [List.length_map, List.length_range]; exact g.2.2.1
  · rw [List.length_map, List.length_range] at hj
    rw [List.getElem?_map, List.getElem?_range hj]
    rfl
theorem sp_remove_l {v : VS} {l : List (Int32 × Int32 × Int32)} {k : Nat} (h : Lst v l) (hm : l.length ≤ 12) (hk : k < l.length) : ∃ w, f_X4_remove v (nI k) = some w ∧ Lst w (l.eraseIdx k) ∧ SameL v w := by
  obtain ⟨w, w1, w2, w3, w4⟩ := sp_remove h.1 hm hk
  have hl : (l.eraseIdx k).length = l.length - 1 := by rw [List.length_eraseIdx, if_pos hk]
  refine ⟨w, w1, ⟨by rw [hl]; exact w2, fun j hj => ?_⟩, w4⟩
  rw [hl] at hj
  rw [w3 10 j (by decide) (by decide) hj, w3 11 j (by decide) (by decide) hj, w3 12 j (by decide) (by decide) hj, List.getElem?_eraseIdx]
  by_cases c : j < k
  · rw [if_pos c, if_pos c]; exact h.2 j (by omega)
  · rw [if_neg c, if_neg c]; exact h.2 (j + 1) (by omega)

def pd (x : Int32 × Int32 × Int32) : Bool := decide (0 < x.2.2)
theorem SameL.trans {u v w : VS} (h : SameL u v) (h' : SameL v w) : SameL u w := fun r j h1 h2 => (h' r j h1 h2).trans (h r j h1 h2)
theorem sp_removePaid0 {l : List (Int32 × Int32 × Int32)} (hl : l.length ≤ 12) : ∀ (d n : Nat) (u : VS), d ≤ l.length → d < n → Lst u (l.take d ++ (l.drop d).filter pd) → ∃ w, f_X4_removePaid_7 n (nI d - 1) u = some w ∧ Lst w (l.filter pd) ∧ SameL u w := by
  intro d
  induction d with
  | zero =>
    intro n u hd hn hu
    obtain ⟨n, rfl⟩ : ∃ m, n = m + 1 := ⟨n - 1, by omega⟩
    refine ⟨u, ?_, by simpa using hu, fun _ _ _ _ => rfl⟩
    show (if nI 0 - 1 < 0 then some u else _) = _
    rw [if_pos (by decide)]
  | succ d ih =>
    intro n u hd hn hu
    obtain ⟨n, rfl⟩ : ∃ m, n = m + 1 := ⟨n - 1, by omega⟩
    have hd' : d < l.length := by omega
    have e1 : l.take (d + 1) = l.take d ++ [l[d]] := by rw [List.take_succ_eq_append_getElem hd']
    have e2 : l.drop d = l[d] :: l.drop (d + 1) := List.drop_eq_getElem_cons hd'
    have hlen : (l.take d).length = d := by rw [List.length_take]; omega
    have hF : ((l.drop (d + 1)).filter pd).length ≤ l.length - (d + 1) := by
      refine Nat.le_trans (List.length_filter_le _ _) ?_
      rw [List.length_drop]
      exact Nat.le_refl _
    have hll : (l.take (d + 1) ++ (l.drop (d + 1)).filter pd).length ≤ 12 ∧ d < (l.take (d + 1) ++ (l.drop (d + 1)).filter pd).length := by
      rw [List.length_append, List.length_take]
      omega
    have hget := hu.2 d hll.2
    have hat : (l.take (d + 1) ++ (l.drop (d + 1)).filter pd)[d]? = some l[d] := by
      rw [e1, List.append_assoc, List.getElem?_append_right (by omega), hlen, Nat.sub_self]
      rfl
    rw [hat] at hget
    have h12 : u 12 d = (l[d]).2.2 := by rw [Option.some.inj hget]
    have hst : f_X4_removePaid_7 (n + 1) (nI (d + 1) - 1) u = if 0 < u 12 d then f_X4_removePaid_7 n (nI d - 1) u else bnd2 (f_X4_remove u (nI d)) fun r => f_X4_removePaid_7 n (nI d - 1) r := by
      rw [nI_pred]
      show (if nI d < 0 then some u else bnd (inb (nI d) 12) (if 0 < rd u 12 (nI d) then f_X4_removePaid_25 (f_X4_removePaid_7 n) u (nI d) else bnd2 (f_X4_remove u (nI d)) fun r_4 => f_X4_removePaid_25 (f_X4_removePaid_7 n) r_4 (nI d))) = _
      rw [if_neg (nI_pos (by omega)), pu_inb (by omega) (by decide), pu_bnd, pu_rd (by omega)]
      unfold f_X4_removePaid_25
      simp only [pv_let, ← Int32.sub_eq_add_neg]
    rw [hst, h12]
    by_cases hp : 0 < (l[d]).2.2
    · rw [if_pos hp]
      refine ih n u (by omega) (by omega) ?_
      rw [e2, List.filter_cons_of_pos (by unfold pd; exact decide_eq_true hp)]
      rw [e1, List.append_assoc] at hu
      exact hu
    · rw [if_neg hp]
      obtain ⟨w, w1, w2, w3⟩ := sp_remove_l hu hll.1 hll.2
      rw [w1, pu_some]
      have he : (l.take (d + 1) ++ (l.drop (d + 1)).filter pd).eraseIdx d = l.take d ++ (l.drop d).filter pd := by
        rw [e1, List.append_assoc, List.eraseIdx_append_of_length_le (by omega), hlen, Nat.sub_self, e2, List.filter_cons_of_neg (by unfold pd; simpa using hp)]
        rfl
      rw [he] at w2
      obtain ⟨w', q1, q2, q3⟩ := ih n w (by omega) (by omega) w2
      exact ⟨w', q1, q2, w3.trans q3⟩
theorem sp_removePaid {v : VS} {l : List (Int32 × Int32 × Int32)} (h : Lst v l) (hl : l.length ≤ 12) : ∃ w, f_X4_removePaid v = some w ∧ Lst w (l.filter pd) ∧ SameL v w := by
  obtain ⟨w, w1, w2⟩ := sp_removePaid0 hl l.length fuel v (Nat.le_refl _) (fuel_gt (by omega)) (by simpa using h)
  refine ⟨w, ?_, w2⟩
  unfold f_X4_removePaid
  rw [h.1]
  exact w1

