/-! a token -/
def plS (p : Int32) : Nat → Nat → Int32 → VS → VS
  | 0, _, _, u => u
  | d + 1, i, r, u => if u 11 i = p then plS p d (i + 1) (r - jmin r (u 12 i)) (wn (wn u 12 i (u 12 i - jmin r (u 12 i))) 4 (u 10 i).toNatClampNeg (u 4 (u 10 i).toNatClampNeg + jmin r (u 12 i))) else plS p d (i + 1) r u
theorem plS_k (p : Int32) {k : Nat} (h4 : k ≠ 4) (h12 : k ≠ 12) : ∀ (d i : Nat) (r : Int32) (u : VS) (j : Nat), plS p d i r u k j = u k j := by
  intro d
  induction d with
  | zero => intro i r u j; rfl
  | succ d ih =>
    intro i r u j
    unfold plS
    split
    · rw [ih, pu_wn_k _ _ _ _ h4, pu_wn_k _ _ _ _ h12]
    · exact ih _ _ _ _
theorem sp_pay {L : Nat} (hL : L ≤ 12) (p : Int32) : ∀ (d i n : Nat) (r : Int32) (u : VS), i + d = L → d < n → u 22 1 = nI L → (∀ j, j < L → ∃ a, a < 10 ∧ u 10 j = nI a) → f_X5_payLoans_5 p n r (nI i) u = bnd2 (f_X4_removePaid (plS p d i r u)) fun r => some r := by
  intro d
  induction d with
  | zero =>
    intro i n r u hi hn h22 h10
    obtain ⟨n, rfl⟩ : ∃ m, n = m + 1 := ⟨n - 1, by omega⟩
    obtain rfl : i = L := by omega
    simp (disch := omega) only [f_X5_payLoans_5, h22, nI_leI, Nat.le_refl, if_true]
    rfl
  | succ d ih =>
    intro i n r u hi hn h22 h10
    obtain ⟨n, rfl⟩ : ∃ m, n = m + 1 := ⟨n - 1, by omega⟩
    have h1 : ¬ L ≤ i := by omega
    obtain ⟨a, ha, ea⟩ := h10 i (by omega)
    have hcl : (nI a).toNatClampNeg = a := nI_clamp (by omega)
    unfold plS
    by_cases c : u 11 i = p
    · rw [if_pos c, ea, hcl]
      have e10 : (wn u 12 i (u 12 i - jmin r (u 12 i))) 10 i = nI a := by rw [pu_wn_k _ _ _ _ (by decide), ea]
      have e4 : (wn u 12 i (u 12 i - jmin r (u 12 i))) 4 a = u 4 a := pu_wn_k _ _ _ _ (by decide)
      have e := ih (i + 1) n (r - jmin r (u 12 i)) (wn (wn u 12 i (u 12 i - jmin r (u 12 i))) 4 a (u 4 a + jmin r (u 12 i))) (by omega) (by omega) (by rw [pu_wn_k _ _ _ _ (by decide), pu_wn_k _ _ _ _ (by decide), h22]) (fun j hj => by rw [pu_wn_k _ _ _ _ (by decide), pu_wn_k _ _ _ _ (by decide)]; exact h10 j hj)
      rw [← e]
      simp (disch := omega) only [f_X5_payLoans_5, f_X5_payLoans_90, h22, pu_bnd, pu_some, pu_let, pu_inb, pu_rd, pu_wr, nI_1, nI_leI, nI_ltI, nI_eq, pu_lit, nI_add, pk_mul, h1, if_false, c, if_true, e10, e4]
    · rw [if_neg c, ← ih (i + 1) n r u (by omega) (by omega) h22 h10]
      simp (disch := omega) only [f_X5_payLoans_5, f_X5_payLoans_90, h22, pu_bnd, pu_some, pu_let, pu_inb, pu_rd, pu_wr, nI_1, nI_leI, nI_ltI, nI_eq, pu_lit, nI_add, pk_mul, h1, if_false, c]
theorem sr_pay {L m : Nat} (p x2 x4 x5 x7 : Int32) : ∀ (d i n : Nat) (r : Int32) (u : VS) (Q : RS), i + d = L → d < n → lsz u = L → hsz u = m → GA u → (∀ j, j < L → ∃ a, a < m ∧ u 10 j = nI a) → RV u Q →
    ∃ n' r' Q', f_X7_token_92 p x2 x4 x5 x7 n r (nI i) Q = f_X7_token_92 p x2 x4 x5 x7 (n' + 1) r' (nI L) Q' ∧ RV (plS p d i r u) Q' ∧ Fr Q Q' := by
  intro d
  induction d with
  | zero =>
    intro i n r u Q hi hn hl hm ga h10 h
    obtain ⟨n, rfl⟩ : ∃ m, n = m + 1 := ⟨n - 1, by omega⟩
    obtain rfl : i = L := by omega
    exact ⟨n, r, Q, rfl, h, Fr.rfl' Q⟩
  | succ d ih =>
    intro i n r u Q hi hn hl hm ga h10 h
    obtain ⟨n, rfl⟩ : ∃ m, n = m + 1 := ⟨n - 1, by omega⟩
    have hL := ga.2.2.2.1
    have hm10 := ga.2.1
    have h1 : ¬ L ≤ i := by omega
    obtain ⟨a, ha, ea⟩ := h10 i (by omega)
    have hcl : (nI a).toNatClampNeg = a := nI_clamp (by omega)
    have z3 := rz_173 h ga
    rw [hl] at z3
    have l1 := sr_loanOf h ga (k := 1) (j := i) (by decide) (by omega)
    have l2 := sr_loanOf h ga (k := 2) (j := i) (by decide) (by omega)
    unfold plS
    by_cases c : u 11 i = p
    · rw [if_pos c, ea, hcl]
      have r1 := RV.wz h ga (k := 12) (j := i) (i := 80 + 3 * i + 2) (x := u 12 i - jmin r (u 12 i)) (by unfold zi; simp) (by unfold inR; omega) (Or.inl (by decide))
      have g1 : GA (wn u 12 i (u 12 i - jmin r (u 12 i))) := ga.congr' fun j => pu_wn_k _ _ _ _ (by decide)
      have hl1 : lsz (wn u 12 i (u 12 i - jmin r (u 12 i))) = L := by unfold lsz; rw [pu_wn_k _ _ _ _ (by decide)]; exact hl
      have hm1 : hsz (wn u 12 i (u 12 i - jmin r (u 12 i))) = m := by unfold hsz; rw [pu_wn_k _ _ _ _ (by decide)]; exact hm
      have l0 := sr_loanOf r1 g1 (k := 0) (j := i) (by decide) (by omega)
      rw [pu_wn_k _ _ _ _ (by decide : (10 + 0) ≠ 12), show u (10 + 0) i = nI a from ea] at l0
      have s4 := sr_add r1 g1 (k := 4) (j := a) (by decide) (by omega) (jmin r (u 12 i))
      rw [pu_wn_k _ _ _ _ (by decide : 4 ≠ 12)] at s4
      have r2 := RV.wz r1 g1 (k := 4) (j := a) (i := 8 * a + 4) (x := u 4 a + jmin r (u 12 i)) (by unfold zi; simp) (by unfold inR; omega) (Or.inl (by decide))
      have g2 : GA (wn (wn u 12 i (u 12 i - jmin r (u 12 i))) 4 a (u 4 a + jmin r (u 12 i))) := g1.congr' fun j => pu_wn_k _ _ _ _ (by decide)
      obtain ⟨n', r', Q', e1, e2, e3⟩ := ih (i + 1) n (r - jmin r (u 12 i)) _ _ (by omega) (by omega) (by unfold lsz; rw [pu_wn_k _ _ _ _ (by decide)]; exact hl1) (by unfold hsz; rw [pu_wn_k _ _ _ _ (by decide)]; exact hm1) g2 (fun j hj => by rw [pu_wn_k _ _ _ _ (by decide), pu_wn_k _ _ _ _ (by decide)]; exact h10 j hj) r2
      refine ⟨n', r', Q', ?_, e2, ((wz_Fr _ _ _).trans (wz_Fr _ _ _)).trans e3⟩
      rw [← e1]
      have z2 := rz_l h (k := 12) (j := i) (i := 80 + 3 * i + 2) (by decide) (by omega) (by omega)
      have st : f_X7_token_92 p x2 x4 x5 x7 (n + 1) r (nI i) Q = f_X7_token_140 (f_X7_token_92 p x2 x4 x5 x7 n) Q p x2 x4 x5 x7 r (nI i) (jmin r (u 12 i)) := by
        rw [jmin_le]
        by_cases cc : r ≤ u 12 i
        · rw [if_pos cc]
          simp (disch := omega) only [f_X7_token_92, z3, pu_bnd, pu_some, pu_let, pu_inb, pu_rd, pu_wr, nI_1, nI_leI, nI_ltI, nI_eq, pu_lit, nI_add, pk_mul, h1, if_false, l1, l2, show u (10 + 1) i = p from c, show u (10 + 2) i = u 12 i from rfl, if_true, cc]
        · rw [if_neg cc]
          simp (disch := omega) only [f_X7_token_92, z3, pu_bnd, pu_some, pu_let, pu_inb, pu_rd, pu_wr, nI_1, nI_leI, nI_ltI, nI_eq, pu_lit, nI_add, pk_mul, h1, if_false, l1, l2, show u (10 + 1) i = p from c, show u (10 + 2) i = u 12 i from rfl, if_true, cc]
      rw [st]
      generalize jmin r (u 12 i) = t at *
      unfold f_X7_token_140 f_X7_token_182
      simp (disch := omega) only [pu_bnd, pu_some, pu_let, pu_inb, pu_rd, pu_wr, pu_lit, nI_add, pk_mul, z2]
      rw [show setR Q (wn Q.1 0 (80 + 3 * i + 2) (u 12 i - t)) = wz Q (80 + 3 * i + 2) (u 12 i - t) from rfl, l0, pu_some, s4, pu_some]
    · rw [if_neg c]
      obtain ⟨n', r', Q', e1, e2, e3⟩ := ih (i + 1) n r u Q (by omega) (by omega) hl hm ga h10 h
      refine ⟨n', r', Q', ?_, e2, e3⟩
      rw [← e1]
      simp (disch := omega) only [f_X7_token_92, f_X7_token_182, z3, pu_bnd, pu_some, pu_let, pu_inb, pu_rd, pu_wr, nI_1, nI_leI, nI_ltI, nI_eq, pu_lit, nI_add, pk_mul, h1, if_false, l1, show (u (10 + 1) i = p) = False from eq_false c]
theorem plS_b {p : Int32} {m : Nat} {C : Int} (hC : C ≤ 2 ^ 30) (hm : m ≤ 10) : ∀ (d i r0 : Nat) (u : VS), r0 ≤ 500 → (∀ j, i ≤ j → j < i + d → ∃ a, a < m ∧ u 10 j = nI a) → (∀ j, i ≤ j → j < i + d → ∃ o, o ≤ 200 ∧ u 12 j = nI o) → (∀ h, h < m → -50 ≤ (u 4 h).toInt ∧ (u 4 h).toInt + r0 ≤ C) →
    (∀ h, h < m → -50 ≤ (plS p d i (nI r0) u 4 h).toInt ∧ (plS p d i (nI r0) u 4 h).toInt ≤ C) ∧ (∀ j, i ≤ j → j < i + d → ∃ o, o ≤ 200 ∧ plS p d i (nI r0) u 12 j = nI o) ∧ (∀ j, j < i → plS p d i (nI r0) u 12 j = u 12 j) := by
  intro d
  induction d with
  | zero =>
    intro i r0 u hr h10 h12 h4
    exact ⟨fun h hh => ⟨(h4 h hh).1, by have := (h4 h hh).2; show (u 4 h).toInt ≤ C; omega⟩, fun j h1 h2 => by omega, fun _ _ => rfl⟩
  | succ d ih =>
    intro i r0 u hr h10 h12 h4
    unfold plS
    by_cases c : u 11 i = p
    · obtain ⟨a, ha, ea⟩ := h10 i (Nat.le_refl _) (by omega)
      obtain ⟨o, ho, eo⟩ := h12 i (Nat.le_refl _) (by omega)
      have hcl : (nI a).toNatClampNeg = a := nI_clamp (by omega)
      have hle1 : min r0 o ≤ r0 := Nat.min_le_left _ _
      have hle2 : min r0 o ≤ o := Nat.min_le_right _ _
      rw [if_pos c, ea, hcl, eo, jmin_nI (by omega) (by omega), pk_sub hle1, pk_sub hle2]
      generalize min r0 o = t at hle1 hle2
      have hw10 : ∀ k j, k ≠ 12 → k ≠ 4 → (wn (wn u 12 i (nI (o - t))) 4 a (u 4 a + nI t)) k j = u k j := fun k j q1 q2 => by rw [pu_wn_k _ _ _ _ q2, pu_wn_k _ _ _ _ q1]
      have hw12 : ∀ j, (wn (wn u 12 i (nI (o - t))) 4 a (u 4 a + nI t)) 12 j = if j = i then nI (o - t) else u 12 j := fun j => by
        rw [pu_wn_k _ _ _ _ (by decide), pu_wn]
        simp
      obtain ⟨e1, e2, e3⟩ := ih (i + 1) (r0 - t) (wn (wn u 12 i (nI (o - t))) 4 a (u 4 a + nI t)) (by omega) (fun j q1 q2 => by rw [hw10 10 j (by decide) (by decide)]; exact h10 j (by omega) (by omega)) (fun j q1 q2 => by rw [hw12, if_neg (by omega)]; exact h12 j (by omega) (by omega)) (fun h hh => by
        have q := h4 h hh
        have hd : ((r0 - t : Nat) : Int) = r0 - t := by omega
        rw [pu_wn]
        by_cases cc : h = a
        · have ht : (nI t).toInt = t := nI_toInt (by omega)
          subst cc
          rw [if_pos ⟨rfl, rfl⟩, Int32.toInt_add, ht, show ((u 4 h).toInt + (t : Int)).bmod (2 ^ 32) = (u 4 h).toInt + t from Int.bmod_eq_of_le (by omega) (by omega)]
          omega
        · rw [if_neg (fun z => cc z.2), pu_wn_k _ _ _ _ (by decide)]
          omega)
      refine ⟨e1, fun j q1 q2 => ?_, fun j q => ?_⟩
      · by_cases cj : j = i
        · subst cj
          refine ⟨o - t, by omega, ?_⟩
          rw [e3 j (by omega), hw12, if_pos rfl]
        · exact e2 j (by omega) (by omega)
      · rw [e3 j (by omega), hw12, if_neg (by omega)]
    · rw [if_neg c]
      obtain ⟨e1, e2, e3⟩ := ih (i + 1) r0 u hr (fun j q1 q2 => h10 j (by omega) (by omega)) (fun j q1 q2 => h12 j (by omega) (by omega)) h4
      refine ⟨e1, fun j q1 q2 => ?_, fun j q => e3 j (by omega)⟩
      by_cases cj : j = i
      · subst cj
        rw [e3 j (by omega)]
        exact h12 j (by omega) (by omega)
      · exact e2 j (by omega) (by omega)
