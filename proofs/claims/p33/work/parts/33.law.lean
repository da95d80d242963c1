/-! the class's side, as proved for the whole claim -/
theorem Lst_lsz {v : VS} {l : List (Int32 × Int32 × Int32)} (h : Lst v l) (hl : l.length ≤ 12) : lsz v = l.length := by
  unfold lsz
  rw [h.1, nI_clamp (by omega)]
/-- bounds when only loans change -/
theorem SameL_G {v w : VS} {l' : List (Int32 × Int32 × Int32)} (g : G v) (hs : SameL v w) (hw : Lst w l') (hl' : l'.length ≤ 12) (hg : ∀ j, j < l'.length → ∃ a b o, a < hsz v ∧ b < hsz v ∧ a ≠ b ∧ 1 ≤ o ∧ o ≤ 200 ∧ w 10 j = nI a ∧ w 11 j = nI b ∧ w 12 j = nI o) : G w := by
  obtain ⟨ga, gh, gl, gb, gs, gt, gq⟩ := g
  have e0 : hsz w = hsz v := hsz_congr (hs 22 0 (by decide) (by decide))
  have e2 : qsz w = qsz v := by unfold qsz; rw [hs 22 2 (by decide) (by decide)]
  have e3 : hrz w = hrz v := by unfold hrz; rw [hs 22 3 (by decide) (by decide)]
  have e1 := Lst_lsz hw hl'
  have hk : ∀ k j, k < 10 → w k j = v k j := fun k j h => hs k j (by omega) (by omega)
  have hk2 : ∀ k j, 13 ≤ k → k < 22 → w k j = v k j := fun k j h h' => hs k j (by omega) (by omega)
  refine ⟨⟨?_, ?_, ?_, ?_, ?_, ?_, ?_, ?_, ?_, ?_⟩, ?_, ?_, ?_, ?_, ?_, ?_⟩
  · rw [hs 22 0 (by decide) (by decide), e0]; exact ga.1
  · rw [e0]; exact ga.2.1
  · rw [e1]; exact hw.1
  · rw [e1]; exact hl'
  · rw [hs 22 2 (by decide) (by decide), e2]; exact ga.2.2.2.2.1
  · rw [e2]; exact ga.2.2.2.2.2.1
  · rw [e2]; exact ga.2.2.2.2.2.2.1
  · rw [hs 22 3 (by decide) (by decide), e3]; exact ga.2.2.2.2.2.2.2.1
  · rw [e3]; exact ga.2.2.2.2.2.2.2.2.1
  · rw [hs 22 4 (by decide) (by decide)]; exact ga.2.2.2.2.2.2.2.2.2
  · intro j hj
    rw [e0] at hj
    rw [hk 0 j (by decide), hk 1 j (by decide), hk 2 j (by decide), hk 3 j (by decide), hk 4 j (by decide), hk 5 j (by decide)]
    exact gh j hj
  · intro k hk'
    rw [e1] at hk'
    rw [e0]
    exact hg k hk'
  · intro b hb
    rw [hk2 13 b (by decide) (by decide), hk2 14 b (by decide) (by decide), hk2 15 b (by decide) (by decide), hk2 16 b (by decide) (by decide)]
    exact gb b hb
  · exact ⟨by rw [hk2 17 0 (by decide) (by decide)]; exact gs.1, fun k hk' => by rw [hk2 17 k (by decide) (by decide)]; exact gs.2 k hk'⟩
  · exact ⟨by rw [hk2 19 0 (by decide) (by decide)]; exact gt.1, fun k hk' => by rw [hk2 20 k (by decide) (by decide)]; exact gt.2 k hk'⟩
  · intro k hk'
    rw [e2] at hk'
    rw [hk2 21 k (by decide) (by decide)]
    exact gq k hk'
theorem pd_all {v : VS} {l : List (Int32 × Int32 × Int32)} (h : Lst v l) (hlen : l.length = lsz v) (gl : GL v) : ∀ y, y ∈ l → pd y = true := by
  intro y hy
  obtain ⟨j, hj, e⟩ := List.mem_iff_getElem.mp hy
  have q := h.2 j hj
  rw [List.getElem?_eq_getElem hj, e] at q
  obtain ⟨a, b, o, _, _, _, h1, h2, _, _, e3⟩ := gl j (by omega)
  rw [Option.some.inj q]
  unfold pd
  refine decide_eq_true ?_
  show 0 < v 12 j
  rw [e3]
  exact nI_lt (a := 0) (by omega) (by omega)
def mtV (v : VS) : Option UInt64 := if smF (v 1) 0 (hsz v) 0 = 0 then some FP.dconst1 else bnd (n64 (FP.ddiv (FP.i2d (smF (v 5) 0 (hsz v) 0)) (FP.i2d (smF (v 1) 0 (hsz v) 0)))) (some (FP.ddiv (FP.i2d (smF (v 5) 0 (hsz v) 0)) (FP.i2d (smF (v 1) 0 (hsz v) 0))))
theorem sp_met {S : PS} (g : GA (S.1 0)) (gh : GH (S.1 0)) : f_X6_met S = mtV (S.1 0) := by
  have h10 := g.2.1
  obtain ⟨D, e, hD, _⟩ := smF_nat (f := S.1 0 1) (m := 50) (hsz (S.1 0)) 0 0 (fun j _ hj => (gh j (by omega)).2.1)
  rw [Nat.zero_add] at e
  have e' : smF (S.1 0 1) 0 (hsz (S.1 0)) 0 = nI D := e
  unfold f_X6_met mtV
  rw [sp_sum g (by decide), pu_some, e']
  by_cases h0 : D = 0
  · subst h0
    rw [if_pos (show nI 0 ≤ 0 by decide), if_pos (show nI 0 = 0 from rfl)]
  · rw [if_neg (nI_nle (by omega) (by omega)), if_neg (nI_ne0 (by omega) (by omega)), sp_sum g (by decide), pu_some]
/-- the quotient is a number: what is left of met -/
def N64 : Prop := ∀ a b : Nat, a ≤ 500 → 1 ≤ b → b ≤ 500 → n64 (FP.ddiv (FP.i2d (nI a)) (FP.i2d (nI b))) = true
theorem mtV_some (hN : N64) {v : VS} (g : GA v) (gh : GH v) : ∃ r, mtV v = some r := by
  have h10 := g.2.1
  obtain ⟨D, e, hD, _⟩ := smF_nat (f := v 1) (m := 50) (hsz v) 0 0 (fun j _ hj => (gh j (by omega)).2.1)
  obtain ⟨A, e2, hA, _⟩ := smF_nat (f := v 5) (m := 50) (hsz v) 0 0 (fun j _ hj => (gh j (by omega)).2.2.2.2.1)
  rw [Nat.zero_add] at e e2
  have e' : smF (v 1) 0 (hsz v) 0 = nI D := e
  have e2' : smF (v 5) 0 (hsz v) 0 = nI A := e2
  unfold mtV
  rw [e', e2']
  by_cases h0 : D = 0
  · subst h0
    exact ⟨_, if_pos rfl⟩
  · rw [if_neg (nI_ne0 (by omega) (by omega)), hN A D (by omega) (by omega) (by omega)]
    exact ⟨_, rfl⟩
theorem owF_nat {v : VS} (gl : GL v) {k : Nat} (p : Int32) {j : Nat} (hj : j < lsz v) : ∃ w, w ≤ 200 ∧ owF v k p j = nI w ∧ (w = 0 → v k j ≠ p) := by
  obtain ⟨a, b, o, h1, h2, h3, h4, h5, h6, h7, h8⟩ := gl j hj
  unfold owF
  by_cases c : v k j = p
  · exact ⟨o, h5, by rw [if_pos c, h8], fun z => by omega⟩
  · exact ⟨0, by omega, by rw [if_neg c]; rfl, fun _ => c⟩
/-- what a house owes or is owed is nothing just when no loan names it -/
theorem owed_0 {v : VS} (g : GA v) (gl : GL v) {k : Nat} (p : Int32) : ∃ S, S ≤ 2400 ∧ smF (owF v k p) 0 (lsz v) 0 = nI S ∧ (S = 0 ↔ ∀ j, j < lsz v → v k j ≠ p) := by
  have h12 := g.2.2.2.1
  obtain ⟨S, e1, e2, e3⟩ := smF_nat (f := owF v k p) (m := 200) (lsz v) 0 0 (fun j _ hj => by
    obtain ⟨w, q1, q2, _⟩ := owF_nat gl (k := k) p (j := j) (by omega)
    exact ⟨w, q1, q2⟩)
  rw [Nat.zero_add] at e1
  refine ⟨S, by omega, e1, fun h0 j hj => ?_, fun h0 => ?_⟩
  · obtain ⟨w, q1, q2, q3⟩ := owF_nat gl (k := k) p hj
    have q4 := e3 h0 j (Nat.zero_le _) (by omega)
    rw [q2] at q4
    exact q3 (nI_inj0 (by omega) (by omega) q4)
  · have hz : smF (owF v k p) 0 (lsz v) (nI 0) = smF (fun _ => 0) 0 (lsz v) (nI 0) := smF_congr _ _ _ (fun j _ hj => by unfold owF; rw [if_neg (h0 j (by omega))])
    have hz2 : ∀ (d i : Nat), smF (fun _ => (0 : Int32)) i d (nI 0) = nI 0 := by
      intro d
      induction d with
      | zero => intro i; rfl
      | succ d ih => intro i; exact ih (i + 1)
    rw [hz, hz2] at e1
    exact (nI_inj0 (by omega) (by omega) e1).symm
def plS (p : Int32) : Nat → Nat → Int32 → VS → VS
  | 0, _, _, u => u
  | d + 1, i, r, u => if u 11 i = p then plS p d (i + 1) (r - jmin r (u 12 i)) (wn (wn u 12 i (u 12 i - jmin r (u 12 i))) 4 (u 10 i).toNatClampNeg (u 4 (u 10 i).toNatClampNeg + jmin r (u 12 i))) else plS p d (i + 1) r u
theorem plS_k (p : Int32) {k : Nat} (h4 : k ≠ 4) (h12 : k ≠ 12) : ∀ (d i : Nat) (r : Int32) (u : VS) (j : Nat), plS p d i r u k j = u k j := by
  intro d
  induction d with
  | zero => intro i r u j; rfl
  | succ d ih =>
    intro i r u j
    unfold plS
    split
    · rw [ih, pu_wn_k _ _ _ _ h4, pu_wn_k _ _ _ _ h12]
    · exact ih _ _ _ _
theorem sp_pay {L : Nat} (hL : L ≤ 12) (p : Int32) : ∀ (d i n : Nat) (r : Int32) (u : VS), i + d = L → d < n → u 22 1 = nI L → (∀ j, j < L → ∃ a, a < 10 ∧ u 10 j = nI a) → f_X5_payLoans_5 p n r (nI i) u = bnd2 (f_X4_removePaid (plS p d i r u)) fun r => some r := by
  intro d
  induction d with
  | zero =>
    intro i n r u hi hn h22 h10
    obtain ⟨n, rfl⟩ : ∃ m, n = m + 1 := ⟨n - 1, by omega⟩
    obtain rfl : i = L := by omega
    simp (disch := omega) only [f_X5_payLoans_5, h22, nI_leI, Nat.le_refl, if_true]
    rfl
  | succ d ih =>
    intro i n r u hi hn h22 h10
    obtain ⟨n, rfl⟩ : ∃ m, n = m + 1 := ⟨n - 1, by omega⟩
    have h1 : ¬ L ≤ i := by omega
    obtain ⟨a, ha, ea⟩ := h10 i (by omega)
    have hcl : (nI a).toNatClampNeg = a := nI_clamp (by omega)
    unfold plS
    by_cases c : u 11 i = p
    · rw [if_pos c, ea, hcl]
      have e10 : (wn u 12 i (u 12 i - jmin r (u 12 i))) 10 i = nI a := by rw [pu_wn_k _ _ _ _ (by decide), ea]
      have e4 : (wn u 12 i (u 12 i - jmin r (u 12 i))) 4 a = u 4 a := pu_wn_k _ _ _ _ (by decide)
      have e := ih (i + 1) n (r - jmin r (u 12 i)) (wn (wn u 12 i (u 12 i - jmin r (u 12 i))) 4 a (u 4 a + jmin r (u 12 i))) (by omega) (by omega) (by rw [pu_wn_k _ _ _ _ (by decide), pu_wn_k _ _ _ _ (by decide), h22]) (fun j hj => by rw [pu_wn_k _ _ _ _ (by decide), pu_wn_k _ _ _ _ (by decide)]; exact h10 j hj)
      rw [← e]
      simp (disch := omega) only [f_X5_payLoans_5, f_X5_payLoans_90, h22, pu_bnd, pu_some, pu_let, pu_inb, pu_rd, pu_wr, nI_1, nI_leI, nI_ltI, nI_eq, pu_lit, nI_add, pk_mul, h1, if_false, c, if_true, e10, e4]
    · rw [if_neg c, ← ih (i + 1) n r u (by omega) (by omega) h22 h10]
      simp (disch := omega) only [f_X5_payLoans_5, f_X5_payLoans_90, h22, pu_bnd, pu_some, pu_let, pu_inb, pu_rd, pu_wr, nI_1, nI_leI, nI_ltI, nI_eq, pu_lit, nI_add, pk_mul, h1, if_false, c]
theorem plS_b {p : Int32} {m : Nat} {C : Int} (hC : C ≤ 2 ^ 30) (hm : m ≤ 10) : ∀ (d i r0 : Nat) (u : VS), r0 ≤ 500 → (∀ j, i ≤ j → j < i + d → ∃ a, a < m ∧ u 10 j = nI a) → (∀ j, i ≤ j → j < i + d → ∃ o, o ≤ 200 ∧ u 12 j = nI o) → (∀ h, h < m → -50 ≤ (u 4 h).toInt ∧ (u 4 h).toInt + r0 ≤ C) →
    (∀ h, h < m → -50 ≤ (plS p d i (nI r0) u 4 h).toInt ∧ (plS p d i (nI r0) u 4 h).toInt ≤ C) ∧ (∀ j, i ≤ j → j < i + d → ∃ o, o ≤ 200 ∧ plS p d i (nI r0) u 12 j = nI o) ∧ (∀ j, j < i → plS p d i (nI r0) u 12 j = u 12 j) := by
  intro d
  induction d with
  | zero =>
    intro i r0 u hr h10 h12 h4
    exact ⟨fun h hh => ⟨(h4 h hh).1, by have := (h4 h hh).2; show (u 4 h).toInt ≤ C; omega⟩, fun j h1 h2 => by omega, fun _ _ => rfl⟩
  | succ d ih =>
    intro i r0 u hr h10 h12 h4
    unfold plS
    by_cases c : u 11 i = p
    · obtain ⟨a, ha, ea⟩ := h10 i (Nat.le_refl _) (by omega)
      obtain ⟨o, ho, eo⟩ := h12 i (Nat.le_refl _) (by omega)
      have hcl : (nI a).toNatClampNeg = a := nI_clamp (by omega)
      have hle1 : min r0 o ≤ r0 := Nat.min_le_left _ _
      have hle2 : min r0 o ≤ o := Nat.min_le_right _ _
      rw [if_pos c, ea, hcl, eo, jmin_nI (by omega) (by omega), pk_sub hle1, pk_sub hle2]
      generalize min r0 o = t at hle1 hle2
      have hw10 : ∀ k j, k ≠ 12 → k ≠ 4 → (wn (wn u 12 i (nI (o - t))) 4 a (u 4 a + nI t)) k j = u k j := fun k j q1 q2 => by rw [pu_wn_k _ _ _ _ q2, pu_wn_k _ _ _ _ q1]
      have hw12 : ∀ j, (wn (wn u 12 i (nI (o - t))) 4 a (u 4 a + nI t)) 12 j = if j = i then nI (o - t) else u 12 j := fun j => by
        rw [pu_wn_k _ _ _ _ (by decide), pu_wn]
        simp
      obtain ⟨e1, e2, e3⟩ := ih (i + 1) (r0 - t) (wn (wn u 12 i (nI (o - t))) 4 a (u 4 a + nI t)) (by omega) (fun j q1 q2 => by rw [hw10 10 j (by decide) (by decide)]; exact h10 j (by omega) (by omega)) (fun j q1 q2 => by rw [hw12, if_neg (by omega)]; exact h12 j (by omega) (by omega)) (fun h hh => by
        have q := h4 h hh
        have hd : ((r0 - t : Nat) : Int) = r0 - t := by omega
        rw [pu_wn]
        by_cases cc : h = a
        · have ht : (nI t).toInt = t := nI_toInt (by omega)
          subst cc
          rw [if_pos ⟨rfl, rfl⟩, Int32.toInt_add, ht, show ((u 4 h).toInt + (t : Int)).bmod (2 ^ 32) = (u 4 h).toInt + t from Int.bmod_eq_of_le (by omega) (by omega)]
          omega
        · rw [if_neg (fun z => cc z.2), pu_wn_k _ _ _ _ (by decide)]
          omega)
      refine ⟨e1, fun j q1 q2 => ?_, fun j q => ?_⟩
      · by_cases cj : j = i
        · subst cj
          refine ⟨o - t, by omega, ?_⟩
          rw [e3 j (by omega), hw12, if_pos rfl]
        · exact e2 j (by omega) (by omega)
      · rw [e3 j (by omega), hw12, if_neg (by omega)]
    · rw [if_neg c]
      obtain ⟨e1, e2, e3⟩ := ih (i + 1) r0 u hr (fun j q1 q2 => h10 j (by omega) (by omega)) (fun j q1 q2 => h12 j (by omega) (by omega)) h4
      refine ⟨e1, fun j q1 q2 => ?_, fun j q => e3 j (by omega)⟩
      by_cases cj : j = i
      · subst cj
        rw [e3 j (by omega)]
        exact h12 j (by omega) (by omega)
      · exact e2 j (by omega) (by omega)

def pdN (v : VS) (p x : Nat) : Nat := min (v 2 p).toNatClampNeg (x * (v 17 1).toNatClampNeg / 100)
def owN (v : VS) (p : Nat) : Nat := (smF (owF v 11 (nI p)) 0 (lsz v) 0).toNatClampNeg
def plN (v : VS) (p x : Nat) : Nat := min (owN v p) ((x - pdN v p x) * (v 17 2).toNatClampNeg / 100)
theorem pct_le {x s : Nat} (h : s ≤ 100) : x * s / 100 ≤ x := by
  have : x * s ≤ x * 100 := Nat.mul_le_mul_left x h
  omega
theorem ow_nI {v : VS} (g : G v) (p : Nat) : smF (owF v 11 (nI p)) 0 (lsz v) 0 = nI (owN v p) ∧ owN v p ≤ 2400 := by
  obtain ⟨S, e1, e2, _⟩ := owed_0 g.1 g.2.2.1 (k := 11) (nI p)
  unfold owN
  rw [e2, nI_clamp (by omega)]
  exact ⟨rfl, e1⟩
theorem pd_le {v : VS} (g : G v) (p x : Nat) : pdN v p x ≤ x := by
  obtain ⟨s, h, e⟩ := g.2.2.2.2.1.2 1 (by decide)
  unfold pdN
  rw [e, nI_clamp (by omega)]
  exact Nat.le_trans (Nat.min_le_right _ _) (pct_le h)
theorem pl_le {v : VS} (g : G v) (p x : Nat) : plN v p x ≤ x - pdN v p x := by
  obtain ⟨s, h, e⟩ := g.2.2.2.2.1.2 2 (by decide)
  unfold plN
  rw [e, nI_clamp (by omega)]
  exact Nat.le_trans (Nat.min_le_right _ _) (pct_le h)
theorem pd_d {v : VS} (g : G v) {p : Nat} (hp : p < hsz v) (x : Nat) : ∃ d, d ≤ 1000 ∧ v 2 p = nI d ∧ pdN v p x ≤ d := by
  obtain ⟨d, h, e⟩ := (g.2.1 p hp).2.2.1
  refine ⟨d, h, e, ?_⟩
  unfold pdN
  rw [e, nI_clamp (by omega)]
  exact Nat.min_le_left _ _
theorem i100 : (100 : Int32) = nI 100 := rfl
theorem sp_pd {v : VS} (g : G v) {p x : Nat} (hp : p < hsz v) (hx : x ≤ 500) : f_X5_partForDebt v (nI p) (nI x) = some (nI (pdN v p x)) := by
  have h10 := g.1.2.1
  obtain ⟨d, hd, e⟩ := (g.2.1 p hp).2.2.1
  obtain ⟨s, hs, e1⟩ := g.2.2.2.2.1.2 1 (by decide)
  have hm : x * s ≤ 500 * 100 := Nat.mul_le_mul hx hs
  have hdv : nI (x * s) / nI 100 = nI (x * s / 100) := pk_div (by omega) (by decide) (by decide)
  have hq : x * s / 100 ≤ x := pct_le hs
  unfold f_X5_partForDebt pdN
  rw [e, e1, nI_clamp (by omega), nI_clamp (by omega), ← jmin_nI (by omega) (by omega), ← hdv]
  simp (disch := omega) only [pu_bnd, pu_some, pu_let, pu_inb, pu_rd, pu_wr, nI_1, nI_leI, nI_ltI, nI_eq, pu_lit, nI_add, pk_mul, e, e1]
theorem sp_pl {v : VS} (g : G v) {p x : Nat} (hp : p < hsz v) (hx : x ≤ 500) : f_X5_partForLoans v (nI p) (nI x) = some (nI (plN v p x)) := by
  have h10 := g.1.2.1
  obtain ⟨s, hs, e1⟩ := g.2.2.2.2.1.2 2 (by decide)
  obtain ⟨o1, o2⟩ := ow_nI g p
  have hpd := pd_le g p x
  have hm : (x - pdN v p x) * s ≤ 500 * 100 := Nat.mul_le_mul (by omega) hs
  have hdv : nI ((x - pdN v p x) * s) / nI 100 = nI ((x - pdN v p x) * s / 100) := pk_div (by omega) (by decide) (by decide)
  have hq : (x - pdN v p x) * s / 100 ≤ x - pdN v p x := pct_le hs
  unfold f_X5_partForLoans f_X4_owedBy plN
  rw [sp_pd g hp hx, pu_some, pu_let, pk_sub hpd, sp_sumOwed g.1 (Or.inr rfl), pu_some, pu_some, o1, show (2 : Int32) = nI 2 from rfl, pu_inb (by decide) (by decide), pu_bnd, pu_rd (by decide), e1, nI_clamp (by omega), pk_mul, i100, hdv, jmin_nI (by omega) (by omega)]
def rpV (v : VS) : VS := (f_X4_removePaid v).getD v
def tk0V (v : VS) (p x : Nat) : VS := wn v 2 p (v 2 p - nI (pdN v p x))
def tkB (v : VS) (p x : Nat) : VS := plS (nI p) (lsz v) 0 (nI (plN v p x)) (tk0V v p x)
def tkE (r : VS) (p x D P : Nat) : VS := wn (wn (wn r 4 p (r 4 p + nI (x - D - P))) 18 6 (r 18 6 + nI x)) 18 7 (r 18 7 + nI D)
def TK (v : VS) (p x : Nat) : VS := tkE (rpV (tkB v p x)) p x (pdN v p x) (plN v p x)
theorem tkB_k (v : VS) (p x : Nat) {k j : Nat} (h2 : k ≠ 2 ∨ j ≠ p) (h4 : k ≠ 4) (h12 : k ≠ 12) : tkB v p x k j = v k j := by
  unfold tkB tk0V
  rw [plS_k _ h4 h12, pu_wn, if_neg (by omega)]
theorem tkB_2 (v : VS) (p x : Nat) : tkB v p x 2 p = v 2 p - nI (pdN v p x) := by
  unfold tkB tk0V
  rw [plS_k _ (by decide) (by decide), pu_wn_s]
theorem tkB_GA {v : VS} (ga : GA v) (p x : Nat) : GA (tkB v p x) := ga.congr' fun j => tkB_k v p x (Or.inl (by decide)) (by decide) (by decide)
theorem tkB_b {v : VS} (g : G v) {c t p x : Nat} (gn : GN c t v) (hp : p < hsz v) (hc : c ≤ 600000) (hx : x ≤ 500) : (∀ h, h < hsz v → -50 ≤ (tkB v p x 4 h).toInt ∧ (tkB v p x 4 h).toInt ≤ ((c + plN v p x : Nat) : Int)) ∧ (∀ j, j < lsz v → ∃ o, o ≤ 200 ∧ tkB v p x 12 j = nI o) := by
  have e1 := pl_le g p x
  have e2 := g.1.2.1
  have e3 := g.1.2.2.2.1
  have hk : ∀ k j, k ≠ 2 → tk0V v p x k j = v k j := fun k j h => pu_wn_k _ _ _ _ h
  obtain ⟨q1, q2, _⟩ := plS_b (p := nI p) (m := hsz v) (C := ((c + plN v p x : Nat) : Int)) (by omega) e2 (lsz v) 0 (plN v p x) (tk0V v p x) (by omega) (fun j _ hj => by
    obtain ⟨a, b, o, h1, _, _, _, _, h6, _⟩ := g.2.2.1 j (by omega)
    exact ⟨a, h1, by rw [hk 10 j (by decide)]; exact h6⟩) (fun j _ hj => by
    obtain ⟨a, b, o, _, _, _, _, h5, _, _, h8⟩ := g.2.2.1 j (by omega)
    exact ⟨o, h5, by rw [hk 12 j (by decide)]; exact h8⟩) (fun h hh => by
    rw [hk 4 h (by decide)]
    have := (g.2.1 h hh).2.2.2.2.2
    have := gn.1 h hh
    omega)
  exact ⟨q1, fun j hj => q2 j (Nat.zero_le _) (by omega)⟩
theorem rpV_of {v : VS} {l : List (Int32 × Int32 × Int32)} (h : Lst v l) (hl : l.length ≤ 12) : f_X4_removePaid v = some (rpV v) ∧ Lst (rpV v) (l.filter pd) ∧ SameL v (rpV v) := by
  obtain ⟨w, w1, w2, w3⟩ := sp_removePaid h hl
  have : rpV v = w := by unfold rpV; rw [w1]; rfl
  rw [this]
  exact ⟨w1, w2, w3⟩
theorem sp_token {v : VS} (g : G v) {p x : Nat} (hp : p < hsz v) (hx : x ≤ 500) : f_X5_takeToken v (nI p) (nI x) = some (TK v p x) := by
  have h10 := g.1.2.1
  have h12 := g.1.2.2.2.1
  have epd := pd_le g p x
  have epl := pl_le g p x
  obtain ⟨l, l1, l2⟩ := Lst_of (tkB v p x) (tkB_GA g.1 p x)
  have hlB : lsz (tkB v p x) = lsz v := by unfold lsz; rw [tkB_k v p x (Or.inl (by decide)) (by decide) (by decide)]
  obtain ⟨r1, _, _⟩ := rpV_of l1 (by omega)
  have hpay : f_X5_payLoans (tk0V v p x) (nI p) (nI (plN v p x)) = some (rpV (tkB v p x)) := by
    unfold f_X5_payLoans
    rw [show (0 : Int32) = nI 0 from rfl, sp_pay h12 (nI p) (lsz v) 0 fuel _ _ (by omega) (fuel_gt (by omega)) (by unfold tk0V; rw [pu_wn_k _ _ _ _ (by decide)]; exact g.1.2.2.1) (fun j hj => by
      obtain ⟨a, b, o, q1, _, _, _, _, q6, _⟩ := g.2.2.1 j hj
      exact ⟨a, by omega, by unfold tk0V; rw [pu_wn_k _ _ _ _ (by decide)]; exact q6⟩)]
    show (bnd2 (f_X4_removePaid (tkB v p x)) fun r => some r) = _
    rw [r1, pu_some]
  unfold f_X5_takeToken
  rw [sp_pd g hp hx, pu_some, sp_pl g hp hx, pu_some, pu_inb (by omega : p < 10) (by decide), pu_bnd, pu_bnd, pu_let, pu_wr (by omega), pu_rd (by omega), show wn v 2 p (v 2 p - nI (pdN v p x)) = tk0V v p x from rfl, hpay, pu_some, pk_sub epd, pk_sub epl]
  have e7 : ∀ (z : VS) (y : Int32), (wn z 18 6 y) 18 7 = z 18 7 := fun z y => pu_wn_j _ _ _ _ (by decide)
  have e6 : ∀ (z : VS) (y : Int32), (wn z 4 p y) 18 6 = z 18 6 := fun z y => pu_wn_k _ _ _ _ (by decide)
  have e67 : ∀ (z : VS) (y : Int32), (wn z 4 p y) 18 7 = z 18 7 := fun z y => pu_wn_k _ _ _ _ (by decide)
  simp (disch := omega) only [pu_bnd, pu_let, pu_inb, pu_rd, pu_wr, pu_lit, e7, e6, e67]
  rfl
theorem mem_Lst {u : VS} {l : List (Int32 × Int32 × Int32)} (h : Lst u l) {y : Int32 × Int32 × Int32} (hy : y ∈ l) : ∃ i, i < l.length ∧ y = (u 10 i, u 11 i, u 12 i) := by
  obtain ⟨i, hi, e⟩ := List.mem_iff_getElem.mp hy
  have q := h.2 i hi
  rw [List.getElem?_eq_getElem hi, e] at q
  exact ⟨i, hi, Option.some.inj q⟩
theorem tkR {v : VS} (g : G v) {c t p x : Nat} (gn : GN c t v) (hp : p < hsz v) (hc : c ≤ 600000) (hx : x ≤ 500) : G (rpV (tkB v p x)) ∧ (∀ h, h < hsz v → -50 ≤ (rpV (tkB v p x) 4 h).toInt ∧ (rpV (tkB v p x) 4 h).toInt ≤ ((c + plN v p x : Nat) : Int)) ∧ SameL (tkB v p x) (rpV (tkB v p x)) ∧ ∃ l, Lst (tkB v p x) l ∧ l.length = lsz v ∧ Lst (rpV (tkB v p x)) (l.filter pd) := by
  obtain ⟨b1, b2⟩ := tkB_b g gn hp hc hx
  have epd := pd_le g p x
  have h10 := g.1.2.1
  have h12 := g.1.2.2.2.1
  obtain ⟨l, l1, l2⟩ := Lst_of (tkB v p x) (tkB_GA g.1 p x)
  have hlB : lsz (tkB v p x) = lsz v := by unfold lsz; rw [tkB_k v p x (Or.inl (by decide)) (by decide) (by decide)]
  obtain ⟨r1, r2, r3⟩ := rpV_of l1 (by omega)
  -- the village with the loans as before
  have hV : ∃ v' : VS, G v' ∧ SameL v' (rpV (tkB v p x)) ∧ hsz v' = hsz v := by
    refine ⟨fun k j => if 10 ≤ k ∧ k < 13 then v k j else tkB v p x k j, ?_, ?_, ?_⟩
    · refine G_upd g (fun j => ?_) (Or.inr ?_) (Or.inl fun k j h1 h2 => if_pos ⟨h1, h2⟩) (Or.inl fun k j h1 h2 => ?_) (Or.inl fun j => ?_) (fun k j h1 h2 => ?_)
      · exact tkB_k v p x (Or.inl (by decide)) (by decide) (by decide)
      · intro h hh
        have hh' : h < hsz v := by
          have e : hsz (fun k j => if 10 ≤ k ∧ k < 13 then v k j else tkB v p x k j) = hsz v := hsz_congr (tkB_k v p x (Or.inl (by decide)) (by decide) (by decide))
          rw [← e]; exact hh
        have hk : ∀ k, k < 8 → k ≠ 2 → k ≠ 4 → (if 10 ≤ k ∧ k < 13 then v k h else tkB v p x k h) = v k h := fun k q1 q2 q3 => by rw [if_neg (by omega), tkB_k v p x (Or.inl q2) q3 (by omega)]
        obtain ⟨q1, q2, q3, q4, q5, q6⟩ := g.2.1 h hh'
        refine ⟨by simp only [hk 0 (by decide) (by decide) (by decide)]; exact q1, by simp only [hk 1 (by decide) (by decide) (by decide)]; exact q2, ?_, by simp only [hk 3 (by decide) (by decide) (by decide)]; exact q4, by simp only [hk 5 (by decide) (by decide) (by decide)]; exact q5, ?_⟩
        · show ∃ d, d ≤ 1000 ∧ (if 10 ≤ 2 ∧ 2 < 13 then v 2 h else tkB v p x 2 h) = nI d
          rw [if_neg (by decide)]
          by_cases c : h = p
          · obtain ⟨d, d1, d2, d3⟩ := pd_d g hp x
            rw [c, tkB_2, d2, pk_sub d3]
            exact ⟨_, by omega, rfl⟩
          · rw [tkB_k v p x (Or.inr c) (by decide) (by decide)]
            exact q3
        · show -50 ≤ (if 10 ≤ 4 ∧ 4 < 13 then v 4 h else tkB v p x 4 h).toInt
          rw [if_neg (by decide)]
          exact (b1 h hh').1
      · show (if 10 ≤ k ∧ k < 13 then v k j else tkB v p x k j) = v k j
        rw [if_neg (by omega), tkB_k v p x (Or.inl (by omega)) (by omega) (by omega)]
      · exact tkB_k v p x (Or.inl (by decide)) (by decide) (by decide)
      · show (if 10 ≤ k ∧ k < 13 then v k j else tkB v p x k j) = v k j
        rw [if_neg (by omega), tkB_k v p x (Or.inl (by omega)) (by omega) (by omega)]
    · intro k j h1 h2
      rw [r3 k j h1 h2]
      exact (if_neg h1).symm
    · exact hsz_congr (tkB_k v p x (Or.inl (by decide)) (by decide) (by decide))
  obtain ⟨v', v1, v2, v3⟩ := hV
  have hle : (l.filter pd).length ≤ 12 := Nat.le_trans (List.length_filter_le _ _) (by omega)
  refine ⟨SameL_G v1 v2 r2 hle (fun j hj => ?_), fun h hh => ?_, r3, l, l1, by omega, r2⟩
  · have q := r2.2 j hj
    have hmem : (rpV (tkB v p x) 10 j, rpV (tkB v p x) 11 j, rpV (tkB v p x) 12 j) ∈ l.filter pd := List.mem_iff_getElem?.mpr ⟨j, q⟩
    obtain ⟨m1, m2⟩ := List.mem_filter.mp hmem
    obtain ⟨i, i1, i2⟩ := mem_Lst l1 m1
    rw [Prod.mk.injEq, Prod.mk.injEq] at i2
    obtain ⟨a, b, o, q1, q2, q3, q4, q5, q6, q7, q8⟩ := g.2.2.1 i (by omega)
    obtain ⟨o', p1, p2⟩ := b2 i (by omega)
    have e10 : tkB v p x 10 i = nI a := by rw [tkB_k v p x (Or.inl (by decide)) (by decide) (by decide)]; exact q6
    have e11 : tkB v p x 11 i = nI b := by rw [tkB_k v p x (Or.inl (by decide)) (by decide) (by decide)]; exact q7
    refine ⟨a, b, o', by rw [v3]; exact q1, by rw [v3]; exact q2, q3, ?_, p1, by rw [i2.1]; exact e10, by rw [i2.2.1]; exact e11, by rw [i2.2.2]; exact p2⟩
    unfold pd at m2
    have m3 := of_decide_eq_true m2
    rw [i2.2.2, p2] at m3
    by_cases z : 1 ≤ o'
    · exact z
    · exact absurd m3 (nI_nlt (a := 0) (by omega) (by omega))
  · rw [r3 4 h (by omega) (by omega)]
    exact b1 h hh
theorem tkE_k (r : VS) (p x D P : Nat) {k j : Nat} (h4 : k ≠ 4 ∨ j ≠ p) (h18 : k ≠ 18) : tkE r p x D P k j = r k j := by
  unfold tkE
  rw [pu_wn_k _ _ _ _ h18, pu_wn_k _ _ _ _ h18, pu_wn, if_neg (by omega)]
theorem tkE_4 (r : VS) (p x D P : Nat) : tkE r p x D P 4 p = r 4 p + nI (x - D - P) := by
  unfold tkE
  rw [pu_wn_k _ _ _ _ (by decide), pu_wn_k _ _ _ _ (by decide), pu_wn_s]
theorem tkR_22 {v : VS} {p x k j : Nat} (hs : SameL (tkB v p x) (rpV (tkB v p x))) (h : ¬ (10 ≤ k ∧ k < 13)) (h22 : ¬ (k = 22 ∧ j = 1)) (h2 : k ≠ 2 ∨ j ≠ p) (h4 : k ≠ 4) : rpV (tkB v p x) k j = v k j := by
  rw [hs k j h h22, tkB_k v p x h2 h4 (by omega)]
theorem TK_G {v : VS} (g : G v) {c t p x : Nat} (gn : GN c t v) (hp : p < hsz v) (hc : c ≤ 600000) (hx : x ≤ 500) : G (TK v p x) ∧ GN (c + 500) t (TK v p x) ∧ hsz (TK v p x) = hsz v := by
  obtain ⟨r1, r2, r3, _⟩ := tkR g gn hp hc hx
  have epd := pd_le g p x
  have epl := pl_le g p x
  have hh : hsz (rpV (tkB v p x)) = hsz v := hsz_congr (tkR_22 r3 (by decide) (by decide) (Or.inl (by decide)) (by decide))
  have hh2 : hsz (TK v p x) = hsz v := by
    rw [← hh]
    exact hsz_congr (tkE_k _ _ _ _ _ (Or.inl (by decide)) (by decide))
  have hr : hrz (TK v p x) = hrz v := by
    unfold hrz
    rw [show TK v p x 22 3 = rpV (tkB v p x) 22 3 from tkE_k _ _ _ _ _ (Or.inl (by decide)) (by decide), tkR_22 r3 (by decide) (by decide) (Or.inl (by decide)) (by decide)]
  have h4 : ∀ h, h < hsz v → -50 ≤ (TK v p x 4 h).toInt ∧ (TK v p x 4 h).toInt ≤ ((c + 500 : Nat) : Int) := fun h hh' => by
    have q := r2 h hh'
    by_cases cc : h = p
    · subst cc
      have ht : (nI (x - pdN v h x - plN v h x)).toInt = ((x - pdN v h x - plN v h x : Nat) : Int) := nI_toInt (by omega)
      rw [show TK v h x 4 h = _ from tkE_4 _ _ _ _ _, Int32.toInt_add, ht, show ((rpV (tkB v h x) 4 h).toInt + ((x - pdN v h x - plN v h x : Nat) : Int)).bmod (2 ^ 32) = (rpV (tkB v h x) 4 h).toInt + ((x - pdN v h x - plN v h x : Nat) : Int) from Int.bmod_eq_of_le (by omega) (by omega)]
      omega
    · rw [show TK v p x 4 h = rpV (tkB v p x) 4 h from tkE_k _ _ _ _ _ (Or.inr cc) (by decide)]
      omega
  refine ⟨G_upd r1 (fun j => tkE_k _ _ _ _ _ (Or.inl (by decide)) (by decide)) (Or.inr ?_) (Or.inl fun k j h1 h2 => tkE_k _ _ _ _ _ (Or.inl (by omega)) (by omega)) (Or.inl fun k j h1 h2 => tkE_k _ _ _ _ _ (Or.inl (by omega)) (by omega)) (Or.inl fun j => tkE_k _ _ _ _ _ (Or.inl (by decide)) (by decide)) (fun k j h1 h2 => tkE_k _ _ _ _ _ (Or.inl (by omega)) (by omega)), ⟨fun h hh' => (h4 h (by rw [← hh2]; exact hh')).2, by rw [hr]; exact gn.2⟩, hh2⟩
  intro h hh'
  change h < hsz (TK v p x) at hh'
  change (∃ f, f < 3 ∧ TK v p x 0 h = nI f) ∧ (∃ d, d ≤ 50 ∧ TK v p x 1 h = nI d) ∧ (∃ d, d ≤ 1000 ∧ TK v p x 2 h = nI d) ∧ (∃ c, c < 2 ∧ TK v p x 3 h = nI c) ∧ (∃ g, g ≤ 50 ∧ TK v p x 5 h = nI g) ∧ -50 ≤ (TK v p x 4 h).toInt
  have hk : ∀ k, k ≠ 4 → k ≠ 18 → TK v p x k h = rpV (tkB v p x) k h := fun k q1 q2 => tkE_k _ _ _ _ _ (Or.inl q1) q2
  have hhv : h < hsz v := by rw [← hh2]; exact hh'
  obtain ⟨q1, q2, q3, q4, q5, q6⟩ := r1.2.1 h (by rw [hh]; exact hhv)
  rw [hk 0 (by decide) (by decide), hk 1 (by decide) (by decide), hk 2 (by decide) (by decide), hk 3 (by decide) (by decide), hk 5 (by decide) (by decide)]
  exact ⟨q1, q2, q3, q4, q5, (h4 h hhv).1⟩

