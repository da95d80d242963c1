/-! a token's parts -/
def pdN (v : VS) (p x : Nat) : Nat := min (v 2 p).toNatClampNeg (x * (v 17 1).toNatClampNeg / 100)
def owN (v : VS) (p : Nat) : Nat := (smF (owF v 11 (nI p)) 0 (lsz v) 0).toNatClampNeg
def plN (v : VS) (p x : Nat) : Nat := min (owN v p) ((x - pdN v p x) * (v 17 2).toNatClampNeg / 100)
theorem pct_le {x s : Nat} (h : s ≤ 100) : x * s / 100 ≤ x := by
  have : x * s ≤ x * 100 := Nat.mul_le_mul_left x h
  omega
theorem ow_nI {v : VS} (g : G v) (p : Nat) : smF (owF v 11 (nI p)) 0 (lsz v) 0 = nI (owN v p) ∧ owN v p ≤ 2400 := by
  obtain ⟨S, e1, e2, _⟩ := owed_0 g.1 g.2.2.1 (k := 11) (nI p)
  unfold owN
  rw [e2, nI_clamp (by omega)]
  exact ⟨rfl, e1⟩
theorem pd_le {v : VS} (g : G v) (p x : Nat) : pdN v p x ≤ x := by
  obtain ⟨s, h, e⟩ := g.2.2.2.2.1.2 1 (by decide)
  unfold pdN
  rw [e, nI_clamp (by omega)]
  exact Nat.le_trans (Nat.min_le_right _ _) (pct_le h)
theorem pl_le {v : VS} (g : G v) (p x : Nat) : plN v p x ≤ x - pdN v p x := by
  obtain ⟨s, h, e⟩ := g.2.2.2.2.1.2 2 (by decide)
  unfold plN
  rw [e, nI_clamp (by omega)]
  exact Nat.le_trans (Nat.min_le_right _ _) (pct_le h)
theorem pd_d {v : VS} (g : G v) {p : Nat} (hp : p < hsz v) (x : Nat) : ∃ d, d ≤ 1000 ∧ v 2 p = nI d ∧ pdN v p x ≤ d := by
  obtain ⟨d, h, e⟩ := (g.2.1 p hp).2.2.1
  refine ⟨d, h, e, ?_⟩
  unfold pdN
  rw [e, nI_clamp (by omega)]
  exact Nat.min_le_left _ _
theorem i100 : (100 : Int32) = nI 100 := rfl
theorem sp_pd {v : VS} (g : G v) {p x : Nat} (hp : p < hsz v) (hx : x ≤ 500) : f_X5_partForDebt v (nI p) (nI x) = some (nI (pdN v p x)) := by
  have h10 := g.1.2.1
  obtain ⟨d, hd, e⟩ := (g.2.1 p hp).2.2.1
  obtain ⟨s, hs, e1⟩ := g.2.2.2.2.1.2 1 (by decide)
  have hm : x * s ≤ 500 * 100 := Nat.mul_le_mul hx hs
  have hdv : nI (x * s) / nI 100 = nI (x * s / 100) := pk_div (by omega) (by decide) (by decide)
  have hq : x * s / 100 ≤ x := pct_le hs
  unfold f_X5_partForDebt pdN
  rw [e, e1, nI_clamp (by omega), nI_clamp (by omega), ← jmin_nI (by omega) (by omega), ← hdv]
  simp (disch := omega) only [pu_bnd, pu_some, pu_let, pu_inb, pu_rd, pu_wr, nI_1, nI_leI, nI_ltI, nI_eq, pu_lit, nI_add, pk_mul, e, e1]
theorem sp_pl {v : VS} (g : G v) {p x : Nat} (hp : p < hsz v) (hx : x ≤ 500) : f_X5_partForLoans v (nI p) (nI x) = some (nI (plN v p x)) := by
  have h10 := g.1.2.1
  obtain ⟨s, hs, e1⟩ := g.2.2.2.2.1.2 2 (by decide)
  obtain ⟨o1, o2⟩ := ow_nI g p
  have hpd := pd_le g p x
  have hm : (x - pdN v p x) * s ≤ 500 * 100 := Nat.mul_le_mul (by omega) hs
  have hdv : nI ((x - pdN v p x) * s) / nI 100 = nI ((x - pdN v p x) * s / 100) := pk_div (by omega) (by decide) (by decide)
  have hq : (x - pdN v p x) * s / 100 ≤ x - pdN v p x := pct_le hs
  unfold f_X5_partForLoans f_X4_owedBy plN
  rw [sp_pd g hp hx, pu_some, pu_let, pk_sub hpd, sp_sumOwed g.1 (Or.inr rfl), pu_some, pu_some, o1, show (2 : Int32) = nI 2 from rfl, pu_inb (by decide) (by decide), pu_bnd, pu_rd (by decide), e1, nI_clamp (by omega), pk_mul, i100, hdv, jmin_nI (by omega) (by omega)]
def rpV (v : VS) : VS := (f_X4_removePaid v).getD v
def tk0V (v : VS) (p x : Nat) : VS := wn v 2 p (v 2 p - nI (pdN v p x))
def tkB (v : VS) (p x : Nat) : VS := plS (nI p) (lsz v) 0 (nI (plN v p x)) (tk0V v p x)
def tkE (r : VS) (p x D P : Nat) : VS := wn (wn (wn r 4 p (r 4 p + nI (x - D - P))) 18 6 (r 18 6 + nI x)) 18 7 (r 18 7 + nI D)
def TK (v : VS) (p x : Nat) : VS := tkE (rpV (tkB v p x)) p x (pdN v p x) (plN v p x)
theorem tkB_k (v : VS) (p x : Nat) {k j : Nat} (h2 : k ≠ 2 ∨ j ≠ p) (h4 : k ≠ 4) (h12 : k ≠ 12) : tkB v p x k j = v k j := by
  unfold tkB tk0V
  rw [plS_k _ h4 h12, pu_wn, if_neg (by omega)]
theorem tkB_2 (v : VS) (p x : Nat) : tkB v p x 2 p = v 2 p - nI (pdN v p x) := by
  unfold tkB tk0V
  rw [plS_k _ (by decide) (by decide), pu_wn_s]
theorem tkB_GA {v : VS} (ga : GA v) (p x : Nat) : GA (tkB v p x) := ga.congr' fun j => tkB_k v p x (Or.inl (by decide)) (by decide) (by decide)
theorem tkB_b {v : VS} (g : G v) {c t p x : Nat} (gn : GN c t v) (hp : p < hsz v) (hc : c ≤ 600000) (hx : x ≤ 500) : (∀ h, h < hsz v → -50 ≤ (tkB v p x 4 h).toInt ∧ (tkB v p x 4 h).toInt ≤ ((c + plN v p x : Nat) : Int)) ∧ (∀ j, j < lsz v → ∃ o, o ≤ 200 ∧ tkB v p x 12 j = nI o) := by
  have e1 := pl_le g p x
  have e2 := g.1.2.1
  have e3 := g.1.2.2.2.1
  have hk : ∀ k j, k ≠ 2 → tk0V v p x k j = v k j := fun k j h => pu_wn_k _ _ _ _ h
  obtain ⟨q1, q2, _⟩ := plS_b (p := nI p) (m := hsz v) (C := ((c + plN v p x : Nat) : Int)) (by omega) e2 (lsz v) 0 (plN v p x) (tk0V v p x) (by omega) (fun j _ hj => by
    obtain ⟨a, b, o, h1, _, _, _, _, h6, _⟩ := g.2.2.1 j (by omega)
    exact ⟨a, h1, by rw [hk 10 j (by decide)]; exact h6⟩) (fun j _ hj => by
    obtain ⟨a, b, o, _, _, _, _, h5, _, _, h8⟩ := g.2.2.1 j (by omega)
    exact ⟨o, h5, by rw [hk 12 j (by decide)]; exact h8⟩) (fun h hh => by
    rw [hk 4 h (by decide)]
    have := (g.2.1 h hh).2.2.2.2.2
    have := gn.1 h hh
    omega)
  exact ⟨q1, fun j hj => q2 j (Nat.zero_le _) (by omega)⟩
theorem rpV_of {v : VS} {l : List (Int32 × Int32 × Int32)} (h : Lst v l) (hl : l.length ≤ 12) : f_X4_removePaid v = some (rpV v) ∧ Lst (rpV v) (l.filter pd) ∧ SameL v (rpV v) := by
  obtain ⟨w, w1, w2, w3⟩ := sp_removePaid h hl
  have : rpV v = w := by unfold rpV; rw [w1]; rfl
  rw [this]
  exact ⟨w1, w2, w3⟩
theorem sp_token {v : VS} (g : G v) {p x : Nat} (hp : p < hsz v) (hx : x ≤ 500) : f_X5_takeToken v (nI p) (nI x) = some (TK v p x) := by
  have h10 := g.1.2.1
  have h12 := g.1.2.2.2.1
  have epd := pd_le g p x
  have epl := pl_le g p x
  obtain ⟨l, l1, l2⟩ := Lst_of (tkB v p x) (tkB_GA g.1 p x)
  have hlB : lsz (tkB v p x) = lsz v := by unfold lsz; rw [tkB_k v p x (Or.inl (by decide)) (by decide) (by decide)]
  obtain ⟨r1, _, _⟩ := rpV_of l1 (by omega)
  have hpay : f_X5_payLoans (tk0V v p x) (nI p) (nI (plN v p x)) = some (rpV (tkB v p x)) := by
    unfold f_X5_payLoans
    rw [show (0 : Int32) = nI 0 from rfl, sp_pay h12 (nI p) (lsz v) 0 fuel _ _ (by omega) (fuel_gt (by omega)) (by unfold tk0V; rw [pu_wn_k _ _ _ _ (by decide)]; exact g.1.2.2.1) (fun j hj => by
      obtain ⟨a, b, o, q1, _, _, _, _, q6, _⟩ := g.2.2.1 j hj
      exact ⟨a, by omega, by unfold tk0V; rw [pu_wn_k _ _ _ _ (by decide)]; exact q6⟩)]
    show (bnd2 (f_X4_removePaid (tkB v p x)) fun r => some r) = _
    rw [r1, pu_some]
  unfold f_X5_takeToken
  rw [sp_pd g hp hx, pu_some, sp_pl g hp hx, pu_some, pu_inb (by omega : p < 10) (by decide), pu_bnd, pu_bnd, pu_let, pu_wr (by omega), pu_rd (by omega), show wn v 2 p (v 2 p - nI (pdN v p x)) = tk0V v p x from rfl, hpay, pu_some, pk_sub epd, pk_sub epl]
  have e7 : ∀ (z : VS) (y : Int32), (wn z 18 6 y) 18 7 = z 18 7 := fun z y => pu_wn_j _ _ _ _ (by decide)
  have e6 : ∀ (z : VS) (y : Int32), (wn z 4 p y) 18 6 = z 18 6 := fun z y => pu_wn_k _ _ _ _ (by decide)
  have e67 : ∀ (z : VS) (y : Int32), (wn z 4 p y) 18 7 = z 18 7 := fun z y => pu_wn_k _ _ _ _ (by decide)
  simp (disch := omega) only [pu_bnd, pu_let, pu_inb, pu_rd, pu_wr, pu_lit, e7, e6, e67]
  rfl
theorem mem_Lst {u : VS} {l : List (Int32 × Int32 × Int32)} (h : Lst u l) {y : Int32 × Int32 × Int32} (hy : y ∈ l) : ∃ i, i < l.length ∧ y = (u 10 i, u 11 i, u 12 i) := by
  obtain ⟨i, hi, e⟩ := List.mem_iff_getElem.mp hy
  have q := h.2 i hi
  rw [List.getElem?_eq_getElem hi, e] at q
  exact ⟨i, hi, Option.some.inj q⟩
theorem tkR {v : VS} (g : G v) {c t p x : Nat} (gn : GN c t v) (hp : p < hsz v) (hc : c ≤ 600000) (hx : x ≤ 500) : G (rpV (tkB v p x)) ∧ (∀ h, h < hsz v → -50 ≤ (rpV (tkB v p x) 4 h).toInt ∧ (rpV (tkB v p x) 4 h).toInt ≤ ((c + plN v p x : Nat) : Int)) ∧ SameL (tkB v p x) (rpV (tkB v p x)) ∧ ∃ l, Lst (tkB v p x) l ∧ l.length = lsz v ∧ Lst (rpV (tkB v p x)) (l.filter pd) := by
  obtain ⟨b1, b2⟩ := tkB_b g gn hp hc hx
  have epd := pd_le g p x
  have h10 := g.1.2.1
  have h12 := g.1.2.2.2.1
  obtain ⟨l, l1, l2⟩ := Lst_of (tkB v p x) (tkB_GA g.1 p x)
  have hlB : lsz (tkB v p x) = lsz v := by unfold lsz; rw [tkB_k v p x (Or.inl (by decide)) (by decide) (by decide)]
  obtain ⟨r1, r2, r3⟩ := rpV_of l1 (by omega)
  -- the village with the loans as before
  have hV : ∃ v' : VS, G v' ∧ SameL v' (rpV (tkB v p x)) ∧ hsz v' = hsz v := by
    refine ⟨fun k j => if 10 ≤ k ∧ k < 13 then v k j else tkB v p x k j, ?_, ?_, ?_⟩
    · refine G_upd g (fun j => ?_) (Or.inr ?_) (Or.inl fun k j h1 h2 => if_pos ⟨h1, h2⟩) (Or.inl fun k j h1 h2 => ?_) (Or.inl fun j => ?_) (fun k j h1 h2 => ?_)
      · exact tkB_k v p x (Or.inl (by decide)) (by decide) (by decide)
      · intro h hh
        have hh' : h < hsz v := by
          have e : hsz (fun k j => if 10 ≤ k ∧ k < 13 then v k j else tkB v p x k j) = hsz v := hsz_congr (tkB_k v p x (Or.inl (by decide)) (by decide) (by decide))
          rw [← e]; exact hh
        have hk : ∀ k, k < 8 → k ≠ 2 → k ≠ 4 → (if 10 ≤ k ∧ k < 13 then v k h else tkB v p x k h) = v k h := fun k q1 q2 q3 => by rw [if_neg (by omega), tkB_k v p x (Or.inl q2) q3 (by omega)]
        obtain ⟨q1, q2, q3, q4, q5, q6⟩ := g.2.1 h hh'
        refine ⟨by simp only [hk 0 (by decide) (by decide) (by decide)]; exact q1, by simp only [hk 1 (by decide) (by decide) (by decide)]; exact q2, ?_, by simp only [hk 3 (by decide) (by decide) (by decide)]; exact q4, by simp only [hk 5 (by decide) (by decide) (by decide)]; exact q5, ?_⟩
        · show ∃ d, d ≤ 1000 ∧ (if 10 ≤ 2 ∧ 2 < 13 then v 2 h else tkB v p x 2 h) = nI d
          rw [if_neg (by decide)]
          by_cases c : h = p
          · obtain ⟨d, d1, d2, d3⟩ := pd_d g hp x
            rw [c, tkB_2, d2, pk_sub d3]
            exact ⟨_, by omega, rfl⟩
          · rw [tkB_k v p x (Or.inr c) (by decide) (by decide)]
            exact q3
        · show -50 ≤ (if 10 ≤ 4 ∧ 4 < 13 then v 4 h else tkB v p x 4 h).toInt
          rw [if_neg (by decide)]
          exact (b1 h hh').1
      · show (if 10 ≤ k ∧ k < 13 then v k j else tkB v p x k j) = v k j
        rw [if_neg (by omega), tkB_k v p x (Or.inl (by omega)) (by omega) (by omega)]
      · exact tkB_k v p x (Or.inl (by decide)) (by decide) (by decide)
      · show (if 10 ≤ k ∧ k < 13 then v k j else tkB v p x k j) = v k j
        rw [if_neg (by omega), tkB_k v p x (Or.inl (by omega)) (by omega) (by omega)]
    · intro k j h1 h2
      rw [r3 k j h1 h2]
      exact (if_neg h1).symm
    · exact hsz_congr (tkB_k v p x (Or.inl (by decide)) (by decide) (by decide))
  obtain ⟨v', v1, v2, v3⟩ := hV
  have hle : (l.filter pd).length ≤ 12 := Nat.le_trans (List.length_filter_le _ _) (by omega)
  refine ⟨SameL_G v1 v2 r2 hle (fun j hj => ?_), fun h hh => ?_, r3, l, l1, by omega, r2⟩
  · have q := r2.2 j hj
    have hmem : (rpV (tkB v p x) 10 j, rpV (tkB v p x) 11 j, rpV (tkB v p x) 12 j) ∈ l.filter pd := List.mem_iff_getElem?.mpr ⟨j, q⟩
    obtain ⟨m1, m2⟩ := List.mem_filter.mp hmem
    obtain ⟨i, i1, i2⟩ := mem_Lst l1 m1
    rw [Prod.mk.injEq, Prod.mk.injEq] at i2
    obtain ⟨a, b, o, q1, q2, q3, q4, q5, q6, q7, q8⟩ := g.2.2.1 i (by omega)
    obtain ⟨o', p1, p2⟩ := b2 i (by omega)
    have e10 : tkB v p x 10 i = nI a := by rw [tkB_k v p x (Or.inl (by decide)) (by decide) (by decide)]; exact q6
    have e11 : tkB v p x 11 i = nI b := by rw [tkB_k v p x (Or.inl (by decide)) (by decide) (by decide)]; exact q7
    refine ⟨a, b, o', by rw [v3]; exact q1, by rw [v3]; exact q2, q3, ?_, p1, by rw [i2.1]; exact e10, by rw [i2.2.1]; exact e11, by rw [i2.2.2]; exact p2⟩
    unfold pd at m2
    have m3 := of_decide_eq_true m2
    rw [i2.2.2, p2] at m3
    by_cases z : 1 ≤ o'
    · exact z
    · exact absurd m3 (nI_nlt (a := 0) (by omega) (by omega))
  · rw [r3 4 h (by omega) (by omega)]
    exact b1 h hh
theorem tkE_k (r : VS) (p x D P : Nat) {k j : Nat} (h4 : k ≠ 4 ∨ j ≠ p) (h18 : k ≠ 18) : tkE r p x D P k j = r k j := by
  unfold tkE
  rw [pu_wn_k _ _ _ _ h18, pu_wn_k _ _ _ _ h18, pu_wn, if_neg (by omega)]
theorem tkE_4 (r : VS) (p x D P : Nat) : tkE r p x D P 4 p = r 4 p + nI (x - D - P) := by
  unfold tkE
  rw [pu_wn_k _ _ _ _ (by decide), pu_wn_k _ _ _ _ (by decide), pu_wn_s]
theorem tkR_22 {v : VS} {p x k j : Nat} (hs : SameL (tkB v p x) (rpV (tkB v p x))) (h : ¬ (10 ≤ k ∧ k < 13)) (h22 : ¬ (k = 22 ∧ j = 1)) (h2 : k ≠ 2 ∨ j ≠ p) (h4 : k ≠ 4) : rpV (tkB v p x) k j = v k j := by
  rw [hs k j h h22, tkB_k v p x h2 h4 (by omega)]
theorem TK_G {v : VS} (g : G v) {c t p x : Nat} (gn : GN c t v) (hp : p < hsz v) (hc : c ≤ 600000) (hx : x ≤ 500) : G (TK v p x) ∧ GN (c + 500) t (TK v p x) ∧ hsz (TK v p x) = hsz v := by
  obtain ⟨r1, r2, r3, _⟩ := tkR g gn hp hc hx
  have epd := pd_le g p x
  have epl := pl_le g p x
  have hh : hsz (rpV (tkB v p x)) = hsz v := hsz_congr (tkR_22 r3 (by decide) (by decide) (Or.inl (by decide)) (by decide))
  have hh2 : hsz (TK v p x) = hsz v := by
    rw [← hh]
    exact hsz_congr (tkE_k _ _ _ _ _ (Or.inl (by decide)) (by decide))
  have hr : hrz (TK v p x) = hrz v := by
    unfold hrz
    rw [show TK v p x 22 3 = rpV (tkB v p x) 22 3 from tkE_k _ _ _ _ _ (Or.inl (by decide)) (by decide), tkR_22 r3 (by decide) (by decide) (Or.inl (by decide)) (by decide)]
  have h4 : ∀ h, h < hsz v → -50 ≤ (TK v p x 4 h).toInt ∧ (TK v p x 4 h).toInt ≤ ((c + 500 : Nat) : Int) := fun h hh' => by
    have q := r2 h hh'
    by_cases cc : h = p
    · subst cc
      have ht : (nI (x - pdN v h x - plN v h x)).toInt = ((x - pdN v h x - plN v h x : Nat) : Int) := nI_toInt (by omega)
      rw [show TK v h x 4 h = _ from tkE_4 _ _ _ _ _, Int32.toInt_add, ht, show ((rpV (tkB v h x) 4 h).toInt + ((x - pdN v h x - plN v h x : Nat) : Int)).bmod (2 ^ 32) = (rpV (tkB v h x) 4 h).toInt + ((x - pdN v h x - plN v h x : Nat) : Int) from Int.bmod_eq_of_le (by omega) (by omega)]
      omega
    · rw [show TK v p x 4 h = rpV (tkB v p x) 4 h from tkE_k _ _ _ _ _ (Or.inr cc) (by decide)]
      omega
  refine ⟨G_upd r1 (fun j => tkE_k _ _ _ _ _ (Or.inl (by decide)) (by decide)) (Or.inr ?_) (Or.inl fun k j h1 h2 => tkE_k _ _ _ _ _ (Or.inl (by omega)) (by omega)) (Or.inl fun k j h1 h2 => tkE_k _ _ _ _ _ (Or.inl (by omega)) (by omega)) (Or.inl fun j => tkE_k _ _ _ _ _ (Or.inl (by decide)) (by decide)) (fun k j h1 h2 => tkE_k _ _ _ _ _ (Or.inl (by omega)) (by omega)), ⟨fun h hh' => (h4 h (by rw [← hh2]; exact hh')).2, by rw [hr]; exact gn.2⟩, hh2⟩
  intro h hh'
  change h < hsz (TK v p x) at hh'
  change (∃ f, f < 3 ∧ TK v p x 0 h = nI f) ∧ (∃ d, d ≤ 50 ∧ TK v p x 1 h = nI d) ∧ (∃ d, d ≤ 1000 ∧ TK v p x 2 h = nI d) ∧ (∃ c, c < 2 ∧ TK v p x 3 h = nI c) ∧ (∃ g, g ≤ 50 ∧ TK v p x 5 h = nI g) ∧ -50 ≤ (TK v p x 4 h).toInt
  have hk : ∀ k, k ≠ 4 → k ≠ 18 → TK v p x k h = rpV (tkB v p x) k h := fun k q1 q2 => tkE_k _ _ _ _ _ (Or.inl q1) q2
  have hhv : h < hsz v := by rw [← hh2]; exact hh'
  obtain ⟨q1, q2, q3, q4, q5, q6⟩ := r1.2.1 h (by rw [hh]; exact hhv)
  rw [hk 0 (by decide) (by decide), hk 1 (by decide) (by decide), hk 2 (by decide) (by decide), hk 3 (by decide) (by decide), hk 5 (by decide) (by decide)]
  exact ⟨q1, q2, q3, q4, q5, (h4 h hhv).1⟩
