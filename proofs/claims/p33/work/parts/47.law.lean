/-! THE LAW'S TOKEN -/
def tkF (x1 x6 : Int32) (S : VS) : Option VS := bnd2 (f_L_drop S) fun r_14 => bnd (inb (13 : Int32) 20) (bnd (inb (13 : Int32) 20) (letv (wr r_14 0 (13 : Int32) ((rd r_14 0 (13 : Int32)) + x1)) fun S_17 => bnd (inb (14 : Int32) 20) (bnd (inb (14 : Int32) 20) (letv (wr S_17 0 (14 : Int32) ((rd S_17 0 (14 : Int32)) + x6)) fun S_20 => some S_20))))
theorem plS_0 (p : Int32) : ∀ (d i : Nat) (u : VS), (∀ j, i ≤ j → j < i + d → ∃ o, o ≤ 200 ∧ u 12 j = nI o) → plS p d i (nI 0) u = u := by
  intro d
  induction d with
  | zero => intro i u _; rfl
  | succ d ih =>
    intro i u h
    obtain ⟨o, ho, eo⟩ := h i (Nat.le_refl _) (by omega)
    unfold plS
    have z1 : ∀ x : Int32, x - nI 0 = x := fun x => Int32.sub_zero x
    have z2 : ∀ x : Int32, x + nI 0 = x := fun x => Int32.add_zero x
    have z3 : jmin (nI 0) (u 12 i) = nI 0 := by rw [eo, jmin_nI (by omega) (by omega), Nat.zero_min]
    rw [z3, z1, z1, z2, wn_same, wn_same, ih (i + 1) u (fun j h1 h2 => h j (by omega) (by omega))]
    split <;> rfl
theorem plS_add (p : Int32) (q : Nat) (a : Int32) : ∀ (d i : Nat) (r : Int32) (u : VS), plS p d i r (wn u 4 q (u 4 q + a)) = wn (plS p d i r u) 4 q (plS p d i r u 4 q + a) := by
  intro d
  induction d with
  | zero => intro i r u; rfl
  | succ d ih =>
    intro i r u
    unfold plS
    have k : ∀ k, k ≠ 4 → ∀ j, (wn u 4 q (u 4 q + a)) k j = u k j := fun k hk j => pu_wn_k _ _ _ _ hk
    rw [k 11 (by decide), k 12 (by decide), k 10 (by decide)]
    by_cases c : u 11 i = p
    · rw [if_pos c, if_pos c, ← ih]
      congr 1
      refine vs_ext fun x y => ?_
      simp only [pu_wn]
      by_cases h4 : x = 4
      · subst h4
        by_cases e : (u 10 i).toNatClampNeg = q
        · rw [e]
          by_cases hy : y = q
          · subst hy
            simp
            rw [Int32.add_assoc, Int32.add_comm a, ← Int32.add_assoc]
          · simp [hy]
        · by_cases hy : y = (u 10 i).toNatClampNeg
          · subst hy
            simp [e]
          · by_cases hy2 : y = q
            · subst hy2
              simp [hy]
            · simp [hy, hy2]
      · simp [h4]
    · rw [if_neg c, if_neg c, ih]
def oSum (u : VS) (p : Int32) : Nat → Nat → Nat
  | 0, _ => 0
  | d + 1, i => (if u 11 i = p then (u 12 i).toNatClampNeg else 0) + oSum u p d (i + 1)
theorem oSum_congr {u w : VS} {p : Int32} : ∀ (d i : Nat), (∀ j, i ≤ j → j < i + d → w 11 j = u 11 j ∧ w 12 j = u 12 j) → oSum w p d i = oSum u p d i := by
  intro d
  induction d with
  | zero => intro i _; rfl
  | succ d ih =>
    intro i h
    unfold oSum
    rw [(h i (Nat.le_refl _) (by omega)).1, (h i (Nat.le_refl _) (by omega)).2, ih (i + 1) (fun j h1 h2 => h j (by omega) (by omega))]
theorem oSum_sm {u : VS} {p : Int32} : ∀ (d i a : Nat), (∀ j, i ≤ j → j < i + d → ∃ o, o ≤ 200 ∧ u 12 j = nI o) → smF (owF u 11 p) i d (nI a) = nI (a + oSum u p d i) ∧ oSum u p d i ≤ 200 * d := by
  intro d
  induction d with
  | zero => intro i a _; exact ⟨rfl, Nat.zero_le _⟩
  | succ d ih =>
    intro i a h
    obtain ⟨o, ho, eo⟩ := h i (Nat.le_refl _) (by omega)
    show smF _ (i + 1) d (nI a + owF u 11 p i) = _ ∧ (if u 11 i = p then (u 12 i).toNatClampNeg else 0) + oSum u p d (i + 1) ≤ _
    have e : owF u 11 p i = nI (if u 11 i = p then (u 12 i).toNatClampNeg else 0) := by
      unfold owF
      split
      · rw [eo, nI_clamp (by omega)]
      · rfl
    have hb : (if u 11 i = p then (u 12 i).toNatClampNeg else 0) ≤ 200 := by
      split
      · rw [eo, nI_clamp (by omega)]; exact ho
      · exact Nat.zero_le _
    obtain ⟨q1, q2⟩ := ih (i + 1) (a + (if u 11 i = p then (u 12 i).toNatClampNeg else 0)) (fun j h1 h2 => h j (by omega) (by omega))
    rw [e, nI_add, q1]
    refine ⟨?_, by omega⟩
    show _ = nI (a + ((if u 11 i = p then (u 12 i).toNatClampNeg else 0) + oSum u p d (i + 1)))
    rw [Nat.add_assoc]
theorem inLl {k j : Nat} (h : 10 ≤ k ∧ k < 13) (hj : j < 10) : inL k j := Or.inr (Or.inl ⟨h.1, h.2, hj⟩)
theorem sl_payL {M : Nat} (p x1 x6 : Int32) {H : Nat} (hH : H ≤ 8) : ∀ (d i n r0 : Nat) (u R : VS), i + d = lsz u → d < n → VL u R → SM u → hsz u = H → (∀ j, j < lsz u → (∃ a, a < H ∧ u 10 j = nI a) ∧ ∃ o, o ≤ 200 ∧ u 12 j = nI o) → r0 ≤ oSum u p d i → r0 ≤ 500 → OffR M R →
    ∃ R', f_L_token_102 p x1 x6 n (nI r0) (nI i) R = tkF x1 x6 R' ∧ VL (plS p d i (nI r0) u) R' ∧ OffR M R' := by
  intro d
  induction d with
  | zero =>
    intro i n r0 u R hi hn h s hh hl h0 h5 o
    obtain ⟨n, rfl⟩ : ∃ m, n = m + 1 := ⟨n - 1, by omega⟩
    have e0 : r0 = 0 := Nat.le_zero.mp h0
    subst e0
    refine ⟨R, ?_, h, o⟩
    rw [f_L_token_102, if_pos (by decide)]
    rfl
  | succ d ih =>
    intro i n r0 u R hi hn h s hh hl h0 h5 o
    obtain ⟨n, rfl⟩ : ∃ m, n = m + 1 := ⟨n - 1, by omega⟩
    have hl10 := s.2.1
    by_cases z : r0 = 0
    · subst z
      rw [plS_0 p (d + 1) i u (fun j _ hj => (hl j (by omega)).2)]
      refine ⟨R, ?_, h, o⟩
      rw [f_L_token_102, if_pos (by decide)]
      rfl
    · have hj : i < lsz u := by omega
      obtain ⟨⟨a, ha, ea⟩, q, hq, eq⟩ := hl i hj
      have e0 : R 3 (3 * i) = u 10 i := rl_l h (k := 0) (by decide) hj rfl
      have e1 : R 3 (3 * i + 1) = u 11 i := rl_l h (k := 1) (by decide) hj rfl
      have e2 : R 3 (3 * i + 2) = u 12 i := rl_l h (k := 2) (by decide) hj rfl
      have i3 : ∀ k, nI (3 * i) + nI k = nI (3 * i + k) := fun k => nI_add _ _
      have h0' : r0 ≤ (if u 11 i = p then (u 12 i).toNatClampNeg else 0) + oSum u p d (i + 1) := h0
      unfold plS
      by_cases c : u 11 i = p
      · have hcl : (nI a).toNatClampNeg = a := nI_clamp (by omega)
        rw [if_pos c, eq, nI_clamp (by omega)] at h0'
        obtain ⟨t, ht⟩ : ∃ t, t = min r0 q := ⟨_, rfl⟩
        rw [if_pos c, ea, hcl, eq, jmin_nI (by omega) (by omega), ← ht, pk_sub (show t ≤ q by omega), pk_sub (show t ≤ r0 by omega)]
        have v1 := VL.put h s (k := 12) (j := i) (r := 3) (p := 3 * i + 2) (x := nI (q - t)) rfl rfl (inLl (by decide) (by omega)) (Or.inl (by decide))
        have s1 : SM (wn u 12 i (nI (q - t))) := s.wk (Or.inl (by decide)) _
        have hz1 : hsz (wn u 12 i (nI (q - t))) = H := by rw [← hh]; exact hsz_congr (pu_wn_k _ _ _ _ (by decide))
        have v2 := VL.put v1 s1 (k := 4) (j := a) (r := 1) (p := 6 * a + 4) (x := u 4 a + nI t) rfl rfl (Or.inl ⟨by decide, by omega⟩) (Or.inl (by decide))
        have s2 := s1.wk (k := 4) (j := a) (Or.inl (by decide)) (u 4 a + nI t)
        have hw : ∀ k j, k ≠ 12 → k ≠ 4 → (wn (wn u 12 i (nI (q - t))) 4 a (u 4 a + nI t)) k j = u k j := fun k j q1 q2 => by rw [pu_wn_k _ _ _ _ q2, pu_wn_k _ _ _ _ q1]
        have hw12 : ∀ j, (wn (wn u 12 i (nI (q - t))) 4 a (u 4 a + nI t)) 12 j = if j = i then nI (q - t) else u 12 j := fun j => by
          rw [pu_wn_k _ _ _ _ (by decide), pu_wn]
          simp
        have hls : lsz (wn (wn u 12 i (nI (q - t))) 4 a (u 4 a + nI t)) = lsz u := by unfold lsz; rw [hw 22 1 (by decide) (by decide)]
        obtain ⟨R', b1, b2, b3⟩ := ih (i + 1) n (r0 - t) _ _ (by rw [hls]; omega) (by omega) v2 s2 (by rw [← hz1]; exact hsz_congr (pu_wn_k _ _ _ _ (by decide))) (fun j hj' => by
          rw [hls] at hj'
          rw [hw 10 j (by decide) (by decide), hw12]
          refine ⟨(hl j hj').1, ?_⟩
          split
          · exact ⟨_, by omega, rfl⟩
          · exact (hl j hj').2) (by
          rw [oSum_congr d (i + 1) (u := u) (fun j q1 q2 => ⟨hw 11 j (by decide) (by decide), by rw [hw12, if_neg (by omega)]⟩)]
          omega) (by omega) ((o.wn _ (Or.inl (by decide))).wn _ (Or.inl (by decide)))
        refine ⟨R', ?_, b2, b3⟩
        have g0 : (wn R 3 (3 * i + 2) (nI (q - t))) 3 (3 * i) = nI a := by rw [pu_wn_j _ _ _ _ (by omega), e0, ea]
        have g4 : (wn R 3 (3 * i + 2) (nI (q - t))) 1 (6 * a + 4) = u 4 a := (rl_h v1 (k := 4) (by decide) (j := a) (by omega) rfl).trans (pu_wn_k _ _ _ _ (by decide))
        have k148 : f_L_token_148 (f_L_token_102 p x1 x6 n) R p x1 x6 (nI r0) (nI i) (nI t) = tkF x1 x6 R' := by
          rw [← b1]
          unfold f_L_token_148 f_L_token_190
          rw [show (3 : Int32) * nI i = nI (3 * i) from pk_mul 3 i, show nI (3 * i) + (2 : Int32) = nI (3 * i + 2) from nI_add _ 2, pu_inb (by omega) (by decide), pu_inb (by omega) (by decide), pu_bnd, pu_bnd, pu_let, pu_bnd, pu_rd (i := 3 * i + 2) (by omega), e2, eq, pk_sub (show t ≤ q by omega), pu_wr (i := 3 * i + 2) (by omega), pu_rd (i := 3 * i) (by omega), g0, show (6 : Int32) * nI a = nI (6 * a) from pk_mul 6 a, show nI (6 * a) + (4 : Int32) = nI (6 * a + 4) from nI_add _ 4, pu_inb (by omega) (by decide), pu_bnd, pu_bnd, pu_let, pu_let, pu_let, pk_sub (show t ≤ r0 by omega), nI_1, pu_rd (i := 6 * a + 4) (by omega), g4, pu_wr (i := 6 * a + 4) (by omega)]
        rw [f_L_token_102, if_neg (nI_nle (by omega) (by omega)), show (3 : Int32) * nI i = nI (3 * i) from pk_mul 3 i, show nI (3 * i) + (1 : Int32) = nI (3 * i + 1) from nI_add _ 1, show nI (3 * i) + (2 : Int32) = nI (3 * i + 2) from nI_add _ 2, pu_inb (by omega) (by decide), pu_inb (by omega) (by decide), pu_bnd, pu_bnd, pu_bnd, pu_rd (by omega), e1, if_pos c, pu_rd (by omega), e2, eq]
        by_cases cc : r0 ≤ q
        · rw [if_pos (nI_le cc (by omega))]
          rw [show t = r0 by omega] at k148
          exact k148
        · rw [if_neg (nI_ge (by omega) (by omega))]
          rw [show t = q by omega] at k148
          exact k148
      · rw [if_neg c, Nat.zero_add] at h0'
        rw [if_neg c]
        obtain ⟨R', b1, b2, b3⟩ := ih (i + 1) n r0 u R (by omega) (by omega) h s hh hl h0' h5 o
        refine ⟨R', ?_, b2, b3⟩
        rw [← b1, f_L_token_102, if_neg (nI_nle (by omega) (by omega)), show (3 : Int32) * nI i = nI (3 * i) from pk_mul 3 i, show nI (3 * i) + (1 : Int32) = nI (3 * i + 1) from nI_add _ 1, pu_inb (by omega) (by decide), pu_bnd, pu_rd (by omega), e1, if_neg c]
        unfold f_L_token_190
        rw [pu_let, nI_1]
theorem sl_token {v R : VS} (h : VL v R) (s : SM v) (g : G v) {c t p x : Nat} (gn : GN c t v) (hp : p < hsz v) (hc : c ≤ 600000) (hx : x ≤ 500) {M : Nat} (o : OffR M R) : ∃ R', f_L_token R (nI p) (nI x) = some R' ∧ VL (TK v p x) R' ∧ OffR M R' := by
  have h8 := s.1
  have h10 := s.2.1
  have epd := pd_le g p x
  have epl := pl_le g p x
  obtain ⟨d0, hd0, ed0, hpd⟩ := pd_d g hp x
  obtain ⟨s1, hs1, es1⟩ := g.2.2.2.2.1.2 1 (by decide)
  obtain ⟨s2, hs2, es2⟩ := g.2.2.2.2.1.2 2 (by decide)
  have hm1 : x * s1 ≤ 500 * 100 := Nat.mul_le_mul hx hs1
  have hm2 : (x - pdN v p x) * s2 ≤ 500 * 100 := Nat.mul_le_mul (by omega) hs2
  have epD : pdN v p x = min d0 (x * s1 / 100) := by unfold pdN; rw [ed0, es1, nI_clamp (by omega), nI_clamp (by omega)]
  obtain ⟨o1, o2⟩ := ow_nI g p
  have epL : plN v p x = min (owN v p) ((x - pdN v p x) * s2 / 100) := by unfold plN; rw [es2, nI_clamp (by omega)]
  -- debt
  have v1 := VL.put h s (k := 2) (j := p) (r := 1) (p := 6 * p + 2) (x := v 2 p - nI (pdN v p x)) rfl rfl (Or.inl ⟨by decide, by omega⟩) (Or.inl (by decide))
  have vt : VL (tk0V v p x) (wn R 1 (6 * p + 2) (v 2 p - nI (pdN v p x))) := v1
  have st : SM (tk0V v p x) := s.wk (Or.inl (by decide)) _
  have k0 : ∀ k j, k ≠ 2 → tk0V v p x k j = v k j := fun k j hk => pu_wn_k _ _ _ _ hk
  have gt0 : GA (tk0V v p x) := g.1.congr' fun j => k0 22 j (by decide)
  have hls : lsz (tk0V v p x) = lsz v := by unfold lsz; rw [k0 22 1 (by decide)]
  have hhs : hsz (tk0V v p x) = hsz v := hsz_congr (k0 22 0 (by decide))
  -- credit
  obtain ⟨a, ha⟩ : ∃ a, a = nI (x - pdN v p x - plN v p x) := ⟨_, rfl⟩
  have v2 := VL.put vt st (k := 4) (j := p) (r := 1) (p := 6 * p + 4) (x := v 4 p + a) rfl rfl (Or.inl ⟨by decide, by omega⟩) (Or.inl (by decide))
  have su : SM (wn (tk0V v p x) 4 p (v 4 p + a)) := st.wk (Or.inl (by decide)) _
  have ku : ∀ k j, k ≠ 2 → k ≠ 4 → (wn (tk0V v p x) 4 p (v 4 p + a)) k j = v k j := fun k j q1 q2 => by rw [pu_wn_k _ _ _ _ q2, k0 k j q1]
  have hlu : lsz (wn (tk0V v p x) 4 p (v 4 p + a)) = lsz v := by unfold lsz; rw [ku 22 1 (by decide) (by decide)]
  have hhu : hsz (wn (tk0V v p x) 4 p (v 4 p + a)) = hsz v := hsz_congr (ku 22 0 (by decide) (by decide))
  have hos : oSum (wn (tk0V v p x) 4 p (v 4 p + a)) (nI p) (lsz v) 0 = owN v p := by
    rw [oSum_congr (u := v) (lsz v) 0 (fun j _ _ => ⟨ku 11 j (by decide) (by decide), ku 12 j (by decide) (by decide)⟩)]
    obtain ⟨q1, q2⟩ := oSum_sm (u := v) (p := nI p) (lsz v) 0 0 (fun j _ hj => by
      obtain ⟨a, b, o, _, _, _, _, h5, _, _, h8⟩ := g.2.2.1 j (by omega)
      exact ⟨o, h5, h8⟩)
    rw [Nat.zero_add] at q1
    exact nI_inj0 (by omega) (by omega) (q1.symm.trans o1)
  obtain ⟨R1, b1, b2, b3⟩ := sl_payL (M := M) (nI p) (nI x) (nI (pdN v p x)) h8 (lsz v) 0 fuel (plN v p x) _ _ (by rw [hlu]; omega) (fuel_gt (by omega)) v2 su hhu (fun j hj => by
    rw [hlu] at hj
    obtain ⟨a, b, o, q1, _, _, _, q5, q6, _, q8⟩ := g.2.2.1 j hj
    rw [ku 10 j (by decide) (by decide), ku 12 j (by decide) (by decide)]
    exact ⟨⟨a, q1, q6⟩, o, q5, q8⟩) (by rw [hos]; omega) (by omega) ((o.wn _ (Or.inl (by decide))).wn _ (Or.inl (by decide)))
  -- the village behind paying
  have eB : plS (nI p) (lsz v) 0 (nI (plN v p x)) (wn (tk0V v p x) 4 p (v 4 p + a)) = wn (tkB v p x) 4 p (tkB v p x 4 p + a) := by
    have := plS_add (nI p) p a (lsz v) 0 (nI (plN v p x)) (tk0V v p x)
    rw [k0 4 p (by decide)] at this
    exact this
  rw [eB] at b2
  obtain ⟨W, hW⟩ : ∃ W, W = wn (tkB v p x) 4 p (tkB v p x 4 p + a) := ⟨_, rfl⟩
  rw [← hW] at b2
  have kW : ∀ k j, k ≠ 2 → k ≠ 4 → k ≠ 12 → W k j = v k j := fun k j q1 q2 q3 => by rw [hW, pu_wn_k _ _ _ _ q2, tkB_k v p x (Or.inl q1) q2 q3]
  have sW : SM W := s.congr fun j _ => kW 22 j (by decide) (by decide) (by decide)
  have gW : GA W := g.1.congr' fun j => kW 22 j (by decide) (by decide) (by decide)
  have hlW : lsz W = lsz v := by unfold lsz; rw [kW 22 1 (by decide) (by decide) (by decide)]
  obtain ⟨t1, t2⟩ := tkB_b g gn hp hc hx
  obtain ⟨R2, d1, d2, d3⟩ := sl_drop b2 sW gW (fun j hj => by
    rw [hlW] at hj
    rw [hW, pu_wn_k _ _ _ _ (by decide)]
    exact t2 j hj) b3
  -- both villages behind dropping
  obtain ⟨l, l1, l2⟩ := Lst_of (tkB v p x) (tkB_GA g.1 p x)
  have hlB : lsz (tkB v p x) = lsz v := by unfold lsz; rw [tkB_k v p x (Or.inl (by decide)) (by decide) (by decide)]
  obtain ⟨_, r2, r3⟩ := rpV_of l1 (by omega)
  have lW : Lst W l := by
    rw [hW]
    exact ⟨by rw [pu_wn_k _ _ _ _ (by decide)]; exact l1.1, fun j hj => by rw [pu_wn_k _ _ _ _ (by decide), pu_wn_k _ _ _ _ (by decide), pu_wn_k _ _ _ _ (by decide)]; exact l1.2 j hj⟩
  obtain ⟨_, r4, r5⟩ := rpV_of lW (by omega)
  have hfl : (l.filter pd).length ≤ 12 := Nat.le_trans (List.length_filter_le _ _) (by omega)
  have e4 : rpV W 4 p = rpV (tkB v p x) 4 p + a := by rw [r5 4 p (by omega) (by omega), r3 4 p (by omega) (by omega), hW, pu_wn_s]
  have hV : VL (wn (rpV (tkB v p x)) 4 p (rpV (tkB v p x) 4 p + a)) R2 := by
    refine VL.to d2 ?_ ?_ (fun k j hr => ?_)
    · rw [pu_wn_k _ _ _ _ (by decide), r3 22 0 (by decide) (by decide), r5 22 0 (by decide) (by decide), hW, pu_wn_k _ _ _ _ (by decide)]
    · rw [pu_wn_k _ _ _ _ (by decide), r2.1, r4.1]
    · by_cases hk : 10 ≤ k ∧ k < 13
      · have hj := rl_lsz hk hr
        rw [Lst_lsz r4 hfl] at hj
        have q := (r2.2 j hj).symm.trans (r4.2 j hj)
        rw [Option.some.injEq, Prod.mk.injEq, Prod.mk.injEq] at q
        rw [pu_wn_k _ _ _ _ (by omega)]
        rcases (show k = 10 ∨ k = 11 ∨ k = 12 by omega) with rfl | rfl | rfl
        · exact q.1
        · exact q.2.1
        · exact q.2.2
      · by_cases h1 : k = 22 ∧ j = 1
        · rw [h1.1, h1.2, pu_wn_k _ _ _ _ (by decide), r2.1, r4.1]
        · rw [r5 k j hk h1, hW]
          by_cases c4 : k = 4 ∧ j = p
          · rw [c4.1, c4.2, pu_wn_s, pu_wn_s, r3 4 p (by omega) (by omega)]
          · rw [pu_wn, if_neg c4, pu_wn, if_neg c4, r3 k j hk h1]
  obtain ⟨Q, hQ⟩ : ∃ Q, Q = wn (rpV (tkB v p x)) 4 p (rpV (tkB v p x) 4 p + a) := ⟨_, rfl⟩
  rw [← hQ] at hV
  have kQ : ∀ k j, k ≠ 4 → Q k j = rpV (tkB v p x) k j := fun k j q => by rw [hQ, pu_wn_k _ _ _ _ q]
  have sQ : SM Q := by
    refine ⟨?_, ?_, ?_⟩
    · rw [show hsz Q = hsz v from hsz_congr (by rw [kQ 22 0 (by decide), r3 22 0 (by decide) (by decide), tkB_k v p x (Or.inl (by decide)) (by decide) (by decide)])]; exact h8
    · have : lsz Q = (l.filter pd).length := by unfold lsz; rw [kQ 22 1 (by decide), r2.1, nI_clamp (by omega)]
      rw [this]
      exact Nat.le_trans (List.length_filter_le _ _) (by omega)
    · unfold qsz
      rw [kQ 22 2 (by decide), r3 22 2 (by decide) (by decide), tkB_k v p x (Or.inl (by decide)) (by decide) (by decide)]
      exact s.2.2
  have v3 := VL.put hV sQ (k := 18) (j := 6) (r := 0) (p := 13) (x := Q 18 6 + nI x) rfl rfl (inL18 (by decide)) (Or.inl (by decide))
  have s3 := sQ.wk (k := 18) (j := 6) (Or.inl (by decide)) (Q 18 6 + nI x)
  have v4 := VL.put v3 s3 (k := 18) (j := 7) (r := 0) (p := 14) (x := Q 18 7 + nI (pdN v p x)) rfl rfl (inL18 (by decide)) (Or.inl (by decide))
  have eTK : wn (wn Q 18 6 (Q 18 6 + nI x)) 18 7 (Q 18 7 + nI (pdN v p x)) = TK v p x := by
    rw [kQ 18 6 (by decide), kQ 18 7 (by decide), hQ, ha]
    rfl
  rw [eTK] at v4
  have o6 := (d3.wn (r := 0) (p := 13) (Q 18 6 + nI x) (Or.inr (by decide))).wn (r := 0) (p := 14) (Q 18 7 + nI (pdN v p x)) (Or.inr (by decide))
  refine ⟨_, ?_, v4, o6⟩
  -- the run
  have f6 : R2 0 13 = Q 18 6 := rl_186 hV
  have f7 : (wn R2 0 13 (Q 18 6 + nI x)) 0 14 = Q 18 7 := (pu_wn_j _ _ _ _ (by decide)).trans (rl_187 hV)
  have hF : tkF (nI x) (nI (pdN v p x)) R1 = some (wn (wn R2 0 13 (Q 18 6 + nI x)) 0 14 (Q 18 7 + nI (pdN v p x))) := by
    unfold tkF
    rw [d1, pu_some, show inb (13 : Int32) 20 = true by decide, show inb (14 : Int32) 20 = true by decide, pu_bnd, pu_bnd, pu_let, pu_bnd, pu_bnd, pu_let, show rd R2 0 (13 : Int32) = Q 18 6 from (pu_rd (i := 13) (by decide)).trans f6, show ∀ y, wr R2 0 (13 : Int32) y = wn R2 0 13 y from fun y => pu_wr (i := 13) (by decide), show rd (wn R2 0 13 (Q 18 6 + nI x)) 0 (14 : Int32) = Q 18 7 from (pu_rd (i := 14) (by decide)).trans f7, show ∀ Z y, wr Z 0 (14 : Int32) y = wn Z 0 14 y from fun Z y => pu_wr (i := 14) (by decide)]
  rw [← hF, ← b1]
  have i2 : inb (nI (6 * p + 2)) 48 = true := pu_inb (by omega) (by decide)
  have i4 : inb (nI (6 * p + 4)) 48 = true := pu_inb (by omega) (by decide)
  have e2 : R 1 (6 * p + 2) = nI d0 := by rw [rl_h h (k := 2) (by decide) hp rfl, ed0]
  have g4 : (wn R 1 (6 * p + 2) (v 2 p - nI (pdN v p x))) 1 (6 * p + 4) = v 4 p := by rw [pu_wn_j _ _ _ _ (by omega)]; exact rl_h h (k := 4) (by decide) hp rfl
  have g6 : rd (wn R 1 (6 * p + 2) (v 2 p - nI (pdN v p x))) 0 (6 : Int32) = nI s2 := by
    refine (pu_rd (i := 6) (by decide)).trans ?_
    rw [pu_wn_k _ _ _ _ (by decide), rl_17 h (j := 2) (by decide) rfl, es2]
  have k83 : f_L_token_83 (wn R 1 (6 * p + 2) (v 2 p - nI (pdN v p x))) (nI p) (nI x) (nI (6 * p)) (nI (pdN v p x)) (nI (plN v p x)) = f_L_token_102 (nI p) (nI x) (nI (pdN v p x)) fuel (nI (plN v p x)) (nI 0) (wn (wn R 1 (6 * p + 2) (v 2 p - nI (pdN v p x))) 1 (6 * p + 4) (v 4 p + a)) := by
    unfold f_L_token_83
    rw [show nI (6 * p) + (4 : Int32) = nI (6 * p + 4) from nI_add _ 4, i4, pu_bnd, pu_bnd, pu_let, pu_rd (by omega), g4, pk_sub epd, pk_sub epl, ← ha, pu_wr (by omega)]
    rfl
  have how : f_L_owes (wn R 1 (6 * p + 2) (v 2 p - nI (pdN v p x))) (nI p) 1 = some (nI (owN v p)) := by
    refine (sl_owes vt st gt0 (k := 1) (by decide) (nI p)).trans ?_
    rw [hls, smF_congr (g := owF v 11 (nI p)) (lsz v) 0 0 (fun j _ _ => by unfold owF; rw [k0 11 j (by decide), k0 12 j (by decide)]), o1]
  have k35 : f_L_token_35 R (nI p) (nI x) (nI (6 * p)) (nI (pdN v p x)) = f_L_token_102 (nI p) (nI x) (nI (pdN v p x)) fuel (nI (plN v p x)) (nI 0) (wn (wn R 1 (6 * p + 2) (v 2 p - nI (pdN v p x))) 1 (6 * p + 4) (v 4 p + a)) := by
    rw [← k83]
    unfold f_L_token_35
    rw [show nI (6 * p) + (2 : Int32) = nI (6 * p + 2) from nI_add _ 2, i2, pu_bnd, pu_bnd, pu_let, pu_rd (by omega), e2, ← ed0, pu_wr (by omega), show inb (6 : Int32) 20 = true by decide, pu_bnd, pu_let, g6, pk_sub epd, pk_mul, i100, pk_div (by omega) (by decide) (by decide), how, pu_some, pu_some]
    by_cases cc : (x - pdN v p x) * s2 / 100 ≤ owN v p
    · rw [if_pos (nI_le cc (by omega)), show (x - pdN v p x) * s2 / 100 = plN v p x by omega]
    · rw [if_neg (nI_ge (by omega) (by omega)), show owN v p = plN v p x by omega]
  rw [← k35]
  unfold f_L_token
  rw [pu_let, show (6 : Int32) * nI p = nI (6 * p) from pk_mul 6 p, show inb (5 : Int32) 20 = true by decide, pu_bnd, pu_let, show rd R 0 (5 : Int32) = nI s1 from (pu_rd (i := 5) (by decide)).trans ((rl_17 h (j := 1) (by decide) rfl).trans es1), pk_mul, i100, pk_div (by omega) (by decide) (by decide), show nI (6 * p) + (2 : Int32) = nI (6 * p + 2) from nI_add _ 2, i2, pu_bnd, pu_bnd, pu_let, pu_rd (by omega), e2]
  by_cases cc : x * s1 / 100 ≤ d0
  · rw [if_pos (nI_le cc (by omega)), show x * s1 / 100 = pdN v p x by omega]
  · rw [if_neg (nI_ge (by omega) (by omega)), show d0 = pdN v p x by omega]
