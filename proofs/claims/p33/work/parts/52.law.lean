/-! THE LAW'S ACTS: tokens, loans, hours -/
theorem TK_SM {v : VS} (s : SM v) (g : G v) {c t p x : Nat} (gn : GN c t v) (hp : p < hsz v) (hc : c ≤ 600000) (hx : x ≤ 500) : SM (TK v p x) := by
  obtain ⟨r1, r2, r3, l, l1, l2, l3⟩ := tkR g gn hp hc hx
  have hle := List.length_filter_le pd l
  have h10 := s.2.1
  refine ⟨?_, ?_, ?_⟩
  · rw [(TK_G g gn hp hc hx).2.2]; exact s.1
  · have : lsz (TK v p x) = (l.filter pd).length := by
      unfold lsz
      rw [show TK v p x 22 1 = rpV (tkB v p x) 22 1 from tkE_k _ _ _ _ _ (Or.inl (by decide)) (by decide), l3.1, nI_clamp (by omega)]
    rw [this]
    omega
  · unfold qsz
    rw [TK_row g gn hp hc hx (by decide) (by decide) (by decide) (by decide) (by decide)]
    exact s.2.2
theorem act_29 {n : Nat} {P : PS} {R : VS} (h : RQ n (P, R)) (hn : n ≤ 40) {p B : Nat} (hp : p < hsz (P.1 0)) (hB0 : 0 < B) (hB : B ≤ 500) (y : Int32) : ∃ S', f_L_buy_29 (P, R) (nI p) (nI B) y 1 = some (1, S') ∧ RQ (n + 1) S' := by
  have hv : VL (P.1 0) R := h.1
  have s : SM (P.1 0) := h.2.1
  have g : G (P.1 0) := h.2.2.1
  have gn : GN (1000 * n) (100 * n) (P.1 0) := h.2.2.2.1
  have ov : OffV (P.1 0) R := h.2.2.2.2.1
  have bal : BAL (P.1 0) := h.2.2.2.2.2.1
  have hi : HI P := h.2.2.2.2.2.2
  have h8 := s.1
  obtain ⟨d, hd, ed⟩ := at_ok y (n := B) hB0 (by omega)
  have hx : 1 + d ≤ 500 := by omega
  obtain ⟨b1, b2, o1, o2⟩ := ov
  obtain ⟨R', t1, t2, t3⟩ := sl_token hv s g gn hp (by omega) hx o1
  obtain ⟨P', k1, k2, k3⟩ := k_buy hi g hp (x := 1 + d) (by omega) hx
  have hG := TK_G g gn hp (by omega) hx
  have row : ∀ {k j : Nat}, ¬ (10 ≤ k ∧ k < 13) → ¬ (k = 22 ∧ j = 1) → k ≠ 2 → k ≠ 4 → ¬ (k = 18 ∧ (j = 6 ∨ j = 7)) → TK (P.1 0) p (1 + d) k j = P.1 0 k j := fun a1 a2 a3 a4 a5 => TK_row g gn hp (by omega) hx a1 a2 a3 a4 a5
  refine ⟨(P', R'), ?_, RQ_of k3 t2 (TK_SM s g gn hp (by omega) hx) hG.1 (hG.2.1.mono (by omega) (by omega)) ⟨b1, b2, t3, fun f hf => by rw [row (by omega) (by omega) (by omega) (by omega) (by omega)]; exact o2 f hf⟩ (BAL_same bal (fun j _ => row (by omega) (by omega) (by omega) (by omega) (by omega)) (fun j _ => row (by omega) (by omega) (by omega) (by omega) (by omega))) k2⟩
  have e4 : R' 1 (6 * p + 4) = TK (P.1 0) p (1 + d) 4 p := rl_h t2 (k := 4) (by decide) (by rw [hG.2.2]; exact hp) rfl
  unfold f_L_buy_29
  rw [ed, pu_some, pu_let, show (1 : Int32) + nI d = nI (1 + d) from nI_add 1 d, show f_L_token (P, R).2 (nI p) (nI (1 + d)) = some R' from t1, pu_some, pu_let, show f_X6_buy ((P, R).1, R').1 (nI p) (nI (1 + d)) = some (TK (P.1 0) p (1 + d) 4 p, P') from k1, pu_some, pu_let, show (6 : Int32) * nI p = nI (6 * p) from pk_mul 6 p, show nI (6 * p) + (4 : Int32) = nI (6 * p + 4) from nI_add _ 4, pu_inb (by omega) (by decide), pu_bnd, pu_rd (by omega)]
  dsimp only
  rw [if_pos e4.symm]
theorem act_buy {n : Nat} {S : LQ} (h : RQ n S) (hn : n ≤ 40) (hpos : 0 < hsz (S.1.1 0)) (x y : Int32) : ∃ S', f_L_buy S x y = some (1, S') ∧ RQ (n + 1) S' := by
  obtain ⟨P, R⟩ := S
  have hv : VL (P.1 0) R := h.1
  have s : SM (P.1 0) := h.2.1
  have g : G (P.1 0) := h.2.2.1
  have h8 := s.1
  have r0 : rd R 0 (0 : Int32) = nI (hsz (P.1 0)) := (pu_rd (i := 0) (by decide)).trans (rl_0 hv g.1)
  obtain ⟨p, hp, ep⟩ := at_ok x (n := hsz (P.1 0)) hpos (by omega)
  obtain ⟨q, hq, eq⟩ := at_ok (x >>> ((4 : Int32) &&& 31)) (n := 3) (by decide) (by decide)
  unfold f_L_buy
  rw [show inb (0 : Int32) 20 = true by decide, pu_bnd, show rd (P, R).2 0 (0 : Int32) = nI (hsz (P.1 0)) from r0, ep, pu_some, show f_L_at (x >>> ((4 : Int32) &&& 31)) 3 = some (nI q) from eq, pu_some]
  by_cases c : nI q = 0
  · rw [if_pos c]
    exact act_29 h hn (B := 500) hp (by decide) (by decide) y
  · rw [if_neg c]
    exact act_29 h hn (B := 80) hp (by decide) (by decide) y
theorem VL_grow1 {w R : VS} (h : VL w R) (s : SM w) {m : Nat} (hm : lsz w = m) (hm10 : m < 10) (e : ∀ k, 10 ≤ k → k < 13 → R 3 (3 * m + (k - 10)) = w k m) : VL (wn w 22 1 (nI (m + 1))) (wn R 0 1 (nI (m + 1))) := by
  intro k j hr
  have hz : hsz (wn w 22 1 (nI (m + 1))) = hsz w := hsz_congr (pu_wn_j _ _ _ _ (by decide))
  have hl : lsz (wn w 22 1 (nI (m + 1))) = m + 1 := by unfold lsz; rw [pu_wn_s, nI_clamp (by omega)]
  by_cases hk : 10 ≤ k ∧ k < 13
  · have hj := rl_lsz hk hr
    rw [hl] at hj
    rw [lrw3 hk, lpl3 j hk, pu_wn_k _ _ _ _ (by decide), pu_wn_k _ _ _ _ (by omega)]
    by_cases hjm : j = m
    · rw [hjm]; exact e k hk.1 hk.2
    · have := h k j (Or.inr (Or.inl ⟨hk.1, hk.2, by omega⟩))
      rw [lrw3 hk, lpl3 j hk] at this
      exact this
  · by_cases h1 : k = 22 ∧ j = 1
    · rw [h1.1, h1.2, pu_wn_s]
      exact pu_wn_s R 0 1 _
    · have hr' : rl w k j := rl_same hz hk hr
      rw [pu_wn, if_neg (fun z => h1 (lz_inj (rl_inL s hr') inL1 z.1 z.2)), pu_wn, if_neg h1]
      exact h k j hr'
theorem ln_VL {v R : VS} (h : VL v R) (s : SM v) {a b p : Nat} (ha : a < 8) (hb : b < 8) (hab : a ≠ b) (hm : lsz v < 10) : VL (lnV v a b p) (wn (wn (wn (wn (wn (wn R 3 (3 * lsz v) (nI a)) 3 (3 * lsz v + 1) (nI b)) 3 (3 * lsz v + 2) (nI p)) 1 (6 * a + 4) (v 4 a - nI p)) 1 (6 * b + 4) (v 4 b + nI p)) 0 1 (nI (lsz v + 1))) := by
  have v1 := VL.put h s (k := 10) (j := lsz v) (r := 3) (p := 3 * lsz v) (x := nI a) rfl rfl (inLl (by decide) hm) (Or.inl (by decide))
  have s1 := s.wk (k := 10) (j := lsz v) (Or.inl (by decide)) (nI a)
  have v2 := VL.put v1 s1 (k := 11) (j := lsz v) (r := 3) (p := 3 * lsz v + 1) (x := nI b) rfl rfl (inLl (by decide) hm) (Or.inl (by decide))
  have s2 := s1.wk (k := 11) (j := lsz v) (Or.inl (by decide)) (nI b)
  have v3 := VL.put v2 s2 (k := 12) (j := lsz v) (r := 3) (p := 3 * lsz v + 2) (x := nI p) rfl rfl (inLl (by decide) hm) (Or.inl (by decide))
  have s3 := s2.wk (k := 12) (j := lsz v) (Or.inl (by decide)) (nI p)
  have v4 := VL.put v3 s3 (k := 4) (j := a) (r := 1) (p := 6 * a + 4) (x := v 4 a - nI p) rfl rfl (Or.inl ⟨by decide, ha⟩) (Or.inl (by decide))
  have s4 := s3.wk (k := 4) (j := a) (Or.inl (by decide)) (v 4 a - nI p)
  have v5 := VL.put v4 s4 (k := 4) (j := b) (r := 1) (p := 6 * b + 4) (x := v 4 b + nI p) rfl rfl (Or.inl ⟨by decide, hb⟩) (Or.inl (by decide))
  have s5 := s4.wk (k := 4) (j := b) (Or.inl (by decide)) (v 4 b + nI p)
  have hw : wn (wn (wn (wn (wn v 10 (lsz v) (nI a)) 11 (lsz v) (nI b)) 12 (lsz v) (nI p)) 4 a (v 4 a - nI p)) 4 b (v 4 b + nI p) = wn (wn (wn (wn (wn v 4 a (v 4 a - nI p)) 4 b (v 4 b + nI p)) 10 (lsz v) (nI a)) 11 (lsz v) (nI b)) 12 (lsz v) (nI p) := by
    refine vs_ext fun k j => ?_
    simp only [pu_wn]
    by_cases h4 : k = 4
    · subst h4; simp
    · simp [h4]
  rw [hw] at v5 s5
  have hl : lsz (wn (wn (wn (wn (wn v 4 a (v 4 a - nI p)) 4 b (v 4 b + nI p)) 10 (lsz v) (nI a)) 11 (lsz v) (nI b)) 12 (lsz v) (nI p)) = lsz v := by
    unfold lsz
    rw [pu_wn_k _ _ _ _ (by decide), pu_wn_k _ _ _ _ (by decide), pu_wn_k _ _ _ _ (by decide), pu_wn_k _ _ _ _ (by decide), pu_wn_k _ _ _ _ (by decide)]
  refine VL_grow1 v5 s5 hl hm (fun k h1 h2 => ?_)
  rcases (show k = 10 ∨ k = 11 ∨ k = 12 by omega) with rfl | rfl | rfl
  · rw [pu_wn_k _ _ _ _ (by decide), pu_wn_k _ _ _ _ (by decide), pu_wn_j _ _ _ _ (by omega), pu_wn_j _ _ _ _ (by omega), Nat.sub_self, Nat.add_zero, pu_wn_s, pu_wn_k _ _ _ _ (by decide), pu_wn_k _ _ _ _ (by decide), pu_wn_s]
  · rw [pu_wn_k _ _ _ _ (by decide), pu_wn_k _ _ _ _ (by decide), pu_wn_j _ _ _ _ (by omega), show 11 - 10 = 1 from rfl, pu_wn_s, pu_wn_k _ _ _ _ (by decide), pu_wn_s]
  · rw [pu_wn_k _ _ _ _ (by decide), pu_wn_k _ _ _ _ (by decide), show 12 - 10 = 2 from rfl, pu_wn_s, pu_wn_s]
theorem act_lend {n : Nat} {S : LQ} (h : RQ n S) (hn : n ≤ 40) (hpos : 0 < hsz (S.1.1 0)) (x y : Int32) : ∃ S', f_L_lend S x y = some (1, S') ∧ RQ (n + 1) S' := by
  obtain ⟨P, R⟩ := S
  have hv : VL (P.1 0) R := h.1
  have s : SM (P.1 0) := h.2.1
  have g : G (P.1 0) := h.2.2.1
  have gn : GN (1000 * n) (100 * n) (P.1 0) := h.2.2.2.1
  have ov : OffV (P.1 0) R := h.2.2.2.2.1
  have bal : BAL (P.1 0) := h.2.2.2.2.2.1
  have hi : HI P := h.2.2.2.2.2.2
  have h8 := s.1
  have h10 := s.2.1
  have r0 : rd R 0 (0 : Int32) = nI (hsz (P.1 0)) := (pu_rd (i := 0) (by decide)).trans (rl_0 hv g.1)
  have r1 : rd R 0 (1 : Int32) = nI (lsz (P.1 0)) := (pu_rd (i := 1) (by decide)).trans (rl_1 hv g.1)
  obtain ⟨a, ha, ea⟩ := at_ok x (n := hsz (P.1 0)) hpos (by omega)
  obtain ⟨b, hb, eb⟩ := at_ok (x >>> ((4 : Int32) &&& 31)) (n := hsz (P.1 0)) hpos (by omega)
  obtain ⟨u, hu, eu⟩ := at_ok y (n := 40) (by decide) (by decide)
  unfold f_L_lend
  rw [show inb (0 : Int32) 20 = true by decide, pu_bnd, show rd (P, R).2 0 (0 : Int32) = nI (hsz (P.1 0)) from r0, ea, pu_some, pu_bnd, eb, pu_some, show f_L_at y 40 = some (nI u) from eu, pu_some, pu_let, show (1 : Int32) + nI u = nI (1 + u) from nI_add 1 u]
  by_cases hab : a = b
  · subst hab
    refine ⟨(P, R), ?_, h.mono (Nat.le_succ n)⟩
    rw [if_pos rfl, show f_X6_lend (P, R).1 (nI a) (nI a) (nI (1 + u)) = some (-1000002, P) from k_lend_eq g.1 ha _, pu_some, pu_let, if_pos rfl]
  · have e4a : R 1 (6 * a + 4) = P.1 0 4 a := rl_h hv (k := 4) (by decide) ha rfl
    rw [if_neg (fun z => hab (nI_inj0 (by omega) (by omega) z)), show (6 : Int32) * nI a = nI (6 * a) from pk_mul 6 a, show nI (6 * a) + (4 : Int32) = nI (6 * a + 4) from nI_add _ 4, pu_inb (by omega) (by decide), pu_bnd, show rd (P, R).2 1 (nI (6 * a + 4)) = P.1 0 4 a from (pu_rd (by omega)).trans e4a]
    by_cases hc : nI (1 + u) ≤ P.1 0 4 a
    · rw [if_pos hc, show inb (1 : Int32) 20 = true by decide, pu_bnd, show rd (P, R).2 0 (1 : Int32) = nI (lsz (P.1 0)) from r1]
      by_cases hm : lsz (P.1 0) = 10
      · refine ⟨(P, R), ?_, h.mono (Nat.le_succ n)⟩
        rw [hm, if_pos (show nI 10 = (10 : Int32) from rfl)]
      · have hm' : lsz (P.1 0) < 10 := by omega
        obtain ⟨P', k1, k2, k3⟩ := k_lend hi g.1 ha hb hab (p := 1 + u) (by omega) (by omega) hc (by omega)
        have hG := lnV_G g gn (by omega) ha hb hab (p := 1 + u) (by omega) (by omega) hc (by omega)
        have row : ∀ {k j : Nat}, k ≠ 4 → ¬ (k = 22 ∧ j = 1) → ¬ (10 ≤ k ∧ k < 13 ∧ j = lsz (P.1 0)) → lnV (P.1 0) a b (1 + u) k j = P.1 0 k j := fun q1 q2 q3 => lnV_k _ _ _ _ q1 q2 q3
        have hVL := ln_VL hv s (a := a) (b := b) (p := 1 + u) (by omega) (by omega) hab hm'
        obtain ⟨m, hme⟩ : ∃ m, m = lsz (P.1 0) := ⟨_, rfl⟩
        refine ⟨(P', _), ?_, RQ_of k3 hVL ⟨?_, ?_, ?_⟩ hG.1 (hG.2.1.mono (by omega) (by omega)) (ov.wn (fun f _ => row (by omega) (by omega) (by omega)) ?_) (BAL_same bal (fun j _ => row (by omega) (by omega) (by omega)) (fun j _ => row (by omega) (by omega) (by omega))) k2⟩
        · have e4b : R 1 (6 * b + 4) = P.1 0 4 b := rl_h hv (k := 4) (by decide) hb rfl
          have g4a : wn (wn (wn R 3 (3 * m) (nI a)) 3 (3 * m + 1) (nI b)) 3 (3 * m + 2) (nI (1 + u)) 1 (6 * a + 4) = P.1 0 4 a := by
            rw [pu_wn_k _ _ _ _ (by decide), pu_wn_k _ _ _ _ (by decide), pu_wn_k _ _ _ _ (by decide)]
            exact e4a
          have g4b : wn (wn (wn (wn R 3 (3 * m) (nI a)) 3 (3 * m + 1) (nI b)) 3 (3 * m + 2) (nI (1 + u))) 1 (6 * a + 4) (P.1 0 4 a - nI (1 + u)) 1 (6 * b + 4) = P.1 0 4 b := by
            rw [pu_wn_j _ _ _ _ (by omega), pu_wn_k _ _ _ _ (by decide), pu_wn_k _ _ _ _ (by decide), pu_wn_k _ _ _ _ (by decide)]
            exact e4b
          have g1 : ∀ z z' : Int32, wn (wn (wn (wn (wn R 3 (3 * m) (nI a)) 3 (3 * m + 1) (nI b)) 3 (3 * m + 2) (nI (1 + u))) 1 (6 * a + 4) z) 1 (6 * b + 4) z' 0 1 = nI m := fun z z' => by
            rw [pu_wn_k _ _ _ _ (by decide), pu_wn_k _ _ _ _ (by decide), pu_wn_k _ _ _ _ (by decide), pu_wn_k _ _ _ _ (by decide), pu_wn_k _ _ _ _ (by decide), hme]
            exact rl_1 hv g.1
          rw [← hme] at k1 ⊢
          rw [if_neg (fun z : nI m = 10 => hm (by rw [← hme]; exact nI_inj0 (b := 10) (by omega) (by decide) z)), pu_bnd, pu_let, show (3 : Int32) * nI m = nI (3 * m) from pk_mul 3 m, show nI (3 * m) + (1 : Int32) = nI (3 * m + 1) from nI_add _ 1, show nI (3 * m) + (2 : Int32) = nI (3 * m + 2) from nI_add _ 2, show (6 : Int32) * nI b = nI (6 * b) from pk_mul 6 b, show nI (6 * b) + (4 : Int32) = nI (6 * b + 4) from nI_add _ 4, pu_inb (by omega) (by decide), pu_inb (by omega) (by decide), pu_inb (by omega) (by decide), pu_inb (by omega) (by decide), pu_bnd, pu_let, pu_bnd, pu_let, pu_bnd, pu_let]
          dsimp only
          rw [pu_wr (i := 3 * m) (by omega), pu_wr (i := 3 * m + 1) (by omega), pu_wr (i := 3 * m + 2) (by omega), pu_bnd, pu_bnd, pu_let]
          dsimp only
          rw [pu_rd (by omega), g4a, pu_wr (i := 6 * a + 4) (by omega), pu_bnd, pu_bnd, pu_let]
          dsimp only
          rw [pu_rd (by omega), g4b, pu_wr (i := 6 * b + 4) (by omega), pu_bnd, pu_bnd, pu_let]
          dsimp only
          rw [show ∀ Q : VS, rd Q 0 (1 : Int32) = Q 0 1 from fun Q => pu_rd (i := 1) (by decide), g1, nI_1, show ∀ (Q : VS) z, wr Q 0 (1 : Int32) z = wn Q 0 1 z from fun Q z => pu_wr (i := 1) (by decide), k1, pu_some, pu_let, pu_bnd]
          dsimp only
          rw [show ∀ Q : VS, rd Q 0 (1 : Int32) = Q 0 1 from fun Q => pu_rd (i := 1) (by decide), pu_wn_s, if_pos rfl]
        · rw [hsz_congr (row (by decide) (by decide) (by omega))]; exact h8
        · rw [hG.2.2]; omega
        · unfold qsz
          rw [row (by decide) (by decide) (by omega)]
          exact s.2.2
        · rw [pu_wn_j _ _ _ _ (by decide), pu_wn_k _ _ _ _ (by decide), pu_wn_k _ _ _ _ (by decide), pu_wn_k _ _ _ _ (by decide), pu_wn_k _ _ _ _ (by decide), pu_wn_k _ _ _ _ (by decide)]
    · refine ⟨(P, R), ?_, h.mono (Nat.le_succ n)⟩
      rw [if_neg hc, show f_X6_lend (P, R).1 (nI a) (nI b) (nI (1 + u)) = some (-1000003, P) from k_lend_few g.1 ha hb hab (by omega) (by omega) hc, pu_some, pu_let, if_pos rfl]
def runF (P : PS) (x7 x8 : Int32) (R : VS) : Option (Int32 × LQ) := bnd2 (f_X6_run P x7) fun r_5 => letv (r_5.2, R) fun S_6 => bnd (inb (9 : Int32) 20) (if r_5.1 = ((rd S_6.2 0 (9 : Int32)) - x8) then (some ((1 : Int32), S_6)) else (some ((0 : Int32), S_6)))
theorem PH_SM {v : VS} (s : SM v) : SM (PH v) := s.congr fun j hj => PH_same v (by omega)
theorem sl_run {P : PS} {a c : Nat} (ha : a < 2 ^ 20) (x8 : Int32) : ∀ (d i n t : Nat) (v R : VS), i + d = a → d < n → VL v R → SM v → G v → GN c t v → OffV v R → t + d < 2 ^ 29 → ∃ R', f_L_run_19 (nI a) x8 n (nI i) (P, R) = runF P (nI a) x8 R' ∧ VL (PHn d v) R' ∧ SM (PHn d v) ∧ OffV (PHn d v) R' := by
  intro d
  induction d with
  | zero =>
    intro i n t v R hi hn h s g gn o ht
    obtain ⟨n, rfl⟩ : ∃ m, n = m + 1 := ⟨n - 1, by omega⟩
    obtain rfl : i = a := by omega
    refine ⟨R, ?_, h, s, o⟩
    rw [f_L_run_19, if_pos (nI_le (Nat.le_refl _) (by omega))]
    rfl
  | succ d ih =>
    intro i n t v R hi hn h s g gn o ht
    obtain ⟨n, rfl⟩ : ∃ m, n = m + 1 := ⟨n - 1, by omega⟩
    obtain ⟨R1, a1, a2, a3⟩ := sl_hour h s g
    have hG := PH_G g gn (by omega)
    obtain ⟨R', b1, b2, b3, b4⟩ := ih (i + 1) n (t + 1) (PH v) R1 (by omega) (by omega) a2 (PH_SM s) hG.1 hG.2 a3 (by omega)
    refine ⟨R', ?_, b2, b3, b4⟩
    rw [← b1, f_L_run_19, if_neg (nI_ge (by omega) (by omega)), show f_L_hour (P, R).2 = some R1 from a1, pu_some, pu_let, pu_let, nI_1]
theorem act_run {n : Nat} {S : LQ} (h : RQ n S) (hn : n ≤ 40) (y : Int32) : ∃ S', f_L_run S y = some (1, S') ∧ RQ (n + 1) S' := by
  obtain ⟨P, R⟩ := S
  have hv : VL (P.1 0) R := h.1
  have s : SM (P.1 0) := h.2.1
  have g : G (P.1 0) := h.2.2.1
  have gn : GN (1000 * n) (100 * n) (P.1 0) := h.2.2.2.1
  have ov : OffV (P.1 0) R := h.2.2.2.2.1
  have bal : BAL (P.1 0) := h.2.2.2.2.2.1
  have hi : HI P := h.2.2.2.2.2.2
  obtain ⟨d, hd, ed⟩ := at_ok y (n := 8) (by decide) (by decide)
  obtain ⟨R', b1, b2, b3, b4⟩ := sl_run (P := P) (a := 1 + d) (by omega) (P.1 0 18 1) (1 + d) 0 fuel (100 * n) (P.1 0) R (by omega) (fuel_gt (by omega)) hv s g gn ov (by omega)
  obtain ⟨P', k1, k2, k3⟩ := k_run hi g gn (a := 1 + d) (by omega) (by omega) (by omega)
  have hG := PHn_G (1 + d) (100 * n) (P.1 0) g gn (by omega)
  refine ⟨(P', R'), ?_, RQ_of k3 b2 b3 hG.1 (hG.2.mono (by omega) (by omega)) b4 (PHn_BAL (1 + d) (100 * n) (P.1 0) bal g gn (by omega)) k2⟩
  have e9 : R' 0 9 = PHn (1 + d) (P.1 0) 18 1 := rl_18 b2 (j := 1) (by decide) rfl
  unfold f_L_run
  rw [show f_L_at y 8 = some (nI d) from ed, pu_some, pu_let, show (1 : Int32) + nI d = nI (1 + d) from nI_add 1 d, show inb (9 : Int32) 20 = true by decide, pu_bnd, pu_let, show rd (P, R).2 0 (9 : Int32) = P.1 0 18 1 from (pu_rd (i := 9) (by decide)).trans (rl_18 hv (j := 1) (by decide) rfl), show (0 : Int32) = nI 0 from rfl, b1]
  unfold runF
  rw [k1, pu_some, pu_let, show inb (9 : Int32) 20 = true by decide, pu_bnd]
  dsimp only
  rw [show rd R' 0 (9 : Int32) = PHn (1 + d) (P.1 0) 18 1 from (pu_rd (i := 9) (by decide)).trans e9, if_pos rfl]
