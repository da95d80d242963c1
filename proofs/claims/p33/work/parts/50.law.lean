/-! THE LAW'S ACTS: numbers out of the script, a new house -/
theorem at_ok (x : Int32) {n : Nat} (h0 : 0 < n) (hn : n < 2 ^ 31) : ∃ j, j < n ∧ f_L_at x (nI n) = some (nI j) := by
  have e : ((x.toUInt32 >>> ((1 : Int32).toUInt32 &&& Int32.toUInt32 31)).toInt32).toBitVec.toNat = x.toBitVec.toNat / 2 ^ 1 := pk_ushr x 1 1 (by decide)
  obtain ⟨u, hu⟩ : ∃ u, u = (x.toUInt32 >>> ((1 : Int32).toUInt32 &&& Int32.toUInt32 31)).toInt32 := ⟨_, rfl⟩
  rw [← hu] at e
  have hx := x.toBitVec.isLt
  have hpos : ¬ u < 0 := by
    rw [Int32.lt_iff_toInt_lt, show (0 : Int32).toInt = 0 from by decide, ← Int32.toInt_toBitVec, BitVec.toInt_eq_toNat_cond, if_pos (by omega)]
    omega
  obtain ⟨m, hm, em⟩ := nI_of hpos
  refine ⟨m % n, Nat.mod_lt _ h0, ?_⟩
  unfold f_L_at
  rw [pu_nz h0 hn, pu_bnd, ← hu, em, pk_rem hm h0 hn]
def RQ (n : Nat) (S : LQ) : Prop := VL (S.1.1 0) S.2 ∧ SM (S.1.1 0) ∧ G (S.1.1 0) ∧ GN (1000 * n) (100 * n) (S.1.1 0) ∧ OffV (S.1.1 0) S.2 ∧ BAL (S.1.1 0) ∧ HI S.1
theorem RQ_of {n : Nat} {P : PS} {R v : VS} (e : P.1 0 = v) (h1 : VL v R) (h2 : SM v) (h3 : G v) (h4 : GN (1000 * n) (100 * n) v) (h5 : OffV v R) (h6 : BAL v) (h7 : HI P) : RQ n (P, R) := by
  subst e
  exact ⟨h1, h2, h3, h4, h5, h6, h7⟩
theorem RQ.mono {n n' : Nat} {S : LQ} (h : RQ n S) (hn : n ≤ n') : RQ n' S := ⟨h.1, h.2.1, h.2.2.1, h.2.2.2.1.mono (by omega) (by omega), h.2.2.2.2⟩
theorem OffV.wn {v w R : VS} (h : OffV v R) (he : ∀ f, f < 3 → w 20 f = v 20 f) {R' : VS} (hR : R' 0 19 = R 0 19) : OffV w R' := by
  obtain ⟨b1, b2, h1, h2⟩ := h
  refine ⟨b1, b2, ?_, fun f hf => by rw [he f hf]; exact h2 f hf⟩
  unfold OffR
  rw [hR]
  exact h1
theorem lrw_1 {k : Nat} (h : lrw k = 1) : k < 5 ∨ k = 7 := by
  unfold lrw at h
  split at h
  · assumption
  · split at h
    · omega
    · split at h
      · omega
      · split at h
        · omega
        · split at h <;> omega
theorem lrw_2 {k : Nat} (h : lrw k = 2) : k = 5 ∨ k = 6 := by
  unfold lrw at h
  split at h
  · omega
  · split at h
    · omega
    · split at h
      · omega
      · split at h
        · omega
        · split at h <;> omega
theorem rl_hs {v : VS} {k j : Nat} (hk : k < 8) (h : rl v k j) : j < hsz v := by
  unfold rl at h
  rcases h with h | h | h | h | h | h | h | h
  · exact h.2
  all_goals omega
theorem lpl_1 {k j : Nat} (h : k < 5 ∨ k = 7) : lpl k j ≤ 6 * j + 5 := by
  unfold lpl
  rcases h with h | h
  · rw [if_pos h]; omega
  · rw [if_neg (by omega), if_pos h]; omega
theorem lpl_2 {k j : Nat} (h : k = 5 ∨ k = 6) : lpl k j = j ∨ lpl k j = 8 + j := by
  rcases h with rfl | rfl
  · exact Or.inl rfl
  · exact Or.inr rfl
theorem VL_add {v R : VS} (h : VL v R) (s : SM v) (hlt : hsz v < 8) {f d : Int32} {R' : VS} (e0 : R' 0 0 = nI (hsz v + 1)) (eh : ∀ k, k < 8 → R' (lrw k) (lpl k (hsz v)) = adV f d k) (er : ∀ r p, ¬ (r = 0 ∧ p = 0) → ¬ (r = 1 ∧ 6 * hsz v ≤ p) → ¬ (r = 2 ∧ (p = hsz v ∨ p = 8 + hsz v)) → R' r p = R r p) : VL (adS v f d) R' := by
  intro k j hr
  have hz := adS_hsz (v := v) (by omega) f d
  have hl : lsz (adS v f d) = lsz v := by unfold lsz; rw [adS_22 v f d (by decide)]
  rw [adS_at]
  by_cases c : k = 22 ∧ j = 0
  · rw [if_pos c, c.1, c.2]; exact e0
  · rw [if_neg c]
    by_cases c2 : k < 8 ∧ j = hsz v
    · rw [if_pos c2, c2.2]; exact eh k c2.1
    · rw [if_neg c2]
      have hr' : rl v k j := by
        unfold rl at hr ⊢
        rcases hr with h | h | h | h | h | h | h | h
        · exact Or.inl ⟨h.1, by omega⟩
        · exact Or.inr (Or.inl ⟨h.1, h.2.1, by omega⟩)
        · exact Or.inr (Or.inr (Or.inl h))
        · exact Or.inr (Or.inr (Or.inr (Or.inl h)))
        · exact Or.inr (Or.inr (Or.inr (Or.inr (Or.inl h))))
        · exact Or.inr (Or.inr (Or.inr (Or.inr (Or.inr (Or.inl h)))))
        · exact Or.inr (Or.inr (Or.inr (Or.inr (Or.inr (Or.inr (Or.inl h))))))
        · exact Or.inr (Or.inr (Or.inr (Or.inr (Or.inr (Or.inr (Or.inr h))))))
      rw [er (lrw k) (lpl k j) (fun z => c (lz_inj (rl_inL s hr') (inL22 (j := 0) (by decide)) z.1 z.2)) (fun z => by
        have h1 := lrw_1 z.1
        have h2 := rl_hs (by omega) hr'
        have h3 := lpl_1 (j := j) h1
        omega) (fun z => by
        have h1 := lrw_2 z.1
        have h2 := rl_hs (by omega) hr'
        have h3 := lpl_2 (j := j) h1
        have h8 := s.1
        omega)]
      exact h k j hr'
/-- the law's rows behind the new house -/
def hR (R : VS) (h : Nat) (f d : Int32) : VS := wn (wn (wn (wn (wn (wn (wn (wn (wn (wn (wn (wn R 0 0 (nI (h + 1))) 1 (6 * h + 0) 0) 1 (6 * h + 1) 0) 1 (6 * h + 2) 0) 1 (6 * h + 3) 0) 1 (6 * h + 4) 0) 1 (6 * h + 5) 0) 1 (6 * h) f) 1 (6 * h + 1) d) 1 (6 * h + 3) 1) 2 h 0) 2 (8 + h) 0
theorem hR_VL {v R : VS} (h : VL v R) (s : SM v) (hlt : hsz v < 8) (f d : Int32) : VL (adS v f d) (hR R (hsz v) f d) := by
  refine VL_add h s hlt ?_ (fun k hk => ?_) (fun r p n0 n1 n2 => ?_)
  · unfold hR
    simp only [pu_wn]
    simp
  · unfold hR
    rcases (show k = 0 ∨ k = 1 ∨ k = 2 ∨ k = 3 ∨ k = 4 ∨ k = 5 ∨ k = 6 ∨ k = 7 by omega) with e | e | e | e | e | e | e | e <;> subst e <;> simp only [pu_wn, lrw, lpl, adV] <;> simp <;> omega
  · unfold hR
    simp only [pu_wn]
    rw [if_neg (fun z => n2 ⟨z.1, Or.inr z.2⟩), if_neg (fun z => n2 ⟨z.1, Or.inl z.2⟩), if_neg (fun z => n1 ⟨z.1, by omega⟩), if_neg (fun z => n1 ⟨z.1, by omega⟩), if_neg (fun z => n1 ⟨z.1, by omega⟩), if_neg (fun z => n1 ⟨z.1, by omega⟩), if_neg (fun z => n1 ⟨z.1, by omega⟩), if_neg (fun z => n1 ⟨z.1, by omega⟩), if_neg (fun z => n1 ⟨z.1, by omega⟩), if_neg (fun z => n1 ⟨z.1, by omega⟩), if_neg (fun z => n1 ⟨z.1, by omega⟩), if_neg n0]
theorem act_house {n : Nat} {S : LQ} (h : RQ n S) (x y : Int32) : ∃ S', f_L_house S x y = some (1, S') ∧ RQ (n + 1) S' := by
  obtain ⟨P, R⟩ := S
  have hv : VL (P.1 0) R := h.1
  have s : SM (P.1 0) := h.2.1
  have g : G (P.1 0) := h.2.2.1
  have gn : GN (1000 * n) (100 * n) (P.1 0) := h.2.2.2.1
  have ov : OffV (P.1 0) R := h.2.2.2.2.1
  have bal : BAL (P.1 0) := h.2.2.2.2.2.1
  have hi : HI P := h.2.2.2.2.2.2
  have h8 := s.1
  have r0 : rd R 0 (0 : Int32) = nI (hsz (P.1 0)) := (pu_rd (i := 0) (by decide)).trans (rl_0 hv g.1)
  have i0 : inb (0 : Int32) 20 = true := by decide
  unfold f_L_house
  by_cases h88 : hsz (P.1 0) = 8
  · refine ⟨(P, R), ?_, h.mono (Nat.le_succ n)⟩
    show bnd (inb (0 : Int32) 20) (if rd R 0 (0 : Int32) = 8 then _ else _) = _
    rw [i0, pu_bnd, r0, h88, if_pos (show nI 8 = (8 : Int32) from rfl)]
  · obtain ⟨q, hq⟩ : ∃ q, q = hsz (P.1 0) := ⟨_, rfl⟩
    have hq8 : q < 8 := by omega
    obtain ⟨f, hf, ef⟩ := at_ok x (n := 3) (by decide) (by decide)
    obtain ⟨b4, hb4, eb4⟩ := at_ok (x >>> ((5 : Int32) &&& 31)) (n := 4) (by decide) (by decide)
    -- the number of the demand's bound
    obtain ⟨B, hB⟩ : ∃ B, (nI b4 = 0 ∧ B = 51) ∨ (¬ nI b4 = 0 ∧ B = 15) := by
      by_cases c : nI b4 = 0
      · exact ⟨51, Or.inl ⟨c, rfl⟩⟩
      · exact ⟨15, Or.inr ⟨c, rfl⟩⟩
    obtain ⟨d, hd, ed⟩ := at_ok y (n := B) (by omega) (by omega)
    obtain ⟨P', k1, k2, k3⟩ := k_addHouse hi g.1 (f := f) (d := d) hf (by omega) (by omega)
    have hG := adS_G g gn (f := f) (d := d) hf (by omega) (by omega)
    refine ⟨(P', hR R q (nI f) (nI d)), ?_, RQ_of k3 ?_ ?_ hG.1 (hG.2.mono (by omega) (by omega)) ?_ ?_ k2⟩
    · show bnd (inb (0 : Int32) 20) (if rd R 0 (0 : Int32) = 8 then some (1, (P, R)) else bnd (inb (0 : Int32) 20) (bnd (inb (0 : Int32) 20) (letv (P, wr R 0 (0 : Int32) (rd R 0 (0 : Int32) + 1)) fun S_4 => letv (rd R 0 (0 : Int32)) fun x_5 => f_L_house_23 x y x_5 fuel (0 : Int32) S_4))) = _
      have st : ∀ (m i : Nat) (Q : VS), i < 6 → f_L_house_23 x y (nI q) (m + 1) (nI i) (P, Q) = f_L_house_23 x y (nI q) m (nI (i + 1)) (P, wn Q 1 (6 * q + i) 0) := fun m i Q hi => by
        rw [f_L_house_23, if_neg (show ¬ (6 : Int32) ≤ nI i from nI_ge (b := 6) hi (by decide)), show (6 : Int32) * nI q = nI (6 * q) from pk_mul 6 q, nI_add, pu_inb (by omega) (by decide), pu_bnd, pu_let, pu_let, nI_1, pu_wr (by omega)]
      rw [i0, pu_bnd, r0, ← hq, if_neg (fun z : nI q = 8 => h88 (by rw [← hq]; exact nI_inj0 (b := 8) (by omega) (by decide) z)), pu_bnd, pu_bnd, pu_let, pu_let, nI_1, show wr R 0 (0 : Int32) (nI (q + 1)) = wn R 0 0 (nI (q + 1)) from pu_wr (i := 0) (by decide)]
      obtain ⟨m, hm⟩ : ∃ m, fuel = m + 1 + 1 + 1 + 1 + 1 + 1 + 1 := ⟨99993, rfl⟩
      rw [hm, show (0 : Int32) = nI 0 from rfl, st _ 0 _ (by decide), st _ (0 + 1) _ (by decide), st _ (0 + 1 + 1) _ (by decide), st _ (0 + 1 + 1 + 1) _ (by decide), st _ (0 + 1 + 1 + 1 + 1) _ (by decide), st _ (0 + 1 + 1 + 1 + 1 + 1) _ (by decide)]
      rw [f_L_house_23, if_pos (by decide), show f_L_at x 3 = some (nI f) from ef, pu_some]
      have e6 : ∀ k, (6 : Int32) * nI q + nI k = nI (6 * q + k) := fun k => by rw [show (6 : Int32) * nI q = nI (6 * q) from pk_mul 6 q, nI_add]
      have k88 : f_L_house_88 (P, wn (wn (wn (wn (wn (wn (wn (wn R 0 0 (nI (q + 1))) 1 (6 * q + 0) 0) 1 (6 * q + 1) 0) 1 (6 * q + 2) 0) 1 (6 * q + 3) 0) 1 (6 * q + 4) 0) 1 (6 * q + 5) 0) 1 (6 * q) (nI f)) (nI q) (nI B) y (nI (6 * q) + 1) = some (1, (P', hR R q (nI f) (nI d))) := by
        unfold f_L_house_88
        rw [ed, pu_some, show (6 : Int32) * nI q = nI (6 * q) from pk_mul 6 q, show nI (6 * q) + (1 : Int32) = nI (6 * q + 1) from nI_add _ 1, show nI (6 * q) + (3 : Int32) = nI (6 * q + 3) from nI_add _ 3, show (8 : Int32) + nI q = nI (8 + q) from nI_add 8 q, pu_inb (by omega) (by decide), pu_inb (by omega) (by decide), pu_inb (by omega) (by decide), pu_inb (by omega) (by decide), pu_inb (by omega) (by decide), pu_bnd, pu_let, pu_bnd, pu_let, pu_bnd, pu_let, pu_bnd, pu_let, pu_bnd, pu_bnd, pu_wr (by omega), pu_wr (by omega), pu_wr (by omega), pu_wr (by omega)]
        have a0 : rd (hR R q (nI f) (nI d)) 1 (nI (6 * q)) = nI f := by
          rw [pu_rd (by omega)]
          unfold hR
          rw [pu_wn_k _ _ _ _ (by decide), pu_wn_k _ _ _ _ (by decide), pu_wn_j _ _ _ _ (by omega), pu_wn_j _ _ _ _ (by omega), pu_wn_s]
        have a1 : rd (hR R q (nI f) (nI d)) 1 (nI (6 * q + 1)) = nI d := by
          rw [pu_rd (by omega)]
          unfold hR
          rw [pu_wn_k _ _ _ _ (by decide), pu_wn_k _ _ _ _ (by decide), pu_wn_j _ _ _ _ (by omega), pu_wn_s]
        show (bnd2 (f_X6_addHouse P (rd (hR R q (nI f) (nI d)) 1 (nI (6 * q))) (rd (hR R q (nI f) (nI d)) 1 (nI (6 * q + 1)))) fun r_21 => letv (r_21.2, hR R q (nI f) (nI d)) fun S_22 => if r_21.1 = nI q then some (1, S_22) else some (0, S_22)) = _
        rw [a0, a1, k1, pu_some, pu_let, ← hq, if_pos rfl]
      rw [show (6 : Int32) * nI q = nI (6 * q) from pk_mul 6 q, pu_inb (by omega) (by decide), pu_bnd, pu_let, show f_L_at (x >>> ((5 : Int32) &&& 31)) 4 = some (nI b4) from eb4, pu_some, pu_wr (by omega)]
      rcases hB with ⟨c, eB⟩ | ⟨c, eB⟩
      · rw [if_pos c]
        subst eB
        exact k88
      · rw [if_neg c]
        subst eB
        exact k88
    · rw [hq]; exact hR_VL hv s (by omega) (nI f) (nI d)
    · refine ⟨?_, ?_, ?_⟩
      · rw [adS_hsz (by omega)]; omega
      · unfold lsz; rw [adS_22 _ _ _ (by decide)]; exact s.2.1
      · unfold qsz; rw [adS_22 _ _ _ (by decide)]; exact s.2.2
    · refine ov.wn (fun f hf => adS_k _ _ _ (by decide) (by decide)) ?_
      unfold hR
      simp only [pu_wn]
      simp
    · exact BAL_same bal (fun j _ => adS_k _ _ _ (by decide) (by decide)) (fun j _ => adS_k _ _ _ (by decide) (by decide))
