/-! THE CLASS'S SIDE: history's shape, the balance -/
def HI (S : PS) : Prop := ∃ m, m ≤ 8 ∧ S.1 12 2 4 = nI m ∧ ∀ i, i < 8 → 4 ≤ S.2 i ∧ S.2 i < 12
theorem hi_set {S : PS} (h : HI S) (w : VS) : HI (setV S 0 w) := by
  obtain ⟨m, h1, h2, h3⟩ := h
  exact ⟨m, h1, by rw [setV_ne S w (by decide)]; exact h2, h3⟩
theorem hi_record {S : PS} (h : HI S) : ∃ S', f_X1_record 0 S = some S' ∧ HI S' ∧ S'.1 0 = S.1 0 := by
  obtain ⟨m, m1, m2, m4⟩ := h
  have core : ∀ (T : PS) (m : Nat), m < 8 → T.1 12 2 4 = nI m → (∀ i, i < 8 → 4 ≤ T.2 i ∧ T.2 i < 12) → T.1 0 = S.1 0 → ∃ S', f_X1_record_13 0 T = some S' ∧ HI S' ∧ S'.1 0 = S.1 0 := by
    intro T m hm t2 t4 t7
    have hp := t4 m hm
    obtain ⟨w, w1, w2⟩ := sp_copy (i := T.2 m) (j := 0) (by omega) T
    refine ⟨setV (setV T (T.2 m) w) 12 (wn (T.1 12) 2 4 (nI m + 1)), ?_, ⟨m + 1, by omega, ?_, t4⟩, ?_⟩
    · unfold f_X1_record_13
      rw [t2]
      simp (disch := omega) only [pu_inb, pu_bnd, nI_clamp]
      rw [decide_eq_true hp.2, pu_bnd, w1, pu_some, pu_let, setV_ne T w (by omega : 12 ≠ T.2 m), t2]
    · rw [setV_at, pu_wn_s, nI_1]
    · rw [setV_ne _ _ (by decide), setV_ne _ _ (by omega)]
      exact t7
  unfold f_X1_record
  rw [m2]
  by_cases hm : m < 8
  · rw [if_pos (show nI m < 8 from nI_lt hm (by decide))]
    exact core S m hm m2 m4 rfl
  · obtain rfl : m = 8 := by omega
    rw [if_neg (show ¬ nI 8 < 8 by decide)]
    obtain ⟨T, a1, a2, a3, a4, a5⟩ := sp_drop S (fun i hi => (m4 i hi).2)
    rw [a1, pu_some]
    have tS : ∀ i, i < 8 → T.2 i = S.2 (if i < 7 then i + 1 else 0) := fun i hi => by
      by_cases h7 : i < 7
      · rw [if_pos h7, a4 i h7]
      · rw [if_neg h7, show i = 7 by omega, a5]
    refine core T 7 (by decide) ?_ ?_ ?_
    · rw [a3, if_pos ⟨rfl, rfl⟩, m2]; rfl
    · intro i hi
      rw [tS i hi]
      exact m4 _ (by split <;> omega)
    · exact a2 0 (by decide)
def BAL (v : VS) : Prop := v 18 0 = v 18 1 + v 18 2 + v 18 3 + v 18 4 + (v 16 0 + v 16 1)
theorem BAL_same {v w : VS} (b : BAL v) (h : ∀ j, j < 5 → w 18 j = v 18 j) (h6 : ∀ j, j < 2 → w 16 j = v 16 j) : BAL w := by
  unfold BAL
  rw [h 0 (by decide), h 1 (by decide), h 2 (by decide), h 3 (by decide), h 4 (by decide), h6 0 (by decide), h6 1 (by decide)]
  exact b
theorem bal_st (a b c d e f g s p t u q r : Int32) (h : a = b + c + d + e + (f + g)) : a + s = b + p + (c + (t - q) + (u - r)) + (d + (s - p - t - u)) + e + (f + q + (g + r)) := by
  subst h
  grind
theorem bal_gv (a b c d e f g s p t u : Int32) (h : a = b + c + d + e + (f + g)) (h2 : t + u = p - s) : a + s = b + p + c + d + e + (f - t + (g - u)) := by
  subst h
  grind
theorem BAL_v3 {v : VS} (b : BAL v) : BAL (v3S v) := BAL_same b (fun j hj => by rw [v3S_same v (by omega), v2S_same v (by omega)]) (fun j hj => by rw [v3S_same v (by omega), v2S_same v (by omega)])
theorem PH_BAL {v : VS} (b : BAL v) (G0 : G v) : BAL (PH v) := by
  obtain ⟨g, gh, gl, gb, gs, gt, gq⟩ := G0
  obtain ⟨s0, hs0, es0⟩ := gq (hrz v % qsz v) (Nat.mod_lt _ (by have := g.2.2.2.2.2.1; omega))
  have es : sup v (hrz v) = nI s0 := es0
  obtain ⟨c, r, e, q, k1, k2, k3, k4, k5, e1, e2, e3, e4⟩ := gb 0 (by decide)
  obtain ⟨c', r', e', q', l1, l2, l3, l4, l5, f1, f2, f3, f4⟩ := gb 1 (by decide)
  have eg0 : cgv v 0 = nI (min q r) := by unfold cgv; rw [e2, e4, jmin_nI (by omega) (by omega)]
  have eg1 : cgv v 1 = nI (min q' r') := by unfold cgv; rw [f2, f4, jmin_nI (by omega) (by omega)]
  have eA : avl v = nI (s0 + (min q r + min q' r')) := by unfold avl; rw [es, eg0, eg1, nI_add, nI_add]
  obtain ⟨a', ha', ea', -⟩ := svAll_nat (v2S_GW g gh) (a := s0 + (min q r + min q' r')) (by omega)
  have edl : dlv v = nI (s0 + (min q r + min q' r') - a') := by
    unfold dlv
    rw [eA, ea', pk_sub ha']
  have b3 := BAL_v3 b
  have hc0 : cgv (v3S v) 0 = nI (min q r) := by rw [v3S_cgv, eg0]
  have hc1 : cgv (v3S v) 1 = nI (min q' r') := by rw [v3S_cgv, eg1]
  have key : ∀ (w : VS) (x y z : Int32), BAL (enV w x y z) ↔ w 18 0 + x = w 18 1 + y + w 18 2 + (w 18 3 + z) + w 18 4 + (w 16 0 + w 16 1) := fun w x y z => by
    unfold BAL enV
    simp only [pu_wn]
    simp
  unfold PH v5S v4S
  by_cases hc : dlv v ≤ sup v (hrz v)
  · rw [if_pos hc, enV_st, key]
    obtain ⟨x, hx⟩ : ∃ x, x = sup v (hrz v) - dlv v := ⟨_, rfl⟩
    rw [← hx]
    obtain ⟨W, hW⟩ : ∃ W, W = v3S v := ⟨_, rfl⟩
    rw [← hW] at b3 ⊢
    have r0 : ∀ j, j ≠ 2 → stP (stP W 0 x) 1 (x - tk0 W 0 x) 18 j = W 18 j := fun j hj => by rw [stP_same (by omega), stP_same (by omega)]
    have r2 : stP (stP W 0 x) 1 (x - tk0 W 0 x) 18 2 = W 18 2 + (tk0 W 0 x - tk0 W 0 x * W 15 0 / 100) + (tk0 (stP W 0 x) 1 (x - tk0 W 0 x) - tk0 (stP W 0 x) 1 (x - tk0 W 0 x) * (stP W 0 x) 15 1 / 100) := by
      show wn (wn (stP W 0 x) 16 1 _) 18 2 _ 18 2 = _
      rw [pu_wn_s]
      show wn (wn W 16 0 _) 18 2 _ 18 2 + _ = _
      rw [pu_wn_s]
    have r6 : stP (stP W 0 x) 1 (x - tk0 W 0 x) 16 0 = W 16 0 + tk0 W 0 x * W 15 0 / 100 := by
      rw [stP_same (by omega)]
      show wn (wn W 16 0 _) 18 2 _ 16 0 = _
      rw [pu_wn_k _ _ _ _ (by decide), pu_wn_s]
    have r7 : stP (stP W 0 x) 1 (x - tk0 W 0 x) 16 1 = W 16 1 + tk0 (stP W 0 x) 1 (x - tk0 W 0 x) * (stP W 0 x) 15 1 / 100 := by
      show wn (wn (stP W 0 x) 16 1 _) 18 2 _ 16 1 = _
      rw [pu_wn_k _ _ _ _ (by decide), pu_wn_s, stP_same (by omega)]
    rw [r0 0 (by decide), r0 1 (by decide), r0 3 (by decide), r0 4 (by decide), r2, r6, r7, hx]
    exact bal_st _ _ _ _ _ _ _ _ _ _ _ _ _ b3
  · rw [if_neg hc, enV_gv, key]
    have hc' := hc
    rw [edl, es, nI_leI (by omega) (by omega)] at hc'
    have ex : dlv v - sup v (hrz v) = nI (s0 + (min q r + min q' r') - a' - s0) := by rw [es, edl, pk_sub (by omega)]
    obtain ⟨W, hW⟩ : ∃ W, W = v3S v := ⟨_, rfl⟩
    rw [← hW] at b3 hc0 hc1 ⊢
    have m0 : jmin (dlv v - sup v (hrz v)) (cgv W 0) = nI (min (s0 + (min q r + min q' r') - a' - s0) (min q r)) := by rw [ex, hc0, jmin_nI (by omega) (by omega)]
    have m1 : jmin (dlv v - sup v (hrz v) - jmin (dlv v - sup v (hrz v)) (cgv W 0)) (cgv W 1) = nI (min (s0 + (min q r + min q' r') - a' - s0 - min (s0 + (min q r + min q' r') - a' - s0) (min q r)) (min q' r')) := by rw [m0, ex, pk_sub (by omega), hc1, jmin_nI (by omega) (by omega)]
    have hs : jmin (dlv v - sup v (hrz v)) (cgv W 0) + jmin (dlv v - sup v (hrz v) - jmin (dlv v - sup v (hrz v)) (cgv W 0)) (cgv W 1) = dlv v - sup v (hrz v) := by
      rw [m1, m0, nI_add, ex]
      exact congrArg nI (by omega)
    have r0 : ∀ j, gvS W (dlv v - sup v (hrz v)) 18 j = W 18 j := fun j => gvS_same (by decide)
    have r6 : gvS W (dlv v - sup v (hrz v)) 16 0 = W 16 0 - jmin (dlv v - sup v (hrz v)) (cgv W 0) := by
      unfold gvS
      rw [pu_wn_j _ _ _ _ (by decide), pu_wn_s]
    have r7 : gvS W (dlv v - sup v (hrz v)) 16 1 = W 16 1 - jmin (dlv v - sup v (hrz v) - jmin (dlv v - sup v (hrz v)) (cgv W 0)) (cgv W 1) := by
      unfold gvS
      rw [pu_wn_s]
    rw [r0, r0, r0, r0, r0, r6, r7, Int32.add_zero]
    exact bal_gv _ _ _ _ _ _ _ _ _ _ _ b3 hs
theorem PHn_BAL {c : Nat} : ∀ (d t : Nat) (v : VS), BAL v → G v → GN c t v → t + d < 2 ^ 29 → BAL (PHn d v) := by
  intro d
  induction d with
  | zero => intro t v b _ _ _; exact b
  | succ d ih =>
    intro t v b g gn ht
    have := PH_G g gn (by omega)
    exact ih (t + 1) (PH v) (PH_BAL b g) this.1 this.2 (by omega)
