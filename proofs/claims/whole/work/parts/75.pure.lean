/-! hours of villages that differ in credits, debts, loans, totals -/
def Sm (v w : VS) : Prop := ∀ k j, k ≠ 2 → k ≠ 4 → k ≠ 18 → ¬ (10 ≤ k ∧ k < 13) → ¬ (k = 22 ∧ j = 1) → w k j = v k j
theorem Sm.r {v w : VS} (h : Sm v w) (k : Nat) (hk : k ≠ 2 ∧ k ≠ 4 ∧ k ≠ 18 ∧ ¬ (10 ≤ k ∧ k < 13) ∧ k ≠ 22) : w k = v k := funext fun j => h k j hk.1 hk.2.1 hk.2.2.1 hk.2.2.2.1 (fun z => hk.2.2.2.2 z.1)
theorem Sm.c {v w : VS} (h : Sm v w) {j : Nat} (hj : j ≠ 1) : w 22 j = v 22 j := h 22 j (by decide) (by decide) (by decide) (by decide) (by omega)
theorem Sm.hz {v w : VS} (h : Sm v w) : hsz w = hsz v := hsz_congr (h.c (by decide))
theorem Sm.put {v w : VS} (h : Sm v w) (k j : Nat) (x : Int32) : Sm (wn v k j x) (wn w k j x) := fun k' j' h1 h2 h3 h4 h5 => by
  rw [pu_wn, pu_wn]
  by_cases c : k' = k ∧ j' = j
  · rw [if_pos c, if_pos c]
  · rw [if_neg c, if_neg c]; exact h k' j' h1 h2 h3 h4 h5
theorem Sm.pt8 {v w : VS} (h : Sm v w) (j : Nat) (x y : Int32) : Sm (wn v 18 j x) (wn w 18 j y) := fun k' j' h1 h2 h3 h4 h5 => by
  rw [pu_wn_k _ _ _ _ h3, pu_wn_k _ _ _ _ h3]
  exact h k' j' h1 h2 h3 h4 h5
theorem Sm_v1 {v w : VS} (h : Sm v w) (hc : ∀ j, j < hsz v → cdr (w 4 j) (w 1 j) (w 3 j) (w 17 0) = cdr (v 4 j) (v 1 j) (v 3 j) (v 17 0)) : Sm (v1S v) (v1S w) := fun k j h1 h2 h3 h4 h5 => by
  show (if (k = 8 ∨ k = 9) ∧ j < hsz w then cdr (w 4 j) (w 1 j) (w 3 j) (w 17 0) else w k j) = if (k = 8 ∨ k = 9) ∧ j < hsz v then cdr (v 4 j) (v 1 j) (v 3 j) (v 17 0) else v k j
  rw [h.hz]
  by_cases c : (k = 8 ∨ k = 9) ∧ j < hsz v
  · rw [if_pos c, if_pos c]; exact hc j c.2
  · rw [if_neg c, if_neg c]; exact h k j h1 h2 h3 h4 h5
theorem Sm_cgv {v w : VS} (h : Sm v w) (b : Nat) : cgv w b = cgv v b := by
  unfold cgv
  rw [h.r 16 (by decide), h.r 14 (by decide)]
theorem Sm_sup {v w : VS} (h : Sm v w) : sup w (hrz w) = sup v (hrz v) := by
  unfold sup hrz qsz
  rw [h.r 21 (by decide), h.c (j := 2) (by decide), h.c (j := 3) (by decide)]
theorem Sm_avl {v w : VS} (h : Sm v w) : avl w = avl v := by
  unfold avl
  rw [Sm_sup h, Sm_cgv h, Sm_cgv h]
theorem Sm_ofF {v w : VS} (h : Sm v w) (fd : Int32) (f : Nat → Int32) : ofF w fd f = ofF v fd f := by
  unfold ofF
  rw [h.r 0 (by decide)]
theorem Sm_shS {v w : VS} (h : Sm v w) : Sm (shS v) (shS w) := by
  have et : trn w = trn v := by unfold trn; rw [h.c (j := 4) (by decide)]
  have e1 : shW w = if smF (ofF v (v 22 4) (v 9)) 0 (hsz v) 0 ≤ 0 then w else wn (wn (nS w (v 22 4) (hsz v)) 20 (trn v) 1) 19 (trn v) (v 19 (trn v) + 1) := by
    unfold shW
    rw [Sm_ofF h, h.c (j := 4) (by decide), h.r 9 (by decide), h.hz, et, h.r 19 (by decide)]
  unfold shS
  rw [et]
  refine Sm.put ?_ 22 4 _
  rw [e1]
  unfold shW
  by_cases c : smF (ofF v (v 22 4) (v 9)) 0 (hsz v) 0 ≤ 0
  · rw [if_pos c, if_pos c]; exact h
  · rw [if_neg c, if_neg c]
    refine Sm.put (Sm.put ?_ 20 _ _) 19 _ _
    intro k j h1 h2 h3 h4 h5
    unfold nS
    rw [h.r 0 (by decide), h k j h1 h2 h3 h4 h5]
theorem Sm_wsum {v w : VS} (h : Sm v w) : wsum w = wsum v := by
  unfold wsum
  rw [h.r 9 (by decide), h.hz]
theorem Sm_sh2 {v w : VS} (h : Sm v w) (av : Int32) : Sm (sh2 v av) (sh2 w av) := by
  unfold sh2
  rw [Sm_wsum h, Sm_wsum (Sm_shS h)]
  by_cases c : wsum v ≤ av
  · rw [if_pos c, if_pos c]; exact h
  · rw [if_neg c, if_neg c]
    by_cases c2 : wsum (shS v) ≤ av
    · rw [if_pos c2, if_pos c2]; exact Sm_shS h
    · rw [if_neg c2, if_neg c2]; exact Sm_shS (Sm_shS h)
theorem Sm_sv1 {v w : VS} (h : Sm v w) (f : Nat) : ∀ (d i : Nat) (s : Int32 × (Nat → Int32)), sv1 w f i d s = sv1 v f i d s := by
  have ep : ∀ a b, pt w a b = pt v a b := fun a b => by unfold pt; rw [h.r 17 (by decide)]
  have ef : ∀ j, fe w j = fe v j := fun j => by unfold fe; rw [h.r 0 (by decide)]
  intro d
  induction d with
  | zero => intro i s; rfl
  | succ d ih =>
    intro i s
    unfold sv1
    rw [ih, ef, ep, h.r 9 (by decide)]
theorem Sm_svAll {v w : VS} (h : Sm v w) (l : Int32) : svAll w l = svAll v l := by
  unfold svAll
  rw [Sm_sv1 h, Sm_sv1 h, Sm_sv1 h, h.hz]
theorem Sm_SV {v w : VS} (h : Sm v w) (P : Nat → Bool) (g : Nat → Int32) : Sm (SV v P g) (SV w P g) := fun k j h1 h2 h3 h4 h5 => by
  have el : late w j = late v j := by unfold late fe; rw [h.r 20 (by decide), h.r 0 (by decide)]
  unfold SV
  rw [h.r 7 (by decide), h.r 1 (by decide), h.r 3 (by decide), h.r 8 (by decide), el, h k j h1 h2 h3 h4 h5]
  by_cases c : P j = true
  · rw [if_pos c, if_pos c]
    by_cases c5 : k = 5
    · rw [if_pos c5, if_pos c5]
    · rw [if_neg c5, if_neg c5]
      by_cases c7 : k = 7
      · rw [if_pos c7, if_pos c7]
      · rw [if_neg c7, if_neg c7, if_neg h2, if_neg h2]
  · rw [if_neg c, if_neg c]
theorem Sm_tk0 {v w : VS} (h : Sm v w) (b : Nat) (x : Int32) : tk0 w b x = tk0 v b x := by
  unfold tk0
  rw [h.r 15 (by decide), h.r 13 (by decide), h.r 16 (by decide), h.r 14 (by decide)]
theorem Sm_stP {v w : VS} (h : Sm v w) (b : Nat) (x : Int32) : Sm (stP v b x) (stP w b x) := by
  unfold stP
  rw [Sm_tk0 h, h.r 16 (by decide), h.r 15 (by decide)]
  exact Sm.pt8 (Sm.put h 16 _ _) 2 _ _
theorem Sm_stS {v w : VS} (h : Sm v w) (x : Int32) : Sm (stS v x) (stS w x) := by
  unfold stS
  rw [Sm_tk0 h]
  exact Sm.pt8 (Sm_stP (Sm_stP h 0 x) 1 _) 3 _ _
theorem Sm_gvS {v w : VS} (h : Sm v w) (x : Int32) : Sm (gvS v x) (gvS w x) := by
  unfold gvS
  rw [Sm_cgv h, Sm_cgv h, h.r 16 (by decide)]
  exact Sm.put (Sm.put h 16 _ _) 16 _ _
theorem Sm_PH {v w : VS} (h : Sm v w) (hc : ∀ j, j < hsz v → cdr (w 4 j) (w 1 j) (w 3 j) (w 17 0) = cdr (v 4 j) (v 1 j) (v 3 j) (v 17 0)) : Sm (PH v) (PH w) := by
  have h1 := Sm_v1 h hc
  have h2 : Sm (v2S v) (v2S w) := by
    unfold v2S
    rw [Sm_avl h]
    exact Sm_sh2 (Sm.put (Sm.put (Sm.put h1 20 0 0) 20 1 0) 20 2 0) _
  have h3 : Sm (v3S v) (v3S w) := by
    unfold v3S
    rw [Sm_avl h, Sm_svAll h2, h2.hz]
    exact Sm_SV h2 _ _
  have ed : dlv w = dlv v := by
    unfold dlv
    rw [Sm_avl h, Sm_svAll h2]
  have h4 : Sm (v4S v) (v4S w) := Sm.pt8 (Sm.pt8 h3 0 _ _) 1 _ _
  have h5 : Sm (v5S v) (v5S w) := by
    unfold v5S
    rw [ed, Sm_sup h]
    by_cases c : dlv v ≤ sup v (hrz v)
    · rw [if_pos c, if_pos c]; exact Sm_stS h4 _
    · rw [if_neg c, if_neg c]; exact Sm_gvS h4 _
  unfold PH
  rw [h5.c (j := 3) (by decide)]
  exact Sm.put h5 22 3 _
/-- what a house gets in an hour -/
theorem PH_got {v : VS} (G0 : G v) {j : Nat} (hj : j < hsz v) : ∃ p d, PH v 5 j = nI p ∧ PH v 4 j = v 4 j - nI p ∧ v 1 j = nI d ∧ d ≤ 50 ∧ p ≤ d ∧ (p = 0 ∨ (p : Int) ≤ (v 4 j + v 17 0).toInt) := by
  obtain ⟨g, gh, gl, gb, gs, gt, gq⟩ := G0
  obtain ⟨s, A, hs, hsA, hA, es, eA⟩ := avl_nat g gb gq
  obtain ⟨a', ha', ea', gb9⟩ := svAll_nat (v2S_GW g gh) (a := A) (by omega)
  obtain ⟨p, u, q1, q2, q3, q4⟩ := gb9 j (by rw [v2S_hsz]; exact hj)
  obtain ⟨_, ⟨d, hd, ed⟩, _⟩ := gh j hj
  rw [← eA] at q3
  have h5 : PH v 5 j = (svAll (v2S v) (avl v)).2 j ∧ PH v 4 j = v 4 j - (svAll (v2S v) (avl v)).2 j := by
    rw [PH_v3 v (by omega), PH_v3 v (by omega)]
    unfold v3S SV
    rw [if_pos (decide_eq_true (by rw [v2S_hsz]; exact hj)), if_pos (decide_eq_true (by rw [v2S_hsz]; exact hj)), if_pos rfl, if_neg (by decide), if_neg (by decide), if_pos rfl, v2S_4 v (Or.inl rfl)]
    exact ⟨rfl, rfl⟩
  have key : p ≤ d ∧ (p = 0 ∨ (p : Int) ≤ (v 4 j + v 17 0).toInt) := by
    rcases v2S_9 v hj with e | e
    · obtain ⟨w, w1, w2, w3⟩ := cdr_nat (cr := v 4 j) (cn := v 3 j) (od := v 17 0) hd
      rw [ed, w2, q4] at e
      have := (nI_eq (by omega) (by omega)).mp e
      omega
    · rw [q4] at e
      have := (nI_eq (a := u) (b := 0) (by omega) (by omega)).mp e
      omega
  exact ⟨p, d, by rw [h5.1, q3], by rw [h5.2, q3], ed, hd, key.1, key.2⟩
