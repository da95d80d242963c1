/-! the whole hour: numbers and the reference -/
theorem pv_bnd {α : Type} (x : Option α) : bnd true x = x := (rfl)
theorem pv_some {α β : Type} (a : α) (f : α → Option β) : bnd2 (some a) f = f a := (rfl)
theorem pv_let {α β : Type} (e : α) (f : α → β) : letv e f = f e := (rfl)
theorem pv_lit (n : Nat) : (OfNat.ofNat n : Int32) = nI n := (rfl)
theorem pt_nat {v : VS} {u a : Nat} (hu : u ≤ 50) (ha : a < 2 ^ 20) : ∃ p, pt v (nI u) (nI a) = nI p ∧ p ≤ a ∧ p ≤ u := by
  unfold pt
  by_cases h : nI a < nI u
  · rw [if_pos h]
    have := (nI_ltI (by omega) (by omega)).mp h
    by_cases h2 : nI a * 100 < nI u * v 17 3
    · rw [if_pos h2]; exact ⟨0, rfl, by omega, by omega⟩
    · rw [if_neg h2]; exact ⟨a, rfl, by omega, by omega⟩
  · rw [if_neg h]
    have : ¬ a < u := fun z => h ((nI_ltI (by omega) (by omega)).mpr z)
    exact ⟨u, rfl, by omega, by omega⟩
def GB9 (v : VS) (w : Nat → Int32) : Prop := ∀ j, j < hsz v → ∃ p u, p ≤ u ∧ u ≤ 50 ∧ w j = nI p ∧ v 9 j = nI u
theorem sv1_nat {v : VS} (gw : GW v) (f : Nat) : ∀ (d i a : Nat) (w : Nat → Int32), i + d = hsz v → a < 2 ^ 20 → GB9 v w → ∃ a', a' ≤ a ∧ (sv1 v f i d (nI a, w)).1 = nI a' ∧ GB9 v (sv1 v f i d (nI a, w)).2 := by
  intro d
  induction d with
  | zero => intro i a w hi ha hb; exact ⟨a, Nat.le_refl _, rfl, hb⟩
  | succ d ih =>
    intro i a w hi ha hb
    obtain ⟨u, hu, eu⟩ := gw i (by omega)
    obtain ⟨p, e1, e2, e3⟩ := pt_nat (v := v) hu ha
    show ∃ a', a' ≤ a ∧ (sv1 v f (i + 1) d _).1 = nI a' ∧ GB9 v (sv1 v f (i + 1) d _).2
    by_cases hc : fe v i = f
    · rw [if_pos hc]
      obtain ⟨a', b1, b2, b3⟩ := ih (i + 1) (a - p) (upd w i (nI p)) (by omega) (by omega) (fun j hj => by
        by_cases hji : j = i
        · subst hji
          exact ⟨p, u, e3, hu, by simp [upd], eu⟩
        · obtain ⟨p', u', q1, q2, q3, q4⟩ := hb j hj
          exact ⟨p', u', q1, q2, by simp [upd, hji, q3], q4⟩)
      refine ⟨a', by omega, ?_⟩
      rw [eu, e1, pk_sub e2]
      exact ⟨b2, b3⟩
    · rw [if_neg hc]
      exact ih (i + 1) a w (by omega) ha hb
theorem svAll_nat {v : VS} (gw : GW v) {a : Nat} (ha : a < 2 ^ 20) : ∃ a', a' ≤ a ∧ (svAll v (nI a)).1 = nI a' ∧ GB9 v (svAll v (nI a)).2 := by
  have b0 : GB9 v (fun _ => 0) := fun j hj => by
    obtain ⟨u, hu, eu⟩ := gw j hj
    exact ⟨0, u, by omega, hu, rfl, eu⟩
  unfold svAll
  obtain ⟨a1, h1, e1, g1⟩ := sv1_nat gw 0 (hsz v) 0 a (fun _ => 0) (by omega) ha b0
  rw [show sv1 v 0 0 (hsz v) (nI a, fun _ => 0) = (nI a1, (sv1 v 0 0 (hsz v) (nI a, fun _ => 0)).2) from Prod.ext e1 rfl]
  obtain ⟨a2, h2, e2, g2⟩ := sv1_nat gw 1 (hsz v) 0 a1 (sv1 v 0 0 (hsz v) (nI a, fun _ => 0)).2 (by omega) (by omega) g1
  rw [show sv1 v 1 0 (hsz v) (nI a1, (sv1 v 0 0 (hsz v) (nI a, fun _ => 0)).2) = (nI a2, (sv1 v 1 0 (hsz v) (nI a1, (sv1 v 0 0 (hsz v) (nI a, fun _ => 0)).2)).2) from Prod.ext e2 rfl]
  obtain ⟨a3, h3, e3, g3⟩ := sv1_nat gw 2 (hsz v) 0 a2 (sv1 v 1 0 (hsz v) (nI a1, (sv1 v 0 0 (hsz v) (nI a, fun _ => 0)).2)).2 (by omega) (by omega) g2
  exact ⟨a3, by omega, e3, g3⟩
theorem avl_nat {v : VS} (g : GA v) (gb : GB v) (gq : GQ v) : ∃ s A, s ≤ 500 ∧ s ≤ A ∧ A ≤ 700 ∧ sup v (hrz v) = nI s ∧ avl v = nI A := by
  have h1 := g.2.2.2.2.2.1
  obtain ⟨s, hs, es⟩ := gq (hrz v % qsz v) (Nat.mod_lt _ (by omega))
  obtain ⟨c, r, e, q, k1, k2, k3, k4, k5, e1, e2, e3, e4⟩ := gb 0 (by decide)
  obtain ⟨c', r', e', q', l1, l2, l3, l4, l5, f1, f2, f3, f4⟩ := gb 1 (by decide)
  refine ⟨s, s + (min q r + min q' r'), hs, by omega, by omega, es, ?_⟩
  unfold avl cgv sup
  rw [es, e2, e4, f2, f4, jmin_nI (by omega) (by omega), jmin_nI (by omega) (by omega), nI_add, nI_add]
theorem sr_84 {v : VS} (g : GA v) (gw : GW v) {R : RS} (h : RV v R) (hw : RW v R) (x1 x2 : Int32) : ∃ R', f_X7_pass_84 x1 x2 fuel 0 R = f_X7_pass_107 R' x1 x2 ∧ RV (sh2 v x2) R' ∧ RW (sh2 v x2) R' ∧ Fr R R' := by
  obtain ⟨n, hn⟩ : ∃ n, fuel = n + 1 + 1 + 1 := ⟨99997, rfl⟩
  rw [show f_X7_pass_84 x1 x2 fuel 0 R = f_X7_pass_84 x1 x2 (n + 1 + 1 + 1) (nI 0) R by rw [hn]; rfl]
  unfold sh2
  have w1 := sr_wanted g h hw
  by_cases c1 : wsum v ≤ x2
  · refine ⟨R, ?_, by rw [if_pos c1]; exact h, by rw [if_pos c1]; exact hw, Fr.rfl' R⟩
    simp (disch := omega) only [f_X7_pass_84, pu_bnd, pu_some, pu_let, pu_inb, pu_rd, pu_wr, nI_1, nI_leI, nI_ltI, nI_eq, pu_lit, nI_add, pk_mul, Nat.reduceLeDiff, if_false, w1, c1, if_true]
  · obtain ⟨R1, a1, a2, a3, a4⟩ := sr_shed g gw h hw
    have w2 := sr_wanted (shS_GA g) a2 a3
    rw [if_neg c1]
    by_cases c2 : wsum (shS v) ≤ x2
    · refine ⟨R1, ?_, by rw [if_pos c2]; exact a2, by rw [if_pos c2]; exact a3, a4⟩
      simp (disch := omega) only [f_X7_pass_84, pu_bnd, pu_some, pu_let, pu_inb, pu_rd, pu_wr, nI_1, nI_leI, nI_ltI, nI_eq, pu_lit, nI_add, pk_mul, Nat.reduceLeDiff, Nat.reduceAdd, if_false, w1, c1, a1, w2, c2, if_true]
    · obtain ⟨R2, b1, b2, b3, b4⟩ := sr_shed (shS_GA g) (shS_GW g gw) a2 a3
      refine ⟨R2, ?_, by rw [if_neg c2]; exact b2, by rw [if_neg c2]; exact b3, a4.trans b4⟩
      simp (disch := omega) only [f_X7_pass_84, pu_bnd, pu_some, pu_let, pu_inb, pu_rd, pu_wr, nI_1, nI_leI, nI_ltI, nI_eq, pu_lit, nI_add, pk_mul, Nat.reduceLeDiff, Nat.reduceAdd, if_false, w1, c1, a1, w2, c2, b1, if_true]
theorem SX_all (v : VS) (n : Nat) (g : Nat → Int32) : SX v (ltB n) (ltB n) (ltB n) g = SV v (fun j => decide (j < n)) g := by
  refine vs_ext fun k j => ?_
  unfold SX SV ltB
  by_cases hj : j < n
  · simp only [hj, decide_true, and_true, if_true]
    by_cases h5 : k = 5
    · simp [h5]
    · by_cases h7 : k = 7
      · simp [h7]
      · by_cases h6 : k = 6
        · simp [h6]
        · simp [h5, h7, h6]
  · simp [hj]
theorem tk0_18 (v : VS) (j : Nat) (y : Int32) (b : Nat) (x : Int32) : tk0 (wn v 18 j y) b x = tk0 v b x := by
  unfold tk0
  rw [pu_wn_k _ _ _ _ (by decide), pu_wn_k _ _ _ _ (by decide), pu_wn_k _ _ _ _ (by decide), pu_wn_k _ _ _ _ (by decide)]
theorem stP_18 (v : VS) {j : Nat} (hj : j < 2) (y : Int32) (b : Nat) (x : Int32) : stP (wn v 18 j y) b x = wn (stP v b x) 18 j y := by
  unfold stP
  rw [tk0_18, pu_wn_k _ _ _ _ (by decide), pu_wn_k _ _ _ _ (by decide), pu_wn_j _ _ _ _ (by omega)]
  refine vs_ext fun k i => ?_
  simp only [pu_wn]
  by_cases a1 : k = 18 ∧ i = 2
  · rw [if_pos a1, if_neg (by omega), if_pos a1]
  · by_cases a2 : k = 16 ∧ i = b
    · rw [if_neg a1, if_pos a2, if_neg (by omega), if_neg a1, if_pos a2]
    · rw [if_neg a1, if_neg a2]
      by_cases a3 : k = 18 ∧ i = j
      · rw [if_pos a3, if_pos a3]
      · rw [if_neg a3, if_neg a3, if_neg a1, if_neg a2]
theorem stS_18 (v : VS) {j : Nat} (hj : j < 2) (y : Int32) (x : Int32) : stS (wn v 18 j y) x = wn (stS v x) 18 j y := by
  unfold stS
  rw [tk0_18, stP_18 v hj, tk0_18, stP_18 _ hj, pu_wn_j _ _ _ _ (by omega)]
  refine vs_ext fun k i => ?_
  simp only [pu_wn]
  by_cases a1 : k = 18 ∧ i = 3
  · rw [if_pos a1, if_neg (by omega), if_pos a1]
  · rw [if_neg a1]
    by_cases a3 : k = 18 ∧ i = j
    · rw [if_pos a3, if_pos a3]
    · rw [if_neg a3, if_neg a3, if_neg a1]
theorem gvS_18 (v : VS) (j : Nat) (y : Int32) (x : Int32) : gvS (wn v 18 j y) x = wn (gvS v x) 18 j y := by
  unfold gvS cgv
  simp only [pu_wn_k v (k := 18) (k' := 16) j y _ (by decide), pu_wn_k v (k := 18) (k' := 14) j y _ (by decide)]
  refine vs_ext fun k i => ?_
  simp only [pu_wn]
  by_cases a3 : k = 18 ∧ i = j
  · rw [if_pos a3, if_neg (by omega), if_neg (by omega), if_pos a3]
  · rw [if_neg a3]
    simp only [a3, if_false]
theorem stS_same {v : VS} {x : Int32} {k j : Nat} (h : k ≠ 16 ∧ ¬ (k = 18 ∧ j = 2) ∧ ¬ (k = 18 ∧ j = 3)) : stS v x k j = v k j := by
  unfold stS
  rw [pu_wn, if_neg h.2.2, stP_same ⟨fun z => h.1 z.1, h.2.1⟩, stP_same ⟨fun z => h.1 z.1, h.2.1⟩]
theorem gvS_same {v : VS} {x : Int32} {k j : Nat} (h : k ≠ 16) : gvS v x k j = v k j := by
  unfold gvS
  rw [pu_wn_k _ _ _ _ h, pu_wn_k _ _ _ _ h]
theorem SV_GA {v : VS} (g : GA v) (P : Nat → Bool) (w : Nat → Int32) : GA (SV v P w) := g.congr' fun j => SV_same (Or.inr (by omega))
theorem sr_213 {v : VS} {R : RS} (h : RV v R) (g : GA v) (x1 x3 : Int32) : ∃ R', f_X7_pass_213 R x1 x3 = some R' ∧ RV (wn (wn (wn v 18 0 (v 18 0 + x1)) 18 1 (v 18 1 + x3)) 22 3 (v 22 3 + 1)) R' ∧ Fr R R' := by
  have c1 : GA (wn v 18 0 (v 18 0 + x1)) := g.congr' fun j => pu_wn_k _ _ _ _ (by decide)
  have c2 : GA (wn (wn v 18 0 (v 18 0 + x1)) 18 1 (v 18 1 + x3)) := c1.congr' fun j => pu_wn_k _ _ _ _ (by decide)
  have r1 := RV.wz h g (k := 18) (j := 0) (i := 181) (x := v 18 0 + x1) rfl (by unfold inR; omega) (Or.inl (by decide))
  have r2 := RV.wz r1 c1 (k := 18) (j := 1) (i := 182) (x := v 18 1 + x3) rfl (by unfold inR; omega) (Or.inl (by decide))
  have r3 := RV.wz r2 c2 (k := 22) (j := 3) (i := 174) (x := v 22 3 + 1) rfl (by unfold inR; omega) (Or.inr (by decide))
  have h0 := rz_18 h (j := 0) (i := 181) (by decide) rfl
  have h1 := rz_18 r1 (j := 1) (i := 182) (by decide) rfl
  have h3 := rz_174 r2 c2
  rw [pu_wn_j _ _ _ _ (by decide)] at h1
  have h3' : nI (hrz (wn (wn v 18 0 (v 18 0 + x1)) 18 1 (v 18 1 + x3))) = v 22 3 := by
    rw [← c2.2.2.2.2.2.2.2.1, pu_wn_k _ _ _ _ (by decide), pu_wn_k _ _ _ _ (by decide)]
  rw [h3'] at h3
  refine ⟨_, ?_, r3, ((wz_Fr _ _ _).trans (wz_Fr _ _ _)).trans (wz_Fr _ _ _)⟩
  simp (disch := omega) only [f_X7_pass_213, pu_bnd, pu_some, pu_let, pu_inb, pu_rd, pu_wr, nI_1, nI_leI, nI_ltI, nI_eq, pu_lit, nI_add, pk_mul, h0]
  rw [show setR R (wn R.1 0 181 (v 18 0 + x1)) = wz R 181 (v 18 0 + x1) from rfl, h1, show setR (wz R 181 (v 18 0 + x1)) (wn (wz R 181 (v 18 0 + x1)).1 0 182 (v 18 1 + x3)) = wz (wz R 181 (v 18 0 + x1)) 182 (v 18 1 + x3) from rfl, h3]
  rfl
theorem sr_pass {v : VS} {R : RS} (h : RV v R) (G0 : G v) : ∃ R', f_X7_pass R = some R' ∧ RV (PH v) R' ∧ Fr R R' := by
  obtain ⟨g, gh, gl, gb, gs, gt, gq⟩ := G0
  have gf := GF.of gh
  have h10 := g.2.1
  obtain ⟨s, A, hs, hsA, hA, es, eA⟩ := avl_nat g gb gq
  obtain ⟨a', ha', ea', gb9⟩ := svAll_nat (v2S_GW g gh) (a := A) (by omega)
  have edl : dlv v = nI (A - a') := by
    unfold dlv
    rw [eA, ea', pk_sub ha']
  obtain ⟨R1, a1, a2, a3, a4⟩ := sr_29 g (sup v (hrz v)) (avl v) (hsz v) 0 fuel R (by omega) (fuel_gt (by omega)) h (fun j hj => absurd hj (Nat.not_lt_zero _))
  have z1 : hsz (v1S v) = hsz v := hsz_congr (v1S_same v (by omega))
  have b2 : RV (v1S v) R1 := a2.to ⟨v1S_same v (by omega), v1S_same v (by omega), v1S_same v (by omega)⟩ (fun k j hr => v1S_same v (by unfold relv at hr; omega))
  have b4 : RW (v1S v) R1 := fun j hj => by
    rw [z1] at hj
    rw [a4 j hj]
    unfold v1S wS
    rw [if_pos ⟨Or.inr rfl, hj⟩]
  obtain ⟨R2, c1, c2, c3, c4⟩ := sr_60 (v1S_GA g) b2 (sup v (hrz v)) (avl v)
  have c5 : RW (rs0 (v1S v)) R2 := fun j hj => by
    rw [show hsz (rs0 (v1S v)) = hsz (v1S v) from hsz_congr (rs0_same _ (by omega))] at hj
    rw [c4, b4 j hj, rs0_same _ (by omega)]
  obtain ⟨R3, d1, d2, d3, d4⟩ := sr_84 (rs0_GA (v1S_GA g)) (rs0_GW (v1S_GW gh)) c2 c5 (sup v (hrz v)) (avl v)
  obtain ⟨R4, e1, e2, e3, e4⟩ := sr_serve (v := v2S v) (v2S_GA g) (v2S_GF gf) d2 d3 (avl v)
  have h8 : ∀ j, j < hsz (v2S v) → v2S v 8 j = cdr (v2S v 4 j) (v2S v 1 j) (v2S v 3 j) (v2S v 17 0) := fun j hj => by
    rw [v2S_hsz] at hj
    rw [v2S_same v (k := 4) (by omega), v2S_same v (k := 1) (by omega), v2S_same v (k := 3) (by omega), v2S_same v (k := 17) (by omega)]
    have e8 : v2S v 8 j = v1S v 8 j := by
      unfold v2S
      rw [sh2_same (fun w hw => by rw [shS_same w (by omega), hw]), rs0_same _ (by decide)]
    rw [e8]
    unfold v1S wS
    rw [if_pos ⟨Or.inl rfl, hj⟩]
  obtain ⟨R5, f1, f2, f3⟩ := sr_116 (v2S_GA g) (v2S_GF gf) h8 (svAll (v2S v) (avl v)).2 (sup v (hrz v)) (dlv v) (hsz (v2S v)) 0 fuel R4 (by omega) (fuel_gt (by rw [v2S_hsz]; omega)) (by
    have : SX (v2S v) (ltB (hsz (v2S v))) (ltB 0) nB (svAll (v2S v) (avl v)).2 = SX (v2S v) (fun j => decide (j < hsz (v2S v))) nB nB (svAll (v2S v) (avl v)).2 := by
      rw [show ltB 0 = nB from funext fun j => by unfold ltB nB; simp]
      rfl
    rw [this]
    exact e2)
  obtain ⟨R6, k1, k2, k3⟩ := sr_157 (v2S_GA g) (svAll (v2S v) (avl v)).2 (sup v (hrz v)) (dlv v) (hsz (v2S v)) 0 fuel R5 (by omega) (fuel_gt (by rw [v2S_hsz]; omega)) (by
    rw [show ltB 0 = nB from funext fun j => by unfold ltB nB; simp]
    exact f2)
  rw [SX_all] at k2
  have k2' : RV (v3S v) R6 := k2
  have g3 : GA (v3S v) := SV_GA (v2S_GA g) _ _
  have gb3 : GB (v3S v) := fun b hb => by
    obtain ⟨c, r, e, q, l1, l2, l3, l4, l5, m1, m2, m3, m4⟩ := gb b hb
    refine ⟨c, r, e, q, l1, l2, l3, l4, l5, ?_, ?_, ?_, ?_⟩ <;>
    (unfold v3S; rw [SV_same (Or.inr (by omega)), v2S_same v (by omega)]; assumption)
  have hpass : f_X7_pass R = (if dlv v ≤ sup v (hrz v) then bnd2 (f_X7_charge R6 (sup v (hrz v) - dlv v)) fun r => f_X7_pass_213 r (sup v (hrz v)) (dlv v) else bnd2 (f_X7_take R6 (dlv v - sup v (hrz v))) fun r => f_X7_pass_213 r (sup v (hrz v)) (dlv v)) := by
    rw [nI_0] at k1
    rw [← k1, ← f1]
    have q107 : f_X7_pass_107 R3 (sup v (hrz v)) (avl v) = f_X7_pass_116 (sup v (hrz v)) (dlv v) fuel (nI 0) R4 := by
      unfold f_X7_pass_107
      rw [e1]
      unfold dlv
      simp only [pv_some, nI_0]
    rw [← q107, ← d1, ← c1, ← a1]
    unfold f_X7_pass
    simp (disch := omega) only [pv_bnd, pv_some, pv_let, pu_inb, pu_rd, pv_lit, nI_add, rz_174 h g, sr_supplyAt h g (by have := g.2.2.2.2.2.2.2.2.1; omega : hrz v < 2 ^ 31), sr_canGive h (by omega : 0 < 2), sr_canGive h (by omega : 1 < 2)]
    rw [show avl v = sup v (hrz v) + cgv v 0 + cgv v 1 from (Int32.add_assoc _ _ _).symm]
  rw [hpass]
  unfold PH v5S
  by_cases hc : dlv v ≤ sup v (hrz v)
  · rw [if_pos hc, if_pos hc]
    have hle : A - a' ≤ s := by rw [edl, es] at hc; exact (nI_leI (by omega) (by omega)).mp hc
    rw [show sup v (hrz v) - dlv v = nI (s - (A - a')) by rw [edl, es, pk_sub hle]]
    obtain ⟨R7, l1, l2, l3⟩ := sr_charge k2' g3 gb3 (x := s - (A - a')) (by omega)
    obtain ⟨R8, m1, m2, m3⟩ := sr_213 l2 (g3.congr' fun j => stS_same (by omega)) (sup v (hrz v)) (dlv v)
    refine ⟨R8, ?_, ?_, ?_⟩
    · rw [l1, pu_some, m1]
    · unfold v4S
      rw [stS_18 _ (by decide), stS_18 _ (by decide), pu_wn_k _ _ _ _ (by decide), pu_wn_k _ _ _ _ (by decide)]
      rw [stS_same (by omega), stS_same (by omega)] at m2
      exact m2
    · exact (((((((a3.trans c3).trans d4).trans e4).trans f3).trans k3).trans l3).trans m3)
  · rw [if_neg hc, if_neg hc]
    obtain ⟨R7, l1, l2, l3⟩ := sr_take k2' g3 (dlv v - sup v (hrz v))
    obtain ⟨R8, m1, m2, m3⟩ := sr_213 l2 (g3.congr' fun j => gvS_same (by omega)) (sup v (hrz v)) (dlv v)
    refine ⟨R8, ?_, ?_, ?_⟩
    · rw [l1, pu_some, m1]
    · unfold v4S
      rw [gvS_18, gvS_18, pu_wn_k _ _ _ _ (by decide), pu_wn_k _ _ _ _ (by decide)]
      rw [gvS_same (by omega), gvS_same (by omega)] at m2
      exact m2
    · exact (((((((a3.trans c3).trans d4).trans e4).trans f3).trans k3).trans l3).trans m3)
