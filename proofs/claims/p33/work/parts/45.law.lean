/-! THE LAW'S HOUR AS A WHOLE -/
def OffV (v R : VS) : Prop := ∃ b1 b2, OffR (mk2 b1 b2) R ∧ ∀ f, f < 3 → v 20 f = if bt b1 b2 f = true then 1 else 0
theorem v3S_GB {v : VS} (gb : GB v) : GB (v3S v) := fun b hb => by
  have e : ∀ k, 13 ≤ k → k < 17 → v3S v k b = v k b := fun k h1 h2 => by rw [v3S_same v (by omega), v2S_same v (by omega)]
  rw [e 13 (by decide) (by decide), e 14 (by decide) (by decide), e 15 (by decide) (by decide), e 16 (by decide) (by decide)]
  exact gb b hb
theorem v3S_cgv (v : VS) (b : Nat) : cgv (v3S v) b = cgv v b := by
  unfold cgv
  rw [v3S_same v (by decide), v2S_same v (by omega), v3S_same v (by decide), v2S_same v (by omega)]
theorem v3S_SM {v : VS} (s : SM v) : SM (v3S v) := s.congr fun j _ => by rw [v3S_same v (by decide), v2S_same v (by omega)]
theorem shv_UB {v : VS} (g : GA v) (gh : GH v) (s : SM v) {b1 b2 : Bool} {t : Nat} (e : v2S v = shv v b1 b2 t) : UB (v2S v) b1 b2 := by
  have gf := GF.of gh
  have sm : SM (v2S v) := s.congr fun j _ => v2S_same v (by omega)
  have z := v2S_hsz v
  have k : ∀ {k j : Nat}, (k ≠ 8 ∧ k ≠ 9 ∧ k ≠ 20 ∧ k ≠ 19 ∧ ¬ (k = 22 ∧ j = 4)) → v2S v k j = v k j := fun h => v2S_same v h
  refine ⟨v2S_GA g, sm, v2S_GF gf, fun j hj => ?_, fun j hj => ?_, fun j hj => ?_, fun f hf => ?_⟩
  · rw [k (by omega)]; exact GH_d0 gh (by rw [z] at hj; exact hj)
  · rw [z] at hj
    have e9 : v2S v 9 j = wtO v b1 b2 j := by rw [e, shv_9 v b1 b2 t hj]
    rw [e9]
    unfold wtO
    rw [v2S_fe, k (k := 4) (by omega), k (k := 1) (by omega), k (k := 3) (by omega), k (k := 17) (by omega)]
  · rw [z] at hj
    have e8 : v2S v 8 j = cdr (v 4 j) (v 1 j) (v 3 j) (v 17 0) := by rw [e, shv_8 v b1 b2 t hj]
    rw [e8, k (k := 4) (by omega), k (k := 1) (by omega), k (k := 3) (by omega), k (k := 17) (by omega)]
  · rw [e, shv_20 v b1 b2 t hf]
theorem sl_store {w R : VS} (h : VL w R) (s : SM w) (gb : GB w) {m : Nat} (o : OffR m R) {x9 x5 : Int32} {x : Nat} (hx : x < 2 ^ 20) (hc : x9 ≤ x5) : ∃ R', f_L_hour_399 x5 x9 fuel (nI x) 0 R = some R' ∧ VL (enV (stP (stP w 0 (nI x)) 1 (nI x - tk0 w 0 (nI x))) x5 x9 (nI x - tk0 w 0 (nI x) - tk0 (stP w 0 (nI x)) 1 (nI x - tk0 w 0 (nI x)))) R' ∧ OffR m R' := by
  obtain ⟨et, ht, -⟩ := tk0_nat gb (b := 0) (by decide) (x := x) (by omega)
  obtain ⟨n, hn⟩ : ∃ n, fuel = n + 1 + 1 + 1 := ⟨99997, rfl⟩
  obtain ⟨R1, a1, a2, a3⟩ := sl_take1 h s gb o (b := 0) (by decide) x5 x9 hc hx (n + 1 + 1)
  have ex : nI x - tk0 w 0 (nI x) = nI (x - tkN w 0 x) := by rw [et, pk_sub ht]
  have s1 : SM (stP w 0 (nI x)) := s.congr fun j _ => stP_same (by omega)
  rw [ex] at a1 ⊢
  obtain ⟨R2, c1, c2, c3⟩ := sl_take1 a2 s1 (stP_GB gb (b := 0) (by decide) (by omega)) a3 (b := 1) (by decide) x5 x9 hc (x := x - tkN w 0 x) (by omega) (n + 1)
  have s2 : SM (stP (stP w 0 (nI x)) 1 (nI (x - tkN w 0 x))) := s1.congr fun j _ => stP_same (by omega)
  obtain ⟨R3, d1, d2, d3⟩ := sl_end c2 s2 c3 x5 x9 (nI (x - tkN w 0 x) - tk0 (stP w 0 (nI x)) 1 (nI (x - tkN w 0 x))) n
  refine ⟨R3, ?_, d2, d3⟩
  rw [show f_L_hour_399 x5 x9 fuel (nI x) 0 R = f_L_hour_399 x5 x9 (n + 1 + 1 + 1) (nI x) (nI 0) R by rw [hn]; rfl]
  exact a1.trans (c1.trans d1)
theorem sl_give2 {w R : VS} (h : VL w R) (s : SM w) {m : Nat} (o : OffR m R) {x9 x5 : Int32} (hc : ¬ x9 ≤ x5) {p g0 g1 : Nat} (hp : x9 - x5 = nI p) (hp2 : p < 2 ^ 20) (e0 : cgv w 0 = nI g0) (e1 : cgv w 1 = nI g1) (h0 : g0 < 2 ^ 20) (h1 : g1 < 2 ^ 20) (hle : p ≤ g0 + g1) : ∃ R', f_L_hour_399 x5 x9 fuel (x5 - x9) 0 R = some R' ∧ VL (enV (gvS w (x9 - x5)) x5 x9 0) R' ∧ OffR m R' := by
  obtain ⟨n, hn⟩ : ∃ n, fuel = n + 1 + 1 + 1 := ⟨99997, rfl⟩
  have en : -(x5 - x9) = nI p := by rw [Int32.neg_sub, hp]
  have ec : x5 - x9 = -(nI p) := by rw [← en, Int32.neg_neg]
  obtain ⟨R1, a1, a2, a3⟩ := sl_give1 h s o (b := 0) (by decide) x5 x9 (x5 - x9) hc (n + 1 + 1)
  have m0 : jmin (nI p) (cgv w 0) = nI (min p g0) := by rw [e0, jmin_nI (by omega) (by omega)]
  rw [en, m0] at a1 a2
  have ec1 : -(x5 - x9 + nI (min p g0)) = nI (p - min p g0) := by rw [Int32.neg_add, en, pk_sub (by omega)]
  obtain ⟨R2, c1, c2, c3⟩ := sl_give1 a2 (s.wk (Or.inl (by decide)) _) a3 (b := 1) (by decide) x5 x9 (x5 - x9 + nI (min p g0)) hc (n + 1)
  have ew : cgv (wn w 16 0 (w 16 0 - nI (min p g0))) 1 = nI g1 := by
    rw [← e1]
    unfold cgv
    rw [pu_wn_j _ _ _ _ (by decide), pu_wn_k _ _ _ _ (by decide)]
  rw [ec1, ew, jmin_nI (by omega) (by omega)] at c1 c2
  rw [pu_wn_j _ _ _ _ (by decide)] at c2
  have ez : x5 - x9 + nI (min p g0) + nI (min (p - min p g0) g1) = 0 := by
    rw [Int32.add_assoc, nI_add, show min p g0 + min (p - min p g0) g1 = p by omega, ec, Int32.add_left_neg]
  rw [ez] at c1
  have eg : gvS w (x9 - x5) = wn (wn w 16 0 (w 16 0 - nI (min p g0))) 16 1 (w 16 1 - nI (min (p - min p g0) g1)) := by
    unfold gvS
    rw [hp, m0, pk_sub (by omega), e1, jmin_nI (by omega) (by omega)]
  rw [eg]
  obtain ⟨R3, d1, d2, d3⟩ := sl_end c2 ((s.wk (Or.inl (by decide)) _).wk (Or.inl (by decide)) _) c3 x5 x9 0 n
  refine ⟨R3, ?_, d2, d3⟩
  rw [show f_L_hour_399 x5 x9 fuel (x5 - x9) 0 R = f_L_hour_399 x5 x9 (n + 1 + 1 + 1) (x5 - x9) (nI 0) R by rw [hn]; rfl]
  exact a1.trans (c1.trans d1)
theorem sl_hour {v R : VS} (h : VL v R) (s : SM v) (G0 : G v) : ∃ R', f_L_hour R = some R' ∧ VL (PH v) R' ∧ OffV (PH v) R' := by
  obtain ⟨g, gh, gl, gb, gs, gt, gq⟩ := G0
  have hq : qsz v = 1 := s.2.2
  have hz := g.2.2.2.2.2.2.2.2.1
  obtain ⟨s0, hs0, es0⟩ := gq 0 (by omega)
  have esup : sup v (hrz v) = v 21 0 := by unfold sup; rw [hq, Nat.mod_one]
  have es : sup v (hrz v) = nI s0 := by rw [esup, es0]
  obtain ⟨c, r, e, q, k1, k2, k3, k4, k5, e1, e2, e3, e4⟩ := gb 0 (by decide)
  obtain ⟨c', r', e', q', l1, l2, l3, l4, l5, f1, f2, f3, f4⟩ := gb 1 (by decide)
  have eg0 : cgv v 0 = nI (min q r) := by unfold cgv; rw [e2, e4, jmin_nI (by omega) (by omega)]
  have eg1 : cgv v 1 = nI (min q' r') := by unfold cgv; rw [f2, f4, jmin_nI (by omega) (by omega)]
  have eA : avl v = nI (s0 + (min q r + min q' r')) := by unfold avl; rw [es, eg0, eg1, nI_add, nI_add]
  obtain ⟨a', ha', ea', -⟩ := svAll_nat (v2S_GW g gh) (a := s0 + (min q r + min q' r')) (by omega)
  have edl : dlv v = nI (s0 + (min q r + min q' r') - a') := by
    unfold dlv
    rw [eA, ea', pk_sub ha']
  obtain ⟨b1, b2, t, ht, p1, p2⟩ := sl_shed h s g gh (v 21 0) (avl v)
  have ev2 : v2S v = shv v b1 b2 t := p2
  obtain ⟨R1, q1, q2, q3⟩ := sl_98 h s b1 b2 ht (v 21 0) (avl v)
  rw [← ev2] at q2
  have B := shv_UB g gh s ev2
  obtain ⟨R2, r1, r2, r3⟩ := sl_serve B (v 21 0) (avl v) q2 q3
  obtain ⟨R3, t1, t2, t3⟩ := sl_pay B.1 B.2.1 (svAll (v2S v) (avl v)).2 (v 21 0) (dlv v) (hsz (v2S v)) 0 fuel R2 (by omega) (fuel_gt (by have := B.2.1.1; omega)) (by
    rw [show (fun j => decide (j < 0)) = nBL from funext fun j => by simp [nBL]]
    exact r2) r3
  have hw : VL (v3S v) R3 := t2
  have start : f_L_hour R = f_L_hour_399 (v 21 0) (dlv v) fuel (v 21 0 - dlv v) 0 R3 := by
    have r15 : rd R 0 (15 : Int32) = nI 1 := (pu_rd (i := 15) (by decide)).trans (rl_15 h g s)
    have r2' : rd R 0 (2 : Int32) = nI (hrz v) := (pu_rd (i := 2) (by decide)).trans (rl_2 h g)
    have r5 : rd R 5 (nI 0) = v 21 0 := (pu_rd (by decide)).trans (rl_21 h)
    unfold f_L_hour
    rw [show inb (2 : Int32) 20 = true by decide, show inb (15 : Int32) 20 = true by decide, pu_bnd, pu_bnd, r15, r2', pu_nz (by decide) (by decide), pu_bnd, pk_rem (by omega) (by decide) (by decide), Nat.mod_one, pu_inb (by decide) (by decide), pu_bnd, r5, pu_let]
    rw [show f_L_give R 0 = some (cgv v 0) from sl_give h (b := 0) (by decide), show f_L_give R 1 = some (cgv v 1) from sl_give h (b := 1) (by decide), pu_some, pu_some, pu_let, Int32.add_assoc, show v 21 0 + (cgv v 0 + cgv v 1) = avl v by unfold avl; rw [esup]]
    rw [p1, q1, r1]
    exact t1
  have fin : ∀ R', (∃ m, m = mk2 b1 b2 ∧ OffR m R') → OffV (PH v) R' := fun R' hm => by
    obtain ⟨m, rfl, hm⟩ := hm
    refine ⟨b1, b2, hm, fun f hf => ?_⟩
    rw [PH_v3 v (by omega), v3S_same v (by omega)]
    exact B.2.2.2.2.2.2 f hf
  rw [start]
  unfold PH v5S v4S
  rw [← esup]
  by_cases hc : dlv v ≤ sup v (hrz v)
  · rw [if_pos hc]
    have hc' := hc
    rw [edl, es, nI_leI (by omega) (by omega)] at hc'
    have ex : sup v (hrz v) - dlv v = nI (s0 - (s0 + (min q r + min q' r') - a')) := by rw [es, edl, pk_sub hc']
    obtain ⟨R4, u1, u2, u3⟩ := sl_store hw (v3S_SM s) (v3S_GB gb) t3 (x := s0 - (s0 + (min q r + min q' r') - a')) (by omega) hc
    refine ⟨R4, ?_, ?_, ?_⟩
    · rw [ex]; exact u1
    · rw [enV_st, ex]; exact u2
    · have := fin R4 ⟨_, rfl, u3⟩
      unfold PH v5S v4S at this
      rw [if_pos hc] at this
      exact this
  · rw [if_neg hc]
    have hc' := hc
    rw [edl, es, nI_leI (by omega) (by omega)] at hc'
    have ex : dlv v - sup v (hrz v) = nI (s0 + (min q r + min q' r') - a' - s0) := by rw [es, edl, pk_sub (by omega)]
    obtain ⟨R4, u1, u2, u3⟩ := sl_give2 hw (v3S_SM s) t3 hc ex (by omega) (by rw [v3S_cgv, eg0]) (by rw [v3S_cgv, eg1]) (by omega) (by omega) (by omega)
    refine ⟨R4, u1, ?_, ?_⟩
    · rw [enV_gv]; exact u2
    · have := fin R4 ⟨_, rfl, u3⟩
      unfold PH v5S v4S at this
      rw [if_neg hc] at this
      exact this
