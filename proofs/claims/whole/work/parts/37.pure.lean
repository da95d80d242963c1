/-! bounds are kept by an hour -/
theorem v5S_same (v : VS) {k j : Nat} (h : k ≠ 16 ∧ k ≠ 18) : v5S v k j = v3S v k j := by
  have e4 : v4S v k j = v3S v k j := by
    unfold v4S
    rw [pu_wn_k _ _ _ _ h.2, pu_wn_k _ _ _ _ h.2]
  unfold v5S
  split
  · rw [stS_same (by omega), e4]
  · rw [gvS_same (by omega), e4]
theorem PH_v3 (v : VS) {k j : Nat} (h : k ≠ 16 ∧ k ≠ 18 ∧ ¬ (k = 22 ∧ j = 3)) : PH v k j = v3S v k j := by
  unfold PH
  rw [pu_wn, if_neg h.2.2, v5S_same v ⟨h.1, h.2.1⟩]
theorem v3S_same (v : VS) {k j : Nat} (h : k ≠ 5 ∧ k ≠ 7 ∧ k ≠ 4 ∧ k ≠ 6) : v3S v k j = v2S v k j := by
  unfold v3S
  exact SV_same (Or.inr h)
theorem PH_same (v : VS) {k j : Nat} (h : k < 4 ∨ (10 ≤ k ∧ k < 16) ∨ k = 17 ∨ k = 21 ∨ (k = 22 ∧ j < 3)) : PH v k j = v k j := by
  rw [PH_v3 v (by omega), v3S_same v (by omega), v2S_same v (by omega)]
theorem v2S_4 (v : VS) {k j : Nat} (h : k = 4 ∨ k = 1) : v2S v k j = v k j := v2S_same v (by omega)
theorem v2S_9 (v : VS) {j : Nat} (hj : j < hsz v) : v2S v 9 j = cdr (v 4 j) (v 1 j) (v 3 j) (v 17 0) ∨ v2S v 9 j = 0 := by
  have e1 : rs0 (v1S v) 9 j = cdr (v 4 j) (v 1 j) (v 3 j) (v 17 0) := by
    rw [rs0_same _ (by decide)]
    unfold v1S wS
    rw [if_pos ⟨Or.inr rfl, hj⟩]
  have s2 : ∀ w : VS, (w 9 j = cdr (v 4 j) (v 1 j) (v 3 j) (v 17 0) ∨ w 9 j = 0) → (shS w 9 j = cdr (v 4 j) (v 1 j) (v 3 j) (v 17 0) ∨ shS w 9 j = 0) := fun w hw => by
    rcases shS9 w j with e | e
    · rw [e]; exact hw
    · exact Or.inr e
  unfold v2S sh2
  split
  · exact Or.inl e1
  · split
    · exact s2 _ (Or.inl e1)
    · exact s2 _ (s2 _ (Or.inl e1))
theorem v2S_19 {v : VS} (g : GA v) : v2S v 19 0 = v 19 0 := by
  have s : ∀ w : VS, GA w → shS w 19 0 = w 19 0 := fun w gw => by
    have := trn_of gw
    unfold shS shW
    rw [pu_wn_k _ _ _ _ (by decide)]
    split
    · rfl
    · rw [pu_wn_j _ _ _ _ (by omega), pu_wn_k _ _ _ _ (by decide)]
      unfold nS
      rw [if_neg (by omega)]
  have e0 : rs0 (v1S v) 19 0 = v 19 0 := by rw [rs0_same _ (by decide), v1S_same _ (by decide)]
  have g0 := rs0_GA (v1S_GA g)
  unfold v2S sh2
  split
  · exact e0
  · split
    · rw [s _ g0, e0]
    · rw [s _ (shS_GA g0), s _ g0, e0]
theorem v2S_20 (v : VS) {f : Nat} (hf : f < 3) : ∃ x, x < 2 ∧ v2S v 20 f = nI x := by
  have s : ∀ w : VS, (∃ x, x < 2 ∧ w 20 f = nI x) → ∃ x, x < 2 ∧ shS w 20 f = nI x := fun w hw => by
    unfold shS shW
    rw [pu_wn_k _ _ _ _ (by decide)]
    split
    · exact hw
    · rw [pu_wn_k _ _ _ _ (by decide), pu_wn]
      split
      · exact ⟨1, by decide, rfl⟩
      · unfold nS
        rw [if_neg (by omega)]
        exact hw
  have e0 : ∃ x, x < 2 ∧ rs0 (v1S v) 20 f = nI x := by
    refine ⟨0, by decide, ?_⟩
    unfold rs0
    simp only [pu_wn]
    have : f = 0 ∨ f = 1 ∨ f = 2 := by omega
    rcases this with e | e | e <;> subst e <;> simp <;> rfl
  unfold v2S sh2
  split
  · exact e0
  · split
    · exact s _ e0
    · exact s _ (s _ e0)
def GN (c t : Nat) (v : VS) : Prop := (∀ h, h < hsz v → (v 4 h).toInt ≤ c) ∧ hrz v ≤ t
theorem PH_hsz (v : VS) : hsz (PH v) = hsz v := hsz_congr (PH_same v (by omega))
theorem PH_223 {v : VS} (g : GA v) : PH v 22 3 = nI (hrz v + 1) := by
  unfold PH
  rw [pu_wn_s, v5S_same v (by decide), v3S_same v (by decide), v2S_same v (by decide), g.2.2.2.2.2.2.2.1, nI_1]
theorem PH_G {v : VS} (G0 : G v) {c t : Nat} (gn : GN c t v) (ht : t < 2 ^ 29) : G (PH v) ∧ GN c (t + 1) (PH v) := by
  obtain ⟨g, gh, gl, gb, gs, gt, gq⟩ := G0
  obtain ⟨s, A, hs, hsA, hA, es, eA⟩ := avl_nat g gb gq
  obtain ⟨a', ha', ea', gb9⟩ := svAll_nat (v2S_GW g gh) (a := A) (by omega)
  have edl : dlv v = nI (A - a') := by
    unfold dlv
    rw [eA, ea', pk_sub ha']
  have hn := gn.2
  have g' : GA (PH v) := g.congr (fun j hj => PH_same v (by omega)) ⟨hrz v + 1, by omega, PH_223 g⟩ (by
    rw [PH_v3 v (by omega), v3S_same v (by omega)]
    exact (v2S_GA g).2.2.2.2.2.2.2.2.2)
  have hz : hrz (PH v) = hrz v + 1 := by
    unfold hrz
    rw [PH_223 g, nI_clamp (by omega)]
    rfl
  have hls : lsz (PH v) = lsz v := by unfold lsz; rw [PH_same v (by omega)]
  have hqs : qsz (PH v) = qsz v := by unfold qsz; rw [PH_same v (by omega)]
  have h5 : ∀ j, j < hsz v → PH v 5 j = (svAll (v2S v) (avl v)).2 j ∧ PH v 4 j = v 4 j - (svAll (v2S v) (avl v)).2 j := fun j hj => by
    rw [PH_v3 v (by omega), PH_v3 v (by omega)]
    unfold v3S SV
    rw [if_pos (decide_eq_true (by rw [v2S_hsz]; exact hj)), if_pos (decide_eq_true (by rw [v2S_hsz]; exact hj)), if_pos rfl, if_neg (by decide), if_neg (by decide), if_pos rfl, v2S_4 v (Or.inl rfl)]
    exact ⟨rfl, rfl⟩
  have hgot : ∀ j, j < hsz v → ∃ p, p ≤ 50 ∧ PH v 5 j = nI p ∧ PH v 4 j = v 4 j - nI p ∧ (p = 0 ∨ (p : Int) ≤ (v 4 j + v 17 0).toInt) := fun j hj => by
    obtain ⟨p, u, q1, q2, q3, q4⟩ := gb9 j (by rw [v2S_hsz]; exact hj)
    obtain ⟨_, ⟨d, hd, ed⟩, _⟩ := gh j hj
    rw [← eA] at q3
    refine ⟨p, by omega, by rw [(h5 j hj).1, q3], by rw [(h5 j hj).2, q3], ?_⟩
    rcases v2S_9 v hj with e | e
    · obtain ⟨w, w1, w2, w3⟩ := cdr_nat (cr := v 4 j) (cn := v 3 j) (od := v 17 0) hd
      rw [ed, w2, q4] at e
      have := (nI_eq (by omega) (by omega)).mp e
      omega
    · rw [q4] at e
      have := (nI_eq (a := u) (b := 0) (by omega) (by omega)).mp e
      omega
  obtain ⟨⟨od, hod, eod⟩, _⟩ := gs
  refine ⟨⟨g', ?_, ?_, ?_, ?_, ?_, ?_⟩, ?_, ?_⟩
  · intro j hj
    rw [PH_hsz] at hj
    obtain ⟨k1, k2, k3, k4, _, k6⟩ := gh j hj
    obtain ⟨p, p1, p2, p3, p4⟩ := hgot j hj
    rw [PH_same v (k := 0) (by omega), PH_same v (k := 1) (by omega), PH_same v (k := 2) (by omega), PH_same v (k := 3) (by omega)]
    refine ⟨k1, k2, k3, k4, ⟨p, p1, p2⟩, ?_⟩
    rw [p3]
    rcases p4 with e | e
    · rw [e, nI_0, Int32.sub_zero]; exact k6
    · have hod' : (nI od).toInt = od := nI_toInt (by omega)
      have hp' : (nI p).toInt = p := nI_toInt (by omega)
      have u1 := Int32.toInt_lt (v 4 j)
      rw [eod, Int32.toInt_add, hod'] at e
      rw [Int32.toInt_sub, hp']
      have b1 : ((v 4 j).toInt - (p : Int)).bmod (2 ^ 32) = (v 4 j).toInt - p := Int.bmod_eq_of_le (by omega) (by omega)
      rw [b1]
      by_cases hbig : (v 4 j).toInt + (od : Int) < 2 ^ 31
      · have b2 : ((v 4 j).toInt + (od : Int)).bmod (2 ^ 32) = (v 4 j).toInt + od := Int.bmod_eq_of_le (by omega) (by omega)
        rw [b2] at e
        omega
      · omega
  · intro k hk
    rw [hls] at hk
    rw [PH_hsz, PH_same v (k := 10) (by omega), PH_same v (k := 11) (by omega), PH_same v (k := 12) (by omega)]
    exact gl k hk
  · have gb4 : GB (v4S v) := fun b hb => by
      obtain ⟨c, r, e, q, l1, l2, l3, l4, l5, m1, m2, m3, m4⟩ := gb b hb
      refine ⟨c, r, e, q, l1, l2, l3, l4, l5, ?_, ?_, ?_, ?_⟩ <;>
      (unfold v4S; rw [pu_wn_k _ _ _ _ (by decide), pu_wn_k _ _ _ _ (by decide), v3S_same v (by omega), v2S_same v (by omega)]; assumption)
    have gb5 : GB (v5S v) := by
      unfold v5S
      split
      · rename_i hc
        have hle : A - a' ≤ s := by rw [edl, es] at hc; exact (nI_leI (by omega) (by omega)).mp hc
        rw [show sup v (hrz v) - dlv v = nI (s - (A - a')) by rw [edl, es, pk_sub hle]]
        have k0 := tk0_nat gb4 (by decide : 0 < 2) (x := s - (A - a')) (by omega)
        have gp0 := stP_GB gb4 (by decide : 0 < 2) (x := s - (A - a')) (by omega)
        have gp1 := stP_GB gp0 (by decide : 1 < 2) (x := s - (A - a') - tkN (v4S v) 0 (s - (A - a'))) (by omega)
        intro b hb
        obtain ⟨c, r, e, q, l1, l2, l3, l4, l5, m1, m2, m3, m4⟩ := gp1 b hb
        unfold stS
        rw [k0.1, pk_sub k0.2.1]
        refine ⟨c, r, e, q, l1, l2, l3, l4, l5, ?_, ?_, ?_, ?_⟩ <;> (rw [pu_wn_k _ _ _ _ (by decide)]; assumption)
      · rename_i hc
        have hgt : s ≤ A - a' := by
          rw [edl, es] at hc
          have : ¬ A - a' ≤ s := fun z => hc ((nI_leI (a := A - a') (b := s) (by omega) (by omega)).mpr z)
          omega
        rw [show dlv v - sup v (hrz v) = nI (A - a' - s) by rw [edl, es, pk_sub hgt]]
        obtain ⟨c, r, e, q, l1, l2, l3, l4, l5, m1, m2, m3, m4⟩ := gb4 0 (by decide)
        obtain ⟨c', r', e', q', n1, n2, n3, n4, n5, o1, o2, o3, o4⟩ := gb4 1 (by decide)
        have ec0 : cgv (v4S v) 0 = nI (min q r) := by unfold cgv; rw [m2, m4, jmin_nI (by omega) (by omega)]
        have ec1 : cgv (v4S v) 1 = nI (min q' r') := by unfold cgv; rw [o2, o4, jmin_nI (by omega) (by omega)]
        unfold gvS
        rw [ec0, ec1, jmin_nI (by omega) (by omega), pk_sub (by omega), jmin_nI (by omega) (by omega), m4, o4, pk_sub (by omega), pk_sub (by omega)]
        intro b hb
        have hb2 : b = 0 ∨ b = 1 := by omega
        rcases hb2 with hb2 | hb2 <;> subst hb2
        · refine ⟨c, r, e, q - min (A - a' - s) (min q r), l1, l2, l3, l4, by omega, ?_, ?_, ?_, ?_⟩
          · rw [pu_wn_k _ _ _ _ (by decide), pu_wn_k _ _ _ _ (by decide)]; exact m1
          · rw [pu_wn_k _ _ _ _ (by decide), pu_wn_k _ _ _ _ (by decide)]; exact m2
          · rw [pu_wn_k _ _ _ _ (by decide), pu_wn_k _ _ _ _ (by decide)]; exact m3
          · rw [pu_wn_j _ _ _ _ (by decide), pu_wn_s]
        · refine ⟨c', r', e', q' - min (A - a' - s - min (A - a' - s) (min q r)) (min q' r'), n1, n2, n3, n4, by omega, ?_, ?_, ?_, ?_⟩
          · rw [pu_wn_k _ _ _ _ (by decide), pu_wn_k _ _ _ _ (by decide)]; exact o1
          · rw [pu_wn_k _ _ _ _ (by decide), pu_wn_k _ _ _ _ (by decide)]; exact o2
          · rw [pu_wn_k _ _ _ _ (by decide), pu_wn_k _ _ _ _ (by decide)]; exact o3
          · rw [pu_wn_s]
    intro b hb
    obtain ⟨c, r, e, q, l1, l2, l3, l4, l5, m1, m2, m3, m4⟩ := gb5 b hb
    refine ⟨c, r, e, q, l1, l2, l3, l4, l5, ?_, ?_, ?_, ?_⟩ <;>
    (unfold PH; rw [pu_wn_k _ _ _ _ (by decide)]; assumption)
  · rename_i gs2
    exact ⟨⟨od, hod, by rw [PH_same v (by omega)]; exact eod⟩, fun k hk => by rw [PH_same v (by omega)]; exact gs2 k hk⟩
  · refine ⟨?_, fun f hf => ?_⟩
    · rw [PH_v3 v (by omega), v3S_same v (by omega), v2S_19 g]; exact gt.1
    · rw [PH_v3 v (by omega), v3S_same v (by omega)]; exact v2S_20 v hf
  · intro k hk
    rw [hqs] at hk
    rw [PH_same v (by omega)]
    exact gq k hk
  · intro j hj
    rw [PH_hsz] at hj
    obtain ⟨p, p1, p2, p3, p4⟩ := hgot j hj
    have := gn.1 j hj
    obtain ⟨_, _, _, _, _, k6⟩ := gh j hj
    have hp' : (nI p).toInt = p := nI_toInt (by omega)
    have u1 := Int32.toInt_lt (v 4 j)
    have b1 : ((v 4 j).toInt - (p : Int)).bmod (2 ^ 32) = (v 4 j).toInt - p := Int.bmod_eq_of_le (by omega) (by omega)
    rw [p3, Int32.toInt_sub, hp', b1]
    omega
  · rw [hz]; omega
