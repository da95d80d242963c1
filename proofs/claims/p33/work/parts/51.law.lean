/-! THE LAW'S ACTS: properties, settings, batteries -/
theorem act_96 {n : Nat} {P : PS} {R : VS} (h : RQ n (P, R)) {k x y : Nat} (hk : k < 4) (hx : x < hsz (P.1 0)) (hy : y ≤ hmax k) : ∃ S', f_L_set_96 (P, R) (nI k) (nI x) (nI y) = some (1, S') ∧ RQ (n + 1) S' := by
  have hv : VL (P.1 0) R := h.1
  have s : SM (P.1 0) := h.2.1
  have g : G (P.1 0) := h.2.2.1
  have gn : GN (1000 * n) (100 * n) (P.1 0) := h.2.2.2.1
  have ov : OffV (P.1 0) R := h.2.2.2.2.1
  have bal : BAL (P.1 0) := h.2.2.2.2.2.1
  have hi : HI P := h.2.2.2.2.2.2
  have h8 := s.1
  obtain ⟨P', k1, k2, k3⟩ := k_setHouse hi g.1 hx hk hy
  have hG := stH_G g gn (x := x) hk hy
  have er : lrw k = 1 := by unfold lrw; rw [if_pos (by omega)]
  have ep : lpl k x = 6 * x + k := by unfold lpl; rw [if_pos (by omega)]
  refine ⟨(P', wn R 1 (6 * x + k) (nI y)), ?_, RQ_of k3 (VL.put hv s er ep (Or.inl ⟨by omega, by omega⟩) (Or.inl (by omega))) (s.wk (Or.inl (by omega)) _) hG.1 (hG.2.mono (by omega) (by omega)) (ov.wn (fun f _ => pu_wn_k _ _ _ _ (by omega)) (pu_wn_k _ _ _ _ (by decide))) (BAL_same bal (fun j _ => pu_wn_k _ _ _ _ (by omega)) (fun j _ => pu_wn_k _ _ _ _ (by omega))) k2⟩
  have ex : (6 : Int32) * nI x + nI k = nI (6 * x + k) := by rw [show (6 : Int32) * nI x = nI (6 * x) from pk_mul 6 x, nI_add]
  show bnd (inb ((6 : Int32) * nI x + nI k) 48) (letv (rd R 1 ((6 : Int32) * nI x + nI k)) fun x_40 => bnd (inb ((6 : Int32) * nI x + nI k) 48) (letv (P, wr R 1 ((6 : Int32) * nI x + nI k) (nI y)) fun S_42 => bnd2 (f_X6_setHouse S_42.1 (nI x) (nI k) (nI y)) fun r_43 => letv (r_43.2, S_42.2) fun S_44 => if r_43.1 = x_40 then some (1, S_44) else some (0, S_44))) = _
  rw [ex, pu_inb (by omega) (by decide), pu_bnd, pu_let, pu_bnd, pu_let, pu_rd (by omega), pu_wr (by omega), rl_h hv (k := k) (by omega) hx rfl]
  show (bnd2 (f_X6_setHouse P (nI x) (nI k) (nI y)) fun r_43 => letv (r_43.2, wn R 1 (6 * x + k) (nI y)) fun S_44 => if r_43.1 = P.1 0 k x then some (1, S_44) else some (0, S_44)) = _
  rw [k1, pu_some, pu_let, if_pos rfl]
theorem act_186 {n : Nat} {P : PS} {R : VS} (h : RQ n (P, R)) {k B : Nat} (hk : k < 4) (hB : B ≤ smax k + 1) (hB0 : 0 < B) (y : Int32) : ∃ S', f_L_set_186 (P, R) (nI k) (P.1 0 17 k) (nI B) y (nI (4 + k)) = some (1, S') ∧ RQ (n + 1) S' := by
  have hv : VL (P.1 0) R := h.1
  have s : SM (P.1 0) := h.2.1
  have g : G (P.1 0) := h.2.2.1
  have gn : GN (1000 * n) (100 * n) (P.1 0) := h.2.2.2.1
  have ov : OffV (P.1 0) R := h.2.2.2.2.1
  have bal : BAL (P.1 0) := h.2.2.2.2.2.1
  have hi : HI P := h.2.2.2.2.2.2
  have hM : smax k ≤ 100 := by unfold smax; split <;> omega
  obtain ⟨d, hd, ed⟩ := at_ok y (n := B) hB0 (by omega)
  obtain ⟨P', k1, k2, k3⟩ := k_set hi (k := k) (y := d) hk (by omega)
  have hG := st_G g gn (k := k) (y := d) hk (by omega)
  refine ⟨(P', wn R 0 (4 + k) (nI d)), ?_, RQ_of k3 (VL.put hv s (r := 0) (p := 4 + k) rfl rfl (Or.inr (Or.inr (Or.inr (Or.inl ⟨rfl, hk⟩)))) (Or.inl (by decide))) (s.wk (Or.inl (by omega)) _) hG.1 (hG.2.mono (by omega) (by omega)) (ov.wn (fun f _ => pu_wn_k _ _ _ _ (by omega)) (pu_wn_j _ _ _ _ (by omega))) (BAL_same bal (fun j _ => pu_wn_k _ _ _ _ (by omega)) (fun j _ => pu_wn_k _ _ _ _ (by omega))) k2⟩
  show (bnd2 (f_L_at y (nI B)) fun r_6 => bnd (inb (nI (4 + k)) 20) (letv (P, wr R 0 (nI (4 + k)) r_6) fun S_8 => bnd (inb ((4 : Int32) + nI k) 20) (bnd2 (f_X6_set S_8.1 (nI k) (rd S_8.2 0 ((4 : Int32) + nI k))) fun r_10 => letv (r_10.2, S_8.2) fun S_11 => if r_10.1 = P.1 0 17 k then some (1, S_11) else some (0, S_11)))) = _
  rw [ed, pu_some, show (4 : Int32) + nI k = nI (4 + k) from nI_add 4 k, pu_inb (by omega) (by decide), pu_bnd, pu_let, pu_bnd, pu_wr (by omega)]
  show (bnd2 (f_X6_set P (nI k) (rd (wn R 0 (4 + k) (nI d)) 0 (nI (4 + k)))) fun r_10 => letv (r_10.2, wn R 0 (4 + k) (nI d)) fun S_11 => if r_10.1 = P.1 0 17 k then some (1, S_11) else some (0, S_11)) = _
  rw [pu_rd (by omega), pu_wn_s, k1, pu_some, pu_let, if_pos rfl]
theorem act_293 {n : Nat} {P : PS} {R : VS} (h : RQ n (P, R)) {b k y : Nat} (hb : b < 2) (hk : k < 3) (hy1 : blo k ≤ y) (hy2 : y ≤ bhi k) : ∃ S', f_L_set_293 (P, R) (nI b) (nI k) (nI (4 * b)) (P.1 0 (13 + k) b) (nI y) (nI (4 * b + k)) = some (1, S') ∧ RQ (n + 1) S' := by
  have hv : VL (P.1 0) R := h.1
  have s : SM (P.1 0) := h.2.1
  have g : G (P.1 0) := h.2.2.1
  have gn : GN (1000 * n) (100 * n) (P.1 0) := h.2.2.2.1
  have ov : OffV (P.1 0) R := h.2.2.2.2.1
  have bal : BAL (P.1 0) := h.2.2.2.2.2.1
  have hi : HI P := h.2.2.2.2.2.2
  obtain ⟨n1, n2, n3, n4⟩ := sb_nat g.2.2.2.1 hb hk hy1 hy2
  obtain ⟨P', k1, k2, k3⟩ := k_setBattery hi g.2.2.2.1 hb hk hy1 hy2
  have hG := sbV_G g gn hb hk hy1 hy2
  have er : lrw (13 + k) = 4 := by unfold lrw; rw [if_neg (by omega), if_neg (by omega), if_neg (by omega), if_pos (by omega)]
  have ep : lpl (13 + k) b = 4 * b + k := by
    unfold lpl
    rw [if_neg (by omega), if_neg (by omega), if_neg (by omega), if_neg (by omega), if_neg (by omega), if_pos (by omega)]
    omega
  have v1 := VL.put hv s (x := nI y) er ep (Or.inr (Or.inr (Or.inl ⟨by omega, by omega, hb⟩))) (Or.inl (by omega))
  have s1 : SM (wn (P.1 0) (13 + k) b (nI y)) := s.wk (Or.inl (by omega)) _
  have h16 : wn (P.1 0) (13 + k) b (nI y) 16 b = nI (sbQ (P.1 0) b) := by rw [pu_wn, if_neg (by omega)]; exact n3
  have e3 : wn R 4 (4 * b + k) (nI y) 4 (4 * b + 3) = nI (sbQ (P.1 0) b) := (rl_b v1 (k := 3) (by decide) hb rfl).trans h16
  have e0 : wn R 4 (4 * b + k) (nI y) 4 (4 * b) = nI (sbC (P.1 0) b k y) := (rl_b v1 (k := 0) (by decide) hb rfl).trans n4
  have e12 : wn R 4 (4 * b + k) (nI y) 0 12 = P.1 0 18 4 := (rl_18 v1 (j := 4) (by decide) rfl).trans (pu_wn_k _ _ _ _ (by omega))
  have sSM : SM (sbV (P.1 0) b k y) := s.congr fun j _ => sbV_k _ _ _ _ (by omega) (by omega) (by omega)
  have fin : ∀ R', VL (sbV (P.1 0) b k y) R' → R' 0 19 = R 0 19 → RQ (n + 1) (P', R') := fun R' q1 q2 => RQ_of k3 q1 sSM hG.1 (hG.2.mono (by omega) (by omega)) (ov.wn (fun f _ => sbV_k _ _ _ _ (by omega) (by omega) (by omega)) q2) (sbV_BAL bal g.2.2.2.1 hb hk hy1 hy2) k2
  have k341 : ∀ R', R' 4 (4 * b + k) = nI y → f_L_set_341 (P, R') (nI b) (nI k) (nI (4 * b)) (P.1 0 (13 + k) b) = some (1, (P', R')) := fun R' hR' => by
    show bnd (inb (nI (4 * b) + nI k) 8) (bnd2 (f_X6_setBattery P (nI b) (nI k) (rd R' 4 (nI (4 * b) + nI k))) fun r_23 => letv (r_23.2, R') fun S_24 => if r_23.1 = P.1 0 (13 + k) b then some (1, S_24) else some (0, S_24)) = _
    rw [nI_add, pu_inb (by omega) (by decide), pu_bnd, pu_rd (by omega), hR', k1, pu_some, pu_let, if_pos rfl]
  have hst : f_L_set_293 (P, R) (nI b) (nI k) (nI (4 * b)) (P.1 0 (13 + k) b) (nI y) (nI (4 * b + k)) = if nI (sbQ (P.1 0) b) ≤ nI (sbC (P.1 0) b k y) then f_L_set_341 (P, wn R 4 (4 * b + k) (nI y)) (nI b) (nI k) (nI (4 * b)) (P.1 0 (13 + k) b) else f_L_set_341 (P, wn (wn (wn R 4 (4 * b + k) (nI y)) 0 12 (P.1 0 18 4 + (nI (sbQ (P.1 0) b) - nI (sbC (P.1 0) b k y)))) 4 (4 * b + 3) (nI (sbC (P.1 0) b k y))) (nI b) (nI k) (nI (4 * b)) (P.1 0 (13 + k) b) := by
    have f0 : ∀ z, wn (wn R 4 (4 * b + k) (nI y)) 0 12 z 4 (4 * b) = nI (sbC (P.1 0) b k y) := fun z => by rw [pu_wn_k _ _ _ _ (by decide)]; exact e0
    unfold f_L_set_293
    show bnd (inb (nI (4 * b + k)) 8) (letv (P, wr R 4 (nI (4 * b + k)) (nI y)) fun S_19 => _) = _
    rw [show nI (4 * b) + (3 : Int32) = nI (4 * b + 3) from nI_add _ 3, pu_inb (by omega) (by decide), pu_inb (by omega) (by decide), pu_inb (by omega) (by decide), show inb (12 : Int32) 20 = true by decide, pu_bnd, pu_let, pu_bnd, pu_bnd, pu_wr (by omega)]
    dsimp only
    rw [pu_rd (by omega), pu_rd (by omega), e3, e0]
    by_cases c : nI (sbQ (P.1 0) b) ≤ nI (sbC (P.1 0) b k y)
    · rw [if_pos c, if_pos c]
    · rw [if_neg c, if_neg c, pu_bnd, pu_bnd, pu_bnd, pu_bnd, pu_let, pu_bnd, pu_bnd, pu_let]
      dsimp only
      rw [show rd (wn R 4 (4 * b + k) (nI y)) 0 (12 : Int32) = P.1 0 18 4 from (pu_rd (i := 12) (by decide)).trans e12, show ∀ Q z, wr Q 0 (12 : Int32) z = wn Q 0 12 z from fun Q z => pu_wr (i := 12) (by decide), pu_rd (by omega), f0, pu_wr (by omega)]
  rw [hst]
  by_cases hqc : sbQ (P.1 0) b ≤ sbC (P.1 0) b k y
  · rw [if_pos (nI_le hqc (by omega)), k341 _ (pu_wn_s _ _ _ _)]
    refine ⟨_, rfl, fin _ ?_ (pu_wn_k _ _ _ _ (by decide))⟩
    refine VL.to v1 ?_ ?_ (fun k' j _ => ?_)
    · rw [sbV_k _ _ _ _ (by omega) (by omega) (by omega), pu_wn_k _ _ _ _ (by omega)]
    · rw [sbV_k _ _ _ _ (by omega) (by omega) (by omega), pu_wn_k _ _ _ _ (by omega)]
    · unfold sbV
      rw [show sbQ (P.1 0) b - sbC (P.1 0) b k y = 0 by omega, Nat.sub_zero, nI_0, Int32.add_zero, pu_wn]
      by_cases z : k' = 18 ∧ j = 4
      · rw [if_pos z, z.1, z.2, pu_wn_k _ _ _ _ (by omega)]
      · rw [if_neg z, pu_wn]
        by_cases z2 : k' = 16 ∧ j = b
        · rw [if_pos z2, z2.1, z2.2, h16]
        · rw [if_neg z2]
  · rw [if_neg (nI_ge (by omega) (by omega)), k341 _ (by rw [pu_wn_j _ _ _ _ (by omega), pu_wn_k _ _ _ _ (by decide), pu_wn_s])]
    refine ⟨_, rfl, fin _ ?_ (by rw [pu_wn_k _ _ _ _ (by decide), pu_wn_j _ _ _ _ (by decide), pu_wn_k _ _ _ _ (by decide)])⟩
    have v2 := VL.put v1 s1 (k := 18) (j := 4) (r := 0) (p := 12) (x := P.1 0 18 4 + nI (sbQ (P.1 0) b - sbC (P.1 0) b k y)) rfl rfl (inL18 (by decide)) (Or.inl (by decide))
    have s2 := s1.wk (k := 18) (j := 4) (Or.inl (by decide)) (P.1 0 18 4 + nI (sbQ (P.1 0) b - sbC (P.1 0) b k y))
    have v3 := VL.put v2 s2 (k := 16) (j := b) (r := 4) (p := 4 * b + 3) (x := nI (sbC (P.1 0) b k y)) rfl rfl (inL16 hb) (Or.inl (by decide))
    rw [pk_sub (by omega)]
    unfold sbV
    rw [show sbQ (P.1 0) b - (sbQ (P.1 0) b - sbC (P.1 0) b k y) = sbC (P.1 0) b k y by omega, wn_comm _ _ _ (by omega)]
    exact v3
theorem act_145 {n : Nat} {P : PS} {R : VS} (h : RQ n (P, R)) (x y x6 : Int32) : ∃ S', f_L_set_145 (P, R) x y x6 = some (1, S') ∧ RQ (n + 1) S' := by
  have hv : VL (P.1 0) R := h.1
  unfold f_L_set_145
  by_cases c : x6 = 1
  · rw [if_pos c]
    obtain ⟨k, hk, ek⟩ := at_ok (x >>> ((3 : Int32) &&& 31)) (n := 4) (by decide) (by decide)
    rw [show f_L_at (x >>> ((3 : Int32) &&& 31)) 4 = some (nI k) from ek, pu_some, show (4 : Int32) + nI k = nI (4 + k) from nI_add 4 k, pu_inb (by omega) (by decide), pu_bnd, pu_let, pu_rd (by omega), show (P, R).2 0 (4 + k) = P.1 0 17 k from rl_17 hv hk rfl]
    by_cases c0 : nI k = 0
    · rw [if_pos c0]
      have : k = 0 := nI_inj0 (b := 0) (by omega) (by decide) c0
      subst this
      exact act_186 h (k := 0) (B := 51) hk (by decide) (by decide) y
    · rw [if_neg c0]
      refine act_186 h (k := k) (B := 101) hk ?_ (by decide) y
      unfold smax
      rw [if_neg (fun z => c0 (by rw [z]; rfl))]
      decide
  · rw [if_neg c]
    obtain ⟨b, hb, eb⟩ := at_ok (x >>> ((3 : Int32) &&& 31)) (n := 2) (by decide) (by decide)
    obtain ⟨k, hk, ek⟩ := at_ok (x >>> ((4 : Int32) &&& 31)) (n := 3) (by decide) (by decide)
    have er : R 4 (4 * b + k) = P.1 0 (13 + k) b := rl_b hv (by omega) hb rfl
    rw [show f_L_at (x >>> ((3 : Int32) &&& 31)) 2 = some (nI b) from eb, pu_some, show f_L_at (x >>> ((4 : Int32) &&& 31)) 3 = some (nI k) from ek, pu_some, pu_let, show (4 : Int32) * nI b = nI (4 * b) from pk_mul 4 b, nI_add, pu_inb (by omega) (by decide), pu_bnd, pu_let, pu_rd (by omega), show (P, R).2 4 (4 * b + k) = P.1 0 (13 + k) b from er]
    by_cases c0 : k = 0
    · subst c0
      obtain ⟨d, hd, ed⟩ := at_ok y (n := 200) (by decide) (by decide)
      rw [if_pos (show nI 0 = (0 : Int32) from rfl), show f_L_at y 200 = some (nI d) from ed, pu_some]
      exact act_293 h (k := 0) hb (by decide) (Nat.zero_le _) (show d ≤ 500 by omega)
    · rw [if_neg (nI_ne0 (by omega) (by omega))]
      by_cases c1 : k = 1
      · subst c1
        obtain ⟨d, hd, ed⟩ := at_ok y (n := 60) (by decide) (by decide)
        rw [if_pos (show nI 1 = (1 : Int32) from rfl), show f_L_at y 60 = some (nI d) from ed, pu_some]
        exact act_293 h (k := 1) hb (by decide) (Nat.zero_le _) (show d ≤ 100 by omega)
      · obtain rfl : k = 2 := by omega
        obtain ⟨d, hd, ed⟩ := at_ok y (n := 51) (by decide) (by decide)
        rw [if_neg (show ¬ nI 2 = (1 : Int32) by decide), show f_L_at y 51 = some (nI d) from ed, pu_some, show (50 : Int32) + nI d = nI (50 + d) from nI_add 50 d]
        exact act_293 h (k := 2) hb (by decide) (show 50 ≤ 50 + d by omega) (show 50 + d ≤ 100 by omega)
theorem act_set {n : Nat} {S : LQ} (h : RQ n S) (x y : Int32) : ∃ S', f_L_set S x y = some (1, S') ∧ RQ (n + 1) S' := by
  obtain ⟨P, R⟩ := S
  have hv : VL (P.1 0) R := h.1
  have s : SM (P.1 0) := h.2.1
  have g : G (P.1 0) := h.2.2.1
  have h8 := s.1
  have r0 : rd R 0 (0 : Int32) = nI (hsz (P.1 0)) := (pu_rd (i := 0) (by decide)).trans (rl_0 hv g.1)
  have i0 : inb (0 : Int32) 20 = true := by decide
  obtain ⟨t, ht, et⟩ := at_ok x (n := 3) (by decide) (by decide)
  unfold f_L_set
  rw [show f_L_at x 3 = some (nI t) from et, pu_some, i0, pu_bnd, show rd (P, R).2 0 (0 : Int32) = nI (hsz (P.1 0)) from r0]
  by_cases c : nI t = 0
  · rw [if_pos c]
    by_cases c0 : nI (hsz (P.1 0)) ≤ 0
    · rw [if_pos c0]
      exact act_145 h x y _
    · rw [if_neg c0]
      have hpos : 0 < hsz (P.1 0) := by
        rcases Nat.eq_zero_or_pos (hsz (P.1 0)) with z | z
        · exact absurd (by rw [z]; decide) c0
        · exact z
      obtain ⟨k, hk, ek⟩ := at_ok (x >>> ((3 : Int32) &&& 31)) (n := 4) (by decide) (by decide)
      obtain ⟨j, hj, ej⟩ := at_ok (x >>> ((6 : Int32) &&& 31)) (n := hsz (P.1 0)) hpos (by omega)
      rw [show f_L_at (x >>> ((3 : Int32) &&& 31)) 4 = some (nI k) from ek, pu_some, pu_bnd, ej, pu_some]
      by_cases k0 : k = 0
      · subst k0
        obtain ⟨d, hd, ed⟩ := at_ok y (n := 3) (by decide) (by decide)
        rw [if_pos (show nI 0 = (0 : Int32) from rfl), show f_L_at y 3 = some (nI d) from ed, pu_some]
        exact act_96 h (k := 0) (by decide) hj (show d ≤ 2 by omega)
      · rw [if_neg (nI_ne0 (by omega) (by omega))]
        by_cases k1 : k = 1
        · subst k1
          obtain ⟨d, hd, ed⟩ := at_ok y (n := 30) (by decide) (by decide)
          rw [if_pos (show nI 1 = (1 : Int32) from rfl), show f_L_at y 30 = some (nI d) from ed, pu_some]
          exact act_96 h (k := 1) (by decide) hj (show d ≤ 50 by omega)
        · rw [if_neg (fun z : nI k = 1 => k1 (nI_inj0 (b := 1) (by omega) (by decide) z))]
          by_cases k2 : k = 2
          · subst k2
            obtain ⟨d, hd, ed⟩ := at_ok y (n := 400) (by decide) (by decide)
            rw [if_pos (show nI 2 = (2 : Int32) from rfl), show f_L_at y 400 = some (nI d) from ed, pu_some]
            exact act_96 h (k := 2) (by decide) hj (show d ≤ 1000 by omega)
          · obtain rfl : k = 3 := by omega
            obtain ⟨d, hd, ed⟩ := at_ok y (n := 3) (by decide) (by decide)
            rw [if_neg (show ¬ nI 3 = (2 : Int32) by decide), show f_L_at y 3 = some (nI d) from ed, pu_some]
            by_cases cd : nI d = 0
            · rw [if_pos cd]
              exact act_96 h (k := 3) (y := 0) (by decide) hj (by decide)
            · rw [if_neg cd]
              exact act_96 h (k := 3) (y := 1) (by decide) hj (by decide)
  · rw [if_neg c]
    exact act_145 h x y _
