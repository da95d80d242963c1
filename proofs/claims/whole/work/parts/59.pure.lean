/-! a token: the reference -/
theorem LC_RV {v : VS} {R : RS} (h : RV v R) {l : List (Int32 × Int32 × Int32)} (hl : Lst v l) (hlen : l.length = lsz v) : ∀ j, j < l.length → l[j]? = some (LC R j) := fun j hj => by
  rw [hl.2 j hj]
  unfold LC
  rw [rz_l h (k := 10) (j := j) (by decide) (by omega) (by omega), rz_l h (k := 11) (j := j) (by decide) (by omega) (by omega), rz_l h (k := 12) (j := j) (by decide) (by omega) (by omega)]
theorem sr_token {v : VS} {R : RS} (h : RV v R) (g : G v) {c t p x : Nat} (gn : GN c t v) (hp : p < hsz v) (hc : c ≤ 600000) (hx : x ≤ 500) : ∃ R', f_X7_token R (nI p) (nI x) = some R' ∧ RV (TK v p x) R' ∧ Fr R R' := by
  have h10 := g.1.2.1
  have h12 := g.1.2.2.2.1
  have epd := pd_le g p x
  have epl := pl_le g p x
  obtain ⟨o1, o2⟩ := ow_nI g p
  obtain ⟨d, hd, ed⟩ := (g.2.1 p hp).2.2.1
  obtain ⟨s1, hs1, es1⟩ := g.2.2.2.2.1.2 1 (by decide)
  obtain ⟨s2, hs2, es2⟩ := g.2.2.2.2.1.2 2 (by decide)
  have hm1 : x * s1 ≤ 500 * 100 := Nat.mul_le_mul hx hs1
  have hq1 : x * s1 / 100 ≤ x := pct_le hs1
  have hm2 : (x - pdN v p x) * s2 ≤ 500 * 100 := Nat.mul_le_mul (by omega) hs2
  have hq2 : (x - pdN v p x) * s2 / 100 ≤ x - pdN v p x := pct_le hs2
  have hdv1 : nI (x * s1) / nI 100 = nI (x * s1 / 100) := pk_div (by omega) (by decide) (by decide)
  have hdv2 : nI ((x - pdN v p x) * s2) / nI 100 = nI ((x - pdN v p x) * s2 / 100) := pk_div (by omega) (by decide) (by decide)
  have eD : pdN v p x = min d (x * s1 / 100) := by unfold pdN; rw [ed, es1, nI_clamp (by omega), nI_clamp (by omega)]
  have eP : plN v p x = min (owN v p) ((x - pdN v p x) * s2 / 100) := by unfold plN; rw [es2, nI_clamp (by omega)]
  have a1 : f_X7_token R (nI p) (nI x) = f_X7_token_31 R (nI p) (nI x) (nI (pdN v p x)) := by
    unfold f_X7_token
    rw [show (1 : Int32) = nI 1 from rfl, sr_setting1 h (by decide : 1 < 4), pu_some, es1, pu_let, pk_mul, i100, hdv1, show (2 : Int32) = nI 2 from rfl, sr_of h g.1 (by decide : 2 < 8) hp, pu_some, ed, eD]
    by_cases cc : d ≤ x * s1 / 100
    · rw [if_pos ((nI_leI (by omega) (by omega)).mpr cc), pu_some, Nat.min_eq_left cc]
    · rw [if_neg (fun z => cc ((nI_leI (by omega) (by omega)).mp z)), Nat.min_eq_right (by omega)]
  have g0 : GA (tk0V v p x) := g.1.congr' fun j => pu_wn_k _ _ _ _ (by decide)
  have h0 : RV (tk0V v p x) (wz R (8 * p + 2) (v 2 p - nI (pdN v p x))) := RV.wz h g.1 (k := 2) (j := p) (by unfold zi; simp) (by unfold inR; omega) (Or.inl (by decide))
  have l0 : lsz (tk0V v p x) = lsz v := by unfold lsz tk0V; rw [pu_wn_k _ _ _ _ (by decide)]
  have hh0 : hsz (tk0V v p x) = hsz v := hsz_congr (pu_wn_k _ _ _ _ (by decide))
  have eow : smF (owF (tk0V v p x) (10 + 1) (nI p)) 0 (lsz (tk0V v p x)) 0 = nI (owN v p) := by
    rw [l0, ← o1]
    refine smF_congr _ _ _ (fun j _ _ => ?_)
    unfold owF tk0V
    rw [pu_wn_k _ _ _ _ (by decide), pu_wn_k _ _ _ _ (by decide)]
  have a2 : f_X7_token_31 R (nI p) (nI x) (nI (pdN v p x)) = f_X7_token_92 (nI p) (nI x) (nI (pdN v p x)) (nI (x - pdN v p x)) (nI (plN v p x)) fuel (nI (plN v p x)) (nI 0) (wz R (8 * p + 2) (v 2 p - nI (pdN v p x))) := by
    unfold f_X7_token_31
    rw [show (2 : Int32) = nI 2 from rfl, sr_add h g.1 (by decide : 2 < 8) hp, ← Int32.sub_eq_add_neg, pu_some, pk_sub epd, pu_let, show (1 : Int32) = nI 1 from rfl, sr_owed h0 g0 (by decide : 1 < 2), pu_some, eow, sr_setting1 h0 (by decide : 2 < 4), pu_some, show tk0V v p x 17 2 = nI s2 by unfold tk0V; rw [pu_wn_k _ _ _ _ (by decide)]; exact es2, pk_mul, i100, hdv2, pu_let, eP]
    unfold f_X7_token_83
    by_cases cc : owN v p ≤ (x - pdN v p x) * s2 / 100
    · rw [if_pos ((nI_leI (by omega) (by omega)).mpr cc), Nat.min_eq_left cc]
      rfl
    · rw [if_neg (fun z => cc ((nI_leI (by omega) (by omega)).mp z)), Nat.min_eq_right (by omega)]
      rfl
  obtain ⟨n', r', Q', e1, e2, e3⟩ := sr_pay (L := lsz v) (m := hsz v) (nI p) (nI x) (nI (pdN v p x)) (nI (x - pdN v p x)) (nI (plN v p x)) (lsz v) 0 fuel (nI (plN v p x)) (tk0V v p x) _ (by omega) (fuel_gt (by omega)) l0 hh0 g0 (fun j hj => by
    obtain ⟨a, b, o, q1, _, _, _, _, q6, _⟩ := g.2.2.1 j hj
    exact ⟨a, q1, by unfold tk0V; rw [pu_wn_k _ _ _ _ (by decide)]; exact q6⟩) h0
  have e2' : RV (tkB v p x) Q' := e2
  obtain ⟨gr, _, hs, l, l1, l2, l3⟩ := tkR g gn hp hc hx
  have hlB : lsz (tkB v p x) = lsz v := by unfold lsz; rw [tkB_k v p x (Or.inl (by decide)) (by decide) (by decide)]
  have z3 := rz_173 e2' (tkB_GA g.1 p x)
  obtain ⟨R2, d1, d2, d3, d4, d5⟩ := sr_dropPaid (R := Q') (l := l) (by omega) (by rw [z3, hlB, l2]) (LC_RV e2' l1 (by omega))
  have hle : (l.filter pd).length ≤ 12 := Nat.le_trans (List.length_filter_le _ _) (by omega)
  have h2 : RV (rpV (tkB v p x)) R2 := Lst_RV e2' (tkB_GA g.1 p x) hs l3 hle d2 d3 d4
  have hhr : hsz (rpV (tkB v p x)) = hsz v := hsz_congr (tkR_22 hs (by decide) (by decide) (Or.inl (by decide)) (by decide))
  have s4 := sr_add h2 gr.1 (k := 4) (j := p) (by decide) (by omega) (nI (x - pdN v p x - plN v p x))
  have h3 := RV.wz h2 gr.1 (k := 4) (j := p) (i := 8 * p + 4) (x := rpV (tkB v p x) 4 p + nI (x - pdN v p x - plN v p x)) (by unfold zi; simp) (by unfold inR; omega) (Or.inl (by decide))
  have g3 : GA (wn (rpV (tkB v p x)) 4 p (rpV (tkB v p x) 4 p + nI (x - pdN v p x - plN v p x))) := gr.1.congr' fun j => pu_wn_k _ _ _ _ (by decide)
  have z6 := rz_18 h3 (j := 6) (i := 187) (by decide) rfl
  have h4 := RV.wz h3 g3 (k := 18) (j := 6) (i := 187) (x := rpV (tkB v p x) 18 6 + nI x) rfl (by unfold inR; omega) (Or.inl (by decide))
  have g4 : GA (wn (wn (rpV (tkB v p x)) 4 p (rpV (tkB v p x) 4 p + nI (x - pdN v p x - plN v p x))) 18 6 (rpV (tkB v p x) 18 6 + nI x)) := g3.congr' fun j => pu_wn_k _ _ _ _ (by decide)
  have z7 := rz_18 h4 (j := 7) (i := 188) (by decide) rfl
  have h5 := RV.wz h4 g4 (k := 18) (j := 7) (i := 188) (x := rpV (tkB v p x) 18 7 + nI (pdN v p x)) rfl (by unfold inR; omega) (Or.inl (by decide))
  rw [pu_wn_k _ _ _ _ (by decide)] at z6
  rw [pu_wn_j _ _ _ _ (by decide), pu_wn_k _ _ _ _ (by decide)] at z7
  refine ⟨_, ?_, h5, (((((wz_Fr _ _ _).trans e3).trans d5).trans (wz_Fr _ _ _)).trans (wz_Fr _ _ _)).trans (wz_Fr _ _ _)⟩
  rw [a1, a2, e1]
  have en : f_X7_token_92 (nI p) (nI x) (nI (pdN v p x)) (nI (x - pdN v p x)) (nI (plN v p x)) (n' + 1) r' (nI (lsz v)) Q' = bnd2 (f_X7_dropPaid Q') fun r_11 => bnd2 (f_X7_add r_11 (nI p) (4 : Int32) (nI (x - pdN v p x) - nI (plN v p x))) fun r_12 => bnd (inb (187 : Int32) 198) (bnd (inb (187 : Int32) 198) (letv (setR r_12 (wr r_12.1 0 (187 : Int32) ((rd r_12.1 0 (187 : Int32)) + nI x))) fun S_15 => bnd (inb (188 : Int32) 198) (bnd (inb (188 : Int32) 198) (letv (setR S_15 (wr S_15.1 0 (188 : Int32) ((rd S_15.1 0 (188 : Int32)) + nI (pdN v p x)))) fun S_18 => some S_18)))) := by
    have hle' : rd Q'.1 0 (173 : Int32) ≤ nI (lsz v) := by
      rw [show (173 : Int32) = nI 173 from rfl, pu_rd (by decide), z3, hlB]
      exact (nI_leI (by omega) (by omega)).mpr (Nat.le_refl _)
    show bnd (inb (173 : Int32) 198) (if rd Q'.1 0 (173 : Int32) ≤ nI (lsz v) then _ else _) = _
    rw [if_pos hle', show (173 : Int32) = nI 173 from rfl, pu_inb (by decide) (by decide), pu_bnd]
  rw [en, d1, pu_some, pk_sub epl, show (4 : Int32) = nI 4 from rfl, s4, pu_some]
  simp (disch := omega) only [pu_bnd, pu_let, pu_inb, pu_rd, pu_wr, pu_lit, z6]
  have z7' : (setR (wz R2 (8 * p + 4) (rpV (tkB v p x) 4 p + nI (x - pdN v p x - plN v p x))) (wn (wz R2 (8 * p + 4) (rpV (tkB v p x) 4 p + nI (x - pdN v p x - plN v p x))).1 0 187 (rpV (tkB v p x) 18 6 + nI x))).1 0 188 = rpV (tkB v p x) 18 7 := z7
  rw [z7']
  rfl
theorem op_buy : Op_buy Rel := by
  intro n S R a0 a1 hn h
  have hbad : ∀ e : Int32, ∃ (r : Int32) (S2 : PS) (R2 : RS), (some (e, S) : Option (Int32 × PS)) = some (r, S2) ∧ (some (e, R) : Option (Int32 × RS)) = some (r, R2) ∧ Rel (n + 1) S2 R2 := fun e => ⟨_, S, R, rfl, rfl, rel_mono h (by omega)⟩
  unfold f_X6_buy f_X7_buy
  simp only [wi_67]
  rcases is_house h a0 with ⟨h1, h2⟩ | ⟨p, hp, rfl, h1, h2⟩
  · rw [h1, h2, pu_some, pu_some, ite00, ite00]; exact hbad _
  · rw [h1, h2, pu_some, pu_some, ite10, ite10]
    rcases wi (p := a1) 1 500 (by decide) (by decide) with h5 | ⟨h5, x, hx1, hx2, rfl⟩
    · rw [show f_X6_within a1 1 500 = some 0 from h5, pu_some, pu_some, ite00, ite00]; exact hbad _
    · rw [show f_X6_within (nI x) 1 500 = some 1 from h5, pu_some, pu_some, ite10, ite10]
      obtain ⟨S1, R1, b1, b2, b3, b4, _⟩ := rel_record h
      rw [b1, b2, pu_some, pu_some]
      obtain ⟨⟨g, gn, hv⟩, _⟩ := id b3
      have hv' : RV (S1.1 0) R1 := hv
      rw [← b4] at hp
      have h10 := g.1.2.1
      obtain ⟨t1, t2, t3⟩ := TK_G g gn hp (by omega) hx2
      obtain ⟨R2, c1, c2, c3⟩ := sr_token hv' g gn hp (by omega) hx2
      have s4 := sr_of c2 t1.1 (k := 4) (j := p) (by decide) (by omega)
      refine ⟨TK (S1.1 0) p x 4 p, setV S1 0 (TK (S1.1 0) p x), R2, ?_, ?_, op_fin b3 t1 (t2.mono (by omega) (by omega)) c2 c3⟩
      · rw [sp_token g hp hx2, pu_some, pu_let, pu_inb (by omega : p < 10) (by decide), pu_bnd, setV_at, pu_rd (by omega)]
      · rw [c1, pu_some, show (4 : Int32) = nI 4 from rfl, s4, pu_some]
