/-! the least token -/
def fd (v : VS) (p H : Nat) : Nat → Nat → Int32
  | _, 0 => -1000001
  | x, d + 1 => if (hm p H 0 (TK v p x)).1 = H then nI x else fd v p H (x + 1) d
theorem sp_affords {v : VS} (g : G v) {c t p x H : Nat} (gn : GN c t v) (hp : p < hsz v) (hc : c ≤ 600000) (hx : x ≤ 500) (hH1 : 1 ≤ H) (hH : H ≤ 48) : (f_X5_affords v (nI p) (nI x) (nI H) = some 1 ∧ En H (TK v p x) p) ∨ (f_X5_affords v (nI p) (nI x) (nI H) = some 0 ∧ ¬ En H (TK v p x) p) := by
  have h10 := g.1.2.1
  have epd := pd_le g p x
  have epl := pl_le g p x
  obtain ⟨_, ⟨d, hd, ed⟩, _⟩ := g.2.1 p hp
  obtain ⟨tg, tgn, th⟩ := TK_G g gn hp hc hx
  have e4 := TK_4 g gn hp hc hx
  have e1 : TK v p x 1 p = nI d := by rw [TK_same g gn hp hc hx (by decide) (by decide) (by decide) (by decide) (by omega)]; exact ed
  have e17 : TK v p x 17 0 = v 17 0 := TK_same g gn hp hc hx (by decide) (by decide) (by decide) (by decide) (by decide)
  obtain ⟨a1, a2, a3⟩ := add_od tg tgn (by omega) (j := p) (by omega)
  rw [e17, e4] at a1
  have hHd : H * d ≤ 48 * 50 := Nat.mul_le_mul hH hd
  have hA : f_X5_affords v (nI p) (nI x) (nI H) = if nI d = 0 then some 1 else if v 4 p + nI (x - pdN v p x - plN v p x) + v 17 0 < nI (H * d) then some 0 else some 1 := by
    unfold f_X5_affords
    rw [pu_inb (by omega : p < 10) (by decide), pu_bnd, pu_rd (by omega), pu_let, sp_pd g hp hx, pu_some, sp_pl g hp hx, pu_some, pk_sub epd, pk_sub epl, pu_let, ed, pk_mul, pu_bnd, show (0 : Int32) = nI 0 from rfl, pu_inb (by decide) (by decide), pu_bnd, pu_rd (by omega), pu_rd (by decide)]
  rw [hA]
  by_cases d0 : d = 0
  · subst d0
    exact Or.inl ⟨if_pos rfl, 0, e1, by omega, Or.inl rfl⟩
  · rw [if_neg (show ¬ nI d = 0 from ne_n (b := 0) (by omega) (by decide) d0)]
    have hHI : (nI (H * d)).toInt = ((H * d : Nat) : Int) := nI_toInt (by omega)
    by_cases cc : v 4 p + nI (x - pdN v p x - plN v p x) + v 17 0 < nI (H * d)
    · rw [if_pos cc]
      refine Or.inr ⟨rfl, fun ⟨d', f1, f2, f3⟩ => ?_⟩
      rw [e1] at f1
      have := nI_inj0 (by omega) (by omega) f1
      subst this
      rw [e17, e4] at f3
      rw [Int32.lt_iff_toInt_lt, a1, hHI] at cc
      rcases f3 with f3 | f3 | f3
      · exact d0 f3
      · omega
      · omega
    · rw [if_neg cc]
      refine Or.inl ⟨rfl, d, e1, hd, Or.inr (Or.inr ?_)⟩
      rw [e17, e4]
      rw [Int32.lt_iff_toInt_lt, a1, hHI] at cc
      omega
theorem srv_ag {c t : Nat} {v w : VS} {R : RS} (hv : HK c t v (R.1 0)) (hw : HK c t w (R.1 0)) {p x H : Nat} (hp : p < hsz v) (hp' : p < hsz w) (hc : c ≤ 600000) (ht : t ≤ 2 ^ 28) (hx : x ≤ 500) (hH : H ≤ 48) : (hm p H 0 (TK v p x)).1 = H ↔ (hm p H 0 (TK w p x)).1 = H := by
  obtain ⟨g, gn, h1⟩ := hv
  obtain ⟨g', gn', h2⟩ := hw
  obtain ⟨tg, tgn, th⟩ := TK_G g gn hp hc hx
  obtain ⟨tg', tgn', th'⟩ := TK_G g' gn' hp' hc hx
  obtain ⟨R1, a1, a2, _⟩ := sr_token (R := R) h1 g gn hp hc hx
  obtain ⟨R2, b1, b2, _⟩ := sr_token (R := R) h2 g' gn' hp' hc hx
  rw [a1] at b1
  have e := Option.some.inj b1
  subst e
  exact srv_tie (by omega) a2 b2 tg tgn tg' tgn' (by omega) (by omega) (by omega)
theorem sp_would {S : PS} {c t : Nat} {R : RS} (h : HK c t (S.1 0) (R.1 0)) (u : VS) {p x H : Nat} (hp : p < hsz (S.1 0)) (hc : c ≤ 600000) (ht : t ≤ 2 ^ 28) (hx : x ≤ 500) (hH1 : 1 ≤ H) (hH : H ≤ 48) : ∃ u', f_X6_wouldServe (setV S 1 u) (nI p) (nI x) (nI H) = some (if (hm p H 0 (TK (S.1 0) p x)).1 = H then 1 else 0, setV S 1 u') := by
  obtain ⟨w, w1, w2⟩ := sp_copy (i := 1) (j := 0) (by decide) (setV S 1 u)
  rw [setV_ne S u (by decide)] at w2
  have hw := w2.HK h
  have hpw : p < hsz w := by rw [show hsz w = hsz (S.1 0) from hsz_congr (w2 22 0 (by unfold inR; omega))]; exact hp
  obtain ⟨tg, tgn, th⟩ := TK_G hw.1 hw.2.1 hpw hc hx
  have hm1 := sp_hoursMet (p := p) (L := H) (by omega) H 0 fuel t (TK w p x) (by omega) (fuel_gt (by omega)) (by omega) tg tgn (by omega)
  have tie := srv_ag h hw hp hpw hc ht hx hH
  have hle := (hm_le p H 0 (TK w p x)).2
  refine ⟨(hm p H 0 (TK w p x)).2, ?_⟩
  unfold f_X6_wouldServe
  rw [w1, pu_some, setV_up, setV_at, sp_token hw.1 hpw hx, pu_some, pu_let, setV_up, setV_at]
  unfold f_X5_hoursMet
  rw [show (0 : Int32) = nI 0 from rfl, hm1, pu_some, pu_let, setV_up]
  by_cases cc : (hm p H 0 (TK w p x)).1 = H
  · rw [if_pos (tie.mpr cc), cc, if_neg (nI_nlt (Nat.le_refl _) (by omega))]
  · rw [if_neg (fun z => cc (tie.mp z)), if_pos (nI_lt (by omega) (by omega))]
theorem cl_loop {S : PS} {c t : Nat} {R : RS} (h : HK c t (S.1 0) (R.1 0)) {p H : Nat} (hp : p < hsz (S.1 0)) (hc : c ≤ 600000) (ht : t ≤ 2 ^ 28) (hH1 : 1 ≤ H) (hH : H ≤ 48) : ∀ (d x n : Nat) (f : Int32) (u : VS), x + d = 501 → d < n → (f = -1 ∨ ∃ x', x' ≤ 500 ∧ f = nI (plN (S.1 0) p x') ∧ En H (TK (S.1 0) p x') p ∧ ¬ (hm p H 0 (TK (S.1 0) p x')).1 = H) →
    ∃ u', f_X6_tokenFor_26 (nI p) (nI H) n f (nI x) (setV S 1 u) = some (fd (S.1 0) p H x d, setV S 1 u') := by
  obtain ⟨g, gn, hv⟩ := id h
  intro d
  induction d with
  | zero =>
    intro x n f u hx hn hf
    obtain ⟨n, rfl⟩ : ∃ m, n = m + 1 := ⟨n - 1, by omega⟩
    obtain rfl : x = 501 := by omega
    refine ⟨u, ?_⟩
    show (if (500 : Int32) < nI 501 then _ else _) = _
    rw [if_pos (by decide)]
    rfl
  | succ d ih =>
    intro x n f u hx hn hf
    obtain ⟨n, rfl⟩ : ∃ m, n = m + 1 := ⟨n - 1, by omega⟩
    have hx5 : x ≤ 500 := by omega
    obtain ⟨tg, tgn, th⟩ := TK_G g gn hp hc hx5
    have st : f_X6_tokenFor_26 (nI p) (nI H) (n + 1) f (nI x) (setV S 1 u) = if nI (plN (S.1 0) p x) = f then f_X6_tokenFor_26 (nI p) (nI H) n f (nI (x + 1)) (setV S 1 u) else bnd2 (f_X5_affords (S.1 0) (nI p) (nI x) (nI H)) fun r_5 => if r_5 = (0 : Int32) then f_X6_tokenFor_26 (nI p) (nI H) n f (nI (x + 1)) (setV S 1 u) else bnd2 (f_X6_wouldServe (setV S 1 u) (nI p) (nI x) (nI H)) fun r_6 => if r_6.1 = (0 : Int32) then f_X6_tokenFor_26 (nI p) (nI H) n (nI (plN (S.1 0) p x)) (nI (x + 1)) r_6.2 else some (nI x, r_6.2) := by
      show (if (500 : Int32) < nI x then _ else bnd2 (f_X5_partForLoans ((setV S 1 u).1 0) (nI p) (nI x)) _) = _
      rw [if_neg (show ¬ (500 : Int32) < nI x from nI_nlt (a := 500) hx5 (by omega)), setV_ne S u (by decide), sp_pl g hp hx5, pu_some]
      unfold f_X6_tokenFor_83
      simp only [pv_let, nI_1]
    have hno : ¬ En H (TK (S.1 0) p x) p → ¬ (hm p H 0 (TK (S.1 0) p x)).1 = H := fun hE hD => hE (hm_En (c := c + 500) (by omega) H 0 t (TK (S.1 0) p x) tg tgn (by omega) (by omega) (by rw [hD, Nat.zero_add]))
    have hskip : ∀ f', (f' = -1 ∨ ∃ x', x' ≤ 500 ∧ f' = nI (plN (S.1 0) p x') ∧ En H (TK (S.1 0) p x') p ∧ ¬ (hm p H 0 (TK (S.1 0) p x')).1 = H) → ¬ (hm p H 0 (TK (S.1 0) p x)).1 = H → ∀ u1, ∃ u', f_X6_tokenFor_26 (nI p) (nI H) n f' (nI (x + 1)) (setV S 1 u1) = some (fd (S.1 0) p H x (d + 1), setV S 1 u') := fun f' hf' hD u1 => by
      obtain ⟨u', e⟩ := ih (x + 1) n f' u1 (by omega) (by omega) hf'
      refine ⟨u', ?_⟩
      rw [e]
      show _ = some (if (hm p H 0 (TK (S.1 0) p x)).1 = H then nI x else fd (S.1 0) p H (x + 1) d, _)
      rw [if_neg hD]
    rw [st]
    by_cases cf : nI (plN (S.1 0) p x) = f
    · rw [if_pos cf]
      refine hskip f hf ?_ u
      rcases hf with hf | ⟨x', f1, f2, f3, f4⟩
      · have hl := pl_le g p x
        have hp0 := nI_pos' (n := plN (S.1 0) p x) (by omega)
        rw [cf, hf] at hp0
        exact absurd hp0 (by decide)
      · by_cases hE : En H (TK (S.1 0) p x) p
        · intro hD
          refine f4 ?_
          have hl := pl_le g p x
          have hl' := pl_le g p x'
          have eP : plN (S.1 0) p x' = plN (S.1 0) p x := by
            rw [f2] at cf
            exact (nI_inj0 (by omega) (by omega) cf).symm
          obtain ⟨m1, m2⟩ := TK_Sm g gn hp hc hx5 f1 eP
          obtain ⟨tg', tgn', th'⟩ := TK_G g gn hp hc f1
          rw [← hm_Sm (c := c + 500) (by omega) H 0 t t _ _ m1 tg tgn tg' tgn' (by omega) (by omega) (by omega) (fun j _ hj => m2 j hj) (Or.inr ⟨hE, f3⟩)]
          exact hD
        · exact hno hE
    · rw [if_neg cf]
      rcases sp_affords g gn hp hc hx5 hH1 hH with ⟨e1, hE⟩ | ⟨e1, hE⟩
      · rw [e1, pu_some, ite10]
        obtain ⟨u2, e2⟩ := sp_would h u hp hc ht hx5 hH1 hH
        rw [e2, pu_some]
        by_cases hD : (hm p H 0 (TK (S.1 0) p x)).1 = H
        · rw [if_pos hD]
          refine ⟨u2, ?_⟩
          rw [if_neg (show ¬ (1 : Int32) = 0 by decide)]
          show _ = some (if (hm p H 0 (TK (S.1 0) p x)).1 = H then nI x else fd (S.1 0) p H (x + 1) d, _)
          rw [if_pos hD]
        · rw [if_neg hD]
          show ∃ u', (if (0 : Int32) = 0 then _ else _) = _
          rw [if_pos rfl]
          exact hskip _ (Or.inr ⟨x, hx5, rfl, hE, hD⟩) hD u2
      · rw [e1, pu_some, ite00]
        exact hskip f hf (hno hE) u
/-- the reference while it tries tokens: its village, and the copy aside -/
def LI (R Q : RS) : Prop := Fs R Q ∧ Q.2 = R.2 ∧ (∀ i, i < 195 → Q.1 0 i = R.1 0 i) ∧ ∀ i, i < 198 → Q.1 1 i = R.1 0 i
theorem LI_back {R Q R' : RS} (h : LI R Q) (f : Fr Q R') : LI R (cpR R' 1 0 0 0 198) := by
  obtain ⟨h1, h2, h3, h4⟩ := h
  refine ⟨⟨fun k hk => funext fun j => ?_, fun j hj => ?_⟩, f.1.trans h2, fun i hi => ?_, fun i hi => ?_⟩
  · rw [cpR_ne _ _ (by omega), f.2 k (by omega) (by omega), h1.1 k hk]
  · rw [cpR_ne _ _ (by decide), f.2 7 (by decide) (by decide), h1.2 j hj]
  · show (if 0 = 0 ∧ 0 ≤ i ∧ i < 0 + 198 then R'.1 1 (0 + (i - 0)) else _) = _
    rw [if_pos (by omega), f.2 1 (by decide) (by decide), show 0 + (i - 0) = i by omega, h4 i (by omega)]
  · rw [cpR_ne _ _ (by decide), f.2 1 (by decide) (by decide), h4 i hi]
theorem LI_copy (R : RS) : LI R (cpR R 0 1 0 0 198) := by
  refine ⟨⟨fun k hk => funext fun j => cpR_ne _ _ (by omega), fun j _ => cpR_ne _ _ (by decide)⟩, rfl, fun i _ => cpR_ne _ _ (by decide), fun i hi => ?_⟩
  show (if 1 = 1 ∧ 0 ≤ i ∧ i < 0 + 198 then R.1 0 (0 + (i - 0)) else _) = _
  rw [if_pos (by omega), show 0 + (i - 0) = i by omega]
theorem not_none (m : Nat) (hm : m ≤ 1000) : ¬ nI m = (-1000001 : Int32) := fun z => by
  have hp := nI_pos' (n := m) (by omega)
  rw [z] at hp
  revert hp
  decide
theorem rl_loop {v : VS} {c t : Nat} {R : RS} (h : HK c t v (R.1 0)) {p H : Nat} (hp : p < hsz v) (hc : c ≤ 600000) (ht : t ≤ 2 ^ 28) (hH1 : 1 ≤ H) (hH : H ≤ 48) : ∀ (d x n : Nat) (Q : RS), x + d = 501 → d + 1 < n → LI R Q → ∃ Q', f_X7_tokenFor_56 (nI p) (nI H) n (-1000001) (nI x) Q = some (fd v p H x d, Q') ∧ LI R Q' := by
  intro d
  induction d with
  | zero =>
    intro x n Q hx hn hq
    obtain ⟨n, rfl⟩ : ∃ m, n = m + 1 := ⟨n - 1, by omega⟩
    obtain rfl : x = 501 := by omega
    refine ⟨Q, ?_, hq⟩
    show (if (500 : Int32) < nI 501 then _ else _) = _
    rw [if_pos (by decide)]
    rfl
  | succ d ih =>
    intro x n Q hx hn hq
    obtain ⟨n, rfl⟩ : ∃ m, n = m + 1 := ⟨n - 1, by omega⟩
    have hx5 : x ≤ 500 := by omega
    obtain ⟨g, gn, hv⟩ := HK_to h (fun _ _ _ => rfl) hq.2.2.1
    have hv' : RV v Q := hv
    obtain ⟨tg, tgn, th⟩ := TK_G g gn hp hc hx5
    obtain ⟨Q1, a1, a2, a3⟩ := sr_token hv' g gn hp hc hx5
    obtain ⟨Q2, b1, b2⟩ := sr_firstDark (p := p) (L := H) (by omega) H 0 fuel t (TK v p x) Q1 (by omega) (fuel_gt (by omega)) (by omega) tg tgn (by omega) a2
    have b1' : f_X7_firstDark Q1 (nI p) (nI H) = some (if (hm p H 0 (TK v p x)).1 = H then -1000001 else nI (hm p H 0 (TK v p x)).1, cpR Q2 1 0 0 0 198) := b1
    have hli := LI_back hq (a3.trans b2)
    have hle := (hm_le p H 0 (TK v p x)).2
    have st : f_X7_tokenFor_56 (nI p) (nI H) (n + 1) (-1000001) (nI x) Q = if (hm p H 0 (TK v p x)).1 = H then f_X7_tokenFor_56 (nI p) (nI H) n (nI x) (nI (x + 1)) (cpR Q2 1 0 0 0 198) else f_X7_tokenFor_56 (nI p) (nI H) n (-1000001) (nI (x + 1)) (cpR Q2 1 0 0 0 198) := by
      show (if (500 : Int32) < nI x then _ else if (-1000001 : Int32) = -1000001 then _ else _) = _
      rw [if_neg (show ¬ (500 : Int32) < nI x from nI_nlt (a := 500) hx5 (by omega)), if_pos rfl, a1, pu_some, b1', pu_some]
      unfold f_X7_tokenFor_95
      by_cases hD : (hm p H 0 (TK v p x)).1 = H
      · simp only [if_pos hD, pv_let, nI_1, if_true]
      · simp only [if_neg hD, pv_let, nI_1, if_neg (not_none (hm p H 0 (TK v p x)).1 (by omega))]
    rw [st]
    show ∃ Q', _ = some (if (hm p H 0 (TK v p x)).1 = H then nI x else fd v p H (x + 1) d, Q') ∧ _
    by_cases hD : (hm p H 0 (TK v p x)).1 = H
    · rw [if_pos hD, if_pos hD]
      obtain ⟨m, rfl⟩ : ∃ m, n = m + 1 := ⟨n - 1, by omega⟩
      refine ⟨_, ?_, hli⟩
      show (if (500 : Int32) < nI (x + 1) then some (nI x, cpR Q2 1 0 0 0 198) else if nI x = (-1000001 : Int32) then _ else some (nI x, cpR Q2 1 0 0 0 198)) = _
      rw [if_neg (not_none x (by omega))]
      split <;> rfl
    · rw [if_neg hD, if_neg hD]
      exact ih (x + 1) n _ (by omega) (by omega) hli
theorem op_tokenFor : Op_tokenFor Rel := by
  intro n S R a0 a1 hn h
  have hbad : ∀ e : Int32, ∃ (r : Int32) (S2 : PS) (R2 : RS), (some (e, S) : Option (Int32 × PS)) = some (r, S2) ∧ (some (e, R) : Option (Int32 × RS)) = some (r, R2) ∧ Rel (n + 1) S2 R2 := fun e => ⟨_, S, R, rfl, rfl, rel_mono h (by omega)⟩
  unfold f_X6_tokenFor f_X7_tokenFor
  simp only [wi_67]
  rcases is_house h a0 with ⟨h1, h2⟩ | ⟨p, hp, rfl, h1, h2⟩
  · rw [h1, h2, pu_some, pu_some, ite00, ite00]; exact hbad _
  · rw [h1, h2, pu_some, pu_some, ite10, ite10]
    rcases wi (p := a1) 1 48 (by decide) (by decide) with h5 | ⟨h5, H, hH1, hH, rfl⟩
    · rw [show f_X6_within a1 1 48 = some 0 from h5, pu_some, pu_some, ite00, ite00]; exact hbad _
    · rw [show f_X6_within (nI H) 1 48 = some 1 from h5, pu_some, pu_some, ite10, ite10]
      obtain ⟨g, gn, hv⟩ := h.1
      have hv' : RV (S.1 0) R := hv
      obtain ⟨u', c1⟩ := cl_loop (R := R) h.1 hp (by omega) (by omega) hH1 hH 501 0 fuel (-1) (S.1 1) (by omega) (fuel_gt (by omega)) (Or.inl rfl)
      rw [setV_id] at c1
      have hcp := sr_copy (k1 := 0) (k3 := 1) (by decide) R (a := 0) (b := 0) (by decide) (by decide) (by decide) (by decide)
      have hli := LI_copy R
      obtain ⟨g', gn', hvc⟩ := HK_to h.1 (fun _ _ _ => rfl) hli.2.2.1
      have hvc' : RV (S.1 0) (cpR R 0 1 0 0 198) := hvc
      obtain ⟨R1, b1, b2⟩ := sr_firstDark (p := p) (L := H) (c := 1000 * n) (by omega) H 0 fuel (100 * n) (S.1 0) (cpR R 0 1 0 0 198) (by omega) (fuel_gt (by omega)) hp g gn (by omega) hvc'
      have b1' : f_X7_firstDark (cpR R 0 1 0 0 198) (nI p) (nI H) = some (if (hm p H 0 (S.1 0)).1 = H then -1000001 else nI (hm p H 0 (S.1 0)).1, cpR R1 1 0 0 0 198) := b1
      have hli1 := LI_back hli b2
      have hle := (hm_le p H 0 (S.1 0)).2
      obtain ⟨z1, z2⟩ := TK_zero g gn hp (by omega)
      obtain ⟨tg, tgn, th⟩ := TK_G g gn hp (by omega) (by decide : 0 ≤ 500)
      have e0 : (hm p H 0 (S.1 0)).1 = (hm p H 0 (TK (S.1 0) p 0)).1 := hm_Sm (c := 1000 * n + 500) (by omega) H 0 (100 * n) (100 * n) _ _ z1 g (gn.mono (by omega) (by omega)) tg tgn (by omega) (by omega) hp (fun j hj _ => z2 j hj) (Or.inl (z2 p hp))
      have hfd : fd (S.1 0) p H 0 501 = if (hm p H 0 (S.1 0)).1 = H then nI 0 else fd (S.1 0) p H 1 500 := by
        show (if (hm p H 0 (TK (S.1 0) p 0)).1 = H then nI 0 else fd (S.1 0) p H (0 + 1) 500) = _
        rw [e0]
      rw [show (0 : Int32) = nI 0 from rfl, hcp, pu_some, b1', pu_some]
      by_cases hD : (hm p H 0 (S.1 0)).1 = H
      · rw [if_pos hD] at hfd
        refine ⟨nI 0, setV S 1 u', cpR R1 1 0 0 0 198, by rw [hfd] at c1; exact c1, ?_, rel_back h (by omega) _ ⟨hli1.1, hli1.2.1, hli1.2.2.1⟩⟩
        simp only [if_pos hD]
        rfl
      · rw [if_neg hD] at hfd
        obtain ⟨Q', d1, d2⟩ := rl_loop h.1 hp (by omega) (by omega) hH1 hH 500 1 fuel (cpR R1 1 0 0 0 198) (by omega) (fuel_gt (by omega)) hli1
        refine ⟨fd (S.1 0) p H 1 500, setV S 1 u', Q', by rw [hfd] at c1; exact c1, ?_, rel_back h (by omega) _ ⟨d2.1, d2.2.1, d2.2.2.1⟩⟩
        simp only [if_neg hD]
        rw [if_neg (not_none _ (by omega))]
        exact d1
