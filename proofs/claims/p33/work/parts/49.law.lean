/-! THE CLASS'S CALLS, on numbers within their bounds -/
theorem k_wi {a b p : Nat} (h1 : a ≤ p) (h2 : p ≤ b) (hb : b < 2 ^ 31) : f_X6_within (nI p) (nI a) (nI b) = some 1 := by
  unfold f_X6_within
  rw [if_neg (nI_nlt h1 (by omega)), if_neg (nI_nlt h2 hb)]
theorem k_isHouse {S : PS} (g : GA (S.1 0)) {x : Nat} (hx : x < hsz (S.1 0)) : f_X6_isHouse S (nI x) = some 1 := by
  have h10 := g.2.1
  unfold f_X6_isHouse
  rw [g.1, show nI (hsz (S.1 0)) - (1 : Int32) = nI (hsz (S.1 0) - 1) from pk_sub (b := 1) (by omega), show (0 : Int32) = nI 0 from rfl, k_wi (Nat.zero_le _) (by omega) (by omega), pu_some]
theorem GN_upd {c t c' t' : Nat} {v w : VS} (h : GN c t v) (h0 : w 22 0 = v 22 0) (h3 : w 22 3 = v 22 3) (h4 : ∀ j, w 4 j = v 4 j) (hc : c ≤ c') (ht : t ≤ t') : GN c' t' w := by
  refine ⟨fun j hj => ?_, ?_⟩
  · rw [hsz_congr h0] at hj
    rw [h4]
    have := h.1 j hj
    omega
  · unfold hrz
    rw [h3]
    have := h.2
    unfold hrz at this
    omega
/-- addHouse -/
theorem k_addHouse {S : PS} (h : HI S) (g : GA (S.1 0)) {f d : Nat} (hf : f < 3) (hd : d ≤ 50) (hlt : hsz (S.1 0) < 10) : ∃ S', f_X6_addHouse S (nI f) (nI d) = some (nI (hsz (S.1 0)), S') ∧ HI S' ∧ S'.1 0 = adS (S.1 0) (nI f) (nI d) := by
  obtain ⟨S1, b1, b2, b3⟩ := hi_record h
  refine ⟨setV S1 0 (adS (S.1 0) (nI f) (nI d)), ?_, hi_set b2 _, setV_at _ _ _⟩
  unfold f_X6_addHouse
  rw [show f_X6_within (nI f) 0 2 = some 1 from k_wi (a := 0) (b := 2) (Nat.zero_le _) (by omega) (by omega), show f_X6_within (nI d) 0 50 = some 1 from k_wi (a := 0) (b := 50) (Nat.zero_le _) hd (by omega), pu_some, pu_some, ite10, ite10, g.1, if_pos (show nI (hsz (S.1 0)) < 10 from nI_lt hlt (by decide)), b1, pu_some, b3]
  unfold f_X2_add
  rw [g.1]
  simp (disch := omega) only [pu_let, pu_lit, pu_inb, pu_bnd, pu_wr, pu_some]
  have e22 : (wn (wn (wn (wn (wn (wn (wn (wn (S.1 0) 0 (hsz (S.1 0)) (nI f)) 1 (hsz (S.1 0)) (nI d)) 2 (hsz (S.1 0)) (nI 0)) 3 (hsz (S.1 0)) (nI 1)) 4 (hsz (S.1 0)) (nI 0)) 5 (hsz (S.1 0)) (nI 0)) 6 (hsz (S.1 0)) (nI 0)) 7 (hsz (S.1 0)) (nI 0)) 22 0 = nI (hsz (S.1 0)) := by
    simp only [pu_wn]
    simp [g.1]
  rw [e22, nI_add]
  rfl
theorem adS_hsz {v : VS} (hz : hsz v < 10) (f d : Int32) : hsz (adS v f d) = hsz v + 1 := by
  unfold hsz
  rw [adS_at, if_pos ⟨rfl, rfl⟩, nI_clamp (by omega)]
  rfl
theorem adS_22 (v : VS) (f d : Int32) {j : Nat} (hj : 0 < j) : adS v f d 22 j = v 22 j := by rw [adS_at, if_neg (by omega), if_neg (by omega)]
theorem adS_k (v : VS) (f d : Int32) {k j : Nat} (h1 : 8 ≤ k) (h2 : k < 22) : adS v f d k j = v k j := by rw [adS_at, if_neg (by omega), if_neg (by omega)]
theorem adS_G {v : VS} {c t : Nat} (g : G v) (gn : GN c t v) {f d : Nat} (hf : f < 3) (hd : d ≤ 50) (hlt : hsz v < 10) : G (adS v (nI f) (nI d)) ∧ GN c t (adS v (nI f) (nI d)) := by
  have hsw := adS_hsz hlt (nI f) (nI d)
  have o22 : ∀ j, 0 < j → adS v (nI f) (nI d) 22 j = v 22 j := fun j hj => adS_22 v _ _ hj
  have ok : ∀ k j, 8 ≤ k → k < 22 → adS v (nI f) (nI d) k j = v k j := fun k j h1 h2 => adS_k v _ _ h1 h2
  have hls : lsz (adS v (nI f) (nI d)) = lsz v := by unfold lsz; rw [o22 1 (by decide)]
  have hqs : qsz (adS v (nI f) (nI d)) = qsz v := by unfold qsz; rw [o22 2 (by decide)]
  have hrs : hrz (adS v (nI f) (nI d)) = hrz v := by unfold hrz; rw [o22 3 (by decide)]
  have ga := g.1
  refine ⟨⟨⟨?_, ?_, ?_, ?_, ?_, ?_, ?_, ?_, ?_, ?_⟩, ?_, ?_, ?_, ?_, ?_, ?_⟩, ⟨?_, ?_⟩⟩
  · rw [adS_at, if_pos ⟨rfl, rfl⟩, hsw]
  · rw [hsw]; omega
  · rw [o22 1 (by decide), hls]; exact ga.2.2.1
  · rw [hls]; exact ga.2.2.2.1
  · rw [o22 2 (by decide), hqs]; exact ga.2.2.2.2.1
  · rw [hqs]; exact ga.2.2.2.2.2.1
  · rw [hqs]; exact ga.2.2.2.2.2.2.1
  · rw [o22 3 (by decide), hrs]; exact ga.2.2.2.2.2.2.2.1
  · rw [hrs]; exact ga.2.2.2.2.2.2.2.2.1
  · rw [o22 4 (by decide)]; exact ga.2.2.2.2.2.2.2.2.2
  · intro j hj
    rw [hsw] at hj
    by_cases hjh : j = hsz v
    · have ev : ∀ k, k < 8 → adS v (nI f) (nI d) k j = adV (nI f) (nI d) k := fun k hk => by rw [adS_at, if_neg (by omega), if_pos ⟨hk, hjh⟩]
      rw [ev 0 (by decide), ev 1 (by decide), ev 2 (by decide), ev 3 (by decide), ev 4 (by decide), ev 5 (by decide)]
      exact ⟨⟨f, by omega, rfl⟩, ⟨d, hd, rfl⟩, ⟨0, by decide, rfl⟩, ⟨1, by decide, rfl⟩, ⟨0, by decide, rfl⟩, by show (-50 : Int) ≤ (0 : Int32).toInt; decide⟩
    · have ev : ∀ k, k < 8 → adS v (nI f) (nI d) k j = v k j := fun k hk => by rw [adS_at, if_neg (by omega), if_neg (by omega)]
      rw [ev 0 (by decide), ev 1 (by decide), ev 2 (by decide), ev 3 (by decide), ev 4 (by decide), ev 5 (by decide)]
      exact g.2.1 j (by omega)
  · intro k hk
    rw [hls] at hk
    rw [hsw, ok 10 k (by decide) (by decide), ok 11 k (by decide) (by decide), ok 12 k (by decide) (by decide)]
    obtain ⟨x, y, o, p1, p2, p3⟩ := g.2.2.1 k hk
    exact ⟨x, y, o, by omega, by omega, p3⟩
  · intro b hb
    rw [ok 13 b (by decide) (by decide), ok 14 b (by decide) (by decide), ok 15 b (by decide) (by decide), ok 16 b (by decide) (by decide)]
    exact g.2.2.2.1 b hb
  · exact ⟨by rw [ok 17 0 (by decide) (by decide)]; exact g.2.2.2.2.1.1, fun k hk => by rw [ok 17 k (by decide) (by decide)]; exact g.2.2.2.2.1.2 k hk⟩
  · exact ⟨by rw [ok 19 0 (by decide) (by decide)]; exact g.2.2.2.2.2.1.1, fun k hk => by rw [ok 20 k (by decide) (by decide)]; exact g.2.2.2.2.2.1.2 k hk⟩
  · intro k hk
    rw [hqs] at hk
    rw [ok 21 k (by decide) (by decide)]
    exact g.2.2.2.2.2.2 k hk
  · intro j hj
    rw [hsw] at hj
    by_cases hjh : j = hsz v
    · rw [adS_at, if_neg (by omega), if_pos ⟨by decide, hjh⟩]
      show (0 : Int32).toInt ≤ _
      have : (0 : Int32).toInt = 0 := by decide
      omega
    · rw [adS_at, if_neg (by omega), if_neg (by omega)]
      exact gn.1 j (by omega)
  · rw [hrs]
    exact gn.2
/-- setHouse -/
def hmax (k : Nat) : Nat := if k = 0 then 2 else if k = 1 then 50 else if k = 2 then 1000 else 1
theorem k_setHouse {S : PS} (h : HI S) (g : GA (S.1 0)) {x k y : Nat} (hx : x < hsz (S.1 0)) (hk : k < 4) (hy : y ≤ hmax k) : ∃ S', f_X6_setHouse S (nI x) (nI k) (nI y) = some (S.1 0 k x, S') ∧ HI S' ∧ S'.1 0 = wn (S.1 0) k x (nI y) := by
  obtain ⟨S1, b1, b2, b3⟩ := hi_record h
  have h10 := g.2.1
  refine ⟨setV S1 0 (wn (S.1 0) k x (nI y)), ?_, hi_set b2 _, setV_at _ _ _⟩
  have hM : hmax k ≤ 1000 := by unfold hmax; split <;> (try split) <;> (try split) <;> omega
  have eM : stHM k = nI (hmax k) := by
    rcases (show k = 0 ∨ k = 1 ∨ k = 2 ∨ k = 3 by omega) with e | e | e | e <;> subst e <;> rfl
  have et : f_X2_told (S.1 0) (nI x) (nI k) = some (S.1 0 k x) := by
    rcases (show k = 0 ∨ k = 1 ∨ k = 2 ∨ k = 3 by omega) with e | e | e | e <;> subst e <;> (unfold f_X2_told; simp (disch := omega) only [pu_lit, nI_eq, Nat.reduceEqDiff, if_true, if_false, pu_inb, pu_bnd, pu_rd])
  have ec : f_X2_change (S.1 0) (nI x) (nI k) (nI y) = some (wn (S.1 0) k x (nI y)) := by
    rcases (show k = 0 ∨ k = 1 ∨ k = 2 ∨ k = 3 by omega) with e | e | e | e <;> subst e <;> (unfold f_X2_change; simp (disch := omega) only [pu_lit, nI_eq, Nat.reduceEqDiff, if_true, if_false, pu_inb, pu_bnd, pu_wr, pu_let])
  unfold f_X6_setHouse
  rw [k_isHouse g hx, pu_some, ite10, show f_X6_within (nI k) 0 3 = some 1 from k_wi (a := 0) (b := 3) (Nat.zero_le _) (by omega) (by omega), pu_some, ite10, pu_inb (by omega) (by decide), pu_bnd, nI_clamp (by omega), eM, show f_X6_within (nI y) 0 (nI (hmax k)) = some 1 from k_wi (a := 0) (Nat.zero_le _) hy (by omega), pu_some, ite10, b1, pu_some, b3, et, pu_some, ec, pu_some, pu_let]
theorem stH_G {v : VS} {c t : Nat} (g : G v) (gn : GN c t v) {x k y : Nat} (hk : k < 4) (hy : y ≤ hmax k) : G (wn v k x (nI y)) ∧ GN c t (wn v k x (nI y)) := by
  refine ⟨?_, GN_upd gn (pu_wn_k _ _ _ _ (by omega)) (pu_wn_k _ _ _ _ (by omega)) (fun j => pu_wn_k _ _ _ _ (by omega)) (Nat.le_refl _) (Nat.le_refl _)⟩
  refine G_upd g (fun j => pu_wn_k _ _ _ _ (by omega)) (Or.inr ?_) (Or.inl fun k' j _ _ => pu_wn_k _ _ _ _ (by omega)) (Or.inl fun k' j _ _ => pu_wn_k _ _ _ _ (by omega)) (Or.inl fun j => pu_wn_k _ _ _ _ (by omega)) (fun k' j _ _ => pu_wn_k _ _ _ _ (by omega))
  intro j hj
  rw [show hsz (wn v k x (nI y)) = hsz v from hsz_congr (pu_wn_k _ _ _ _ (by omega))] at hj
  obtain ⟨q1, q2, q3, q4, q5, q6⟩ := g.2.1 j hj
  unfold hmax at hy
  simp only [pu_wn]
  rw [if_neg (show ¬ (5 = k ∧ j = x) by omega), if_neg (show ¬ (4 = k ∧ j = x) by omega)]
  refine ⟨?_, ?_, ?_, ?_, q5, q6⟩
  · split
    · rename_i c; exact ⟨y, by rw [← c.1, if_pos rfl] at hy; omega, rfl⟩
    · exact q1
  · split
    · rename_i c; exact ⟨y, by rw [← c.1, if_neg (by decide), if_pos rfl] at hy; omega, rfl⟩
    · exact q2
  · split
    · rename_i c; exact ⟨y, by rw [← c.1, if_neg (by decide), if_neg (by decide), if_pos rfl] at hy; omega, rfl⟩
    · exact q3
  · split
    · rename_i c; exact ⟨y, by rw [← c.1, if_neg (by decide), if_neg (by decide), if_neg (by decide)] at hy; omega, rfl⟩
    · exact q4
/-- set -/
def smax (k : Nat) : Nat := if k = 0 then 50 else 100
theorem k_set {S : PS} (h : HI S) {k y : Nat} (hk : k < 4) (hy : y ≤ smax k) : ∃ S', f_X6_set S (nI k) (nI y) = some (S.1 0 17 k, S') ∧ HI S' ∧ S'.1 0 = wn (S.1 0) 17 k (nI y) := by
  obtain ⟨S1, b1, b2, b3⟩ := hi_record h
  refine ⟨setV S1 0 (wn (S.1 0) 17 k (nI y)), ?_, hi_set b2 _, setV_at _ _ _⟩
  have hM : smax k ≤ 100 := by unfold smax; split <;> omega
  have eM : stSM k = nI (smax k) := by
    rcases (show k = 0 ∨ k = 1 ∨ k = 2 ∨ k = 3 by omega) with e | e | e | e <;> subst e <;> rfl
  unfold f_X6_set f_X6_isSetting
  rw [show f_X6_within (nI k) 0 3 = some 1 from k_wi (a := 0) (b := 3) (Nat.zero_le _) (by omega) (by omega), pu_some, pu_some, ite10, pu_inb (by omega) (by decide), pu_bnd, nI_clamp (by omega), eM, show f_X6_within (nI y) 0 (nI (smax k)) = some 1 from k_wi (a := 0) (Nat.zero_le _) hy (by omega), pu_some, ite10, b1, pu_some, b3, pu_bnd, pu_let, pu_bnd, pu_let, pu_rd (by omega), pu_wr (by omega)]
theorem st_G {v : VS} {c t : Nat} (g : G v) (gn : GN c t v) {k y : Nat} (hk : k < 4) (hy : y ≤ smax k) : G (wn v 17 k (nI y)) ∧ GN c t (wn v 17 k (nI y)) := by
  refine ⟨?_, GN_upd gn (pu_wn_k _ _ _ _ (by decide)) (pu_wn_k _ _ _ _ (by decide)) (fun j => pu_wn_k _ _ _ _ (by decide)) (Nat.le_refl _) (Nat.le_refl _)⟩
  refine G_upd g (fun j => pu_wn_k _ _ _ _ (by decide)) (Or.inl fun k' j hk' => pu_wn_k _ _ _ _ (by omega)) (Or.inl fun k' j _ _ => pu_wn_k _ _ _ _ (by omega)) (Or.inl fun k' j _ _ => pu_wn_k _ _ _ _ (by omega)) (Or.inr ?_) (fun k' j _ _ => pu_wn_k _ _ _ _ (by omega))
  obtain ⟨_, _, _, _, gs, _⟩ := g
  have hM : smax k ≤ 100 := by unfold smax; split <;> omega
  refine ⟨?_, fun j hj => ?_⟩
  · rw [pu_wn]
    by_cases hk0 : k = 0
    · subst hk0
      exact ⟨y, hy, if_pos ⟨rfl, rfl⟩⟩
    · rw [if_neg (by omega)]; exact gs.1
  · rw [pu_wn]
    by_cases hj2 : j = k
    · exact ⟨y, by omega, if_pos ⟨rfl, hj2⟩⟩
    · rw [if_neg (fun z => hj2 z.2)]; exact gs.2 j hj
/-- setBattery -/
theorem jmax0_sub {q c : Nat} (hq : q < 2 ^ 30) (hc : c < 2 ^ 30) : jmax 0 (nI q - nI c) = nI (q - c) := by
  rw [jmax0]
  have e := pk_sub_toInt hq hc
  by_cases h : c ≤ q
  · rw [if_pos (by rw [Int32.le_iff_toInt_le, e]; show (0 : Int) ≤ _; omega), pk_sub h]
  · rw [if_neg (by rw [Int32.le_iff_toInt_le, e]; show ¬ (0 : Int) ≤ _; omega), show q - c = 0 by omega]
    rfl
def blo (k : Nat) : Nat := if k = 2 then 50 else 0
def bhi (k : Nat) : Nat := if k = 0 then 500 else 100
def sbC (v : VS) (b k y : Nat) : Nat := if k = 0 then y else (v 13 b).toNatClampNeg
def sbQ (v : VS) (b : Nat) : Nat := (v 16 b).toNatClampNeg
def sbV (v : VS) (b k y : Nat) : VS := wn (wn (wn v (13 + k) b (nI y)) 16 b (nI (sbQ v b - (sbQ v b - sbC v b k y)))) 18 4 (v 18 4 + nI (sbQ v b - sbC v b k y))
theorem sb_nat {v : VS} (gb : GB v) {b k y : Nat} (hb : b < 2) (hk : k < 3) (hy1 : blo k ≤ y) (hy2 : y ≤ bhi k) : sbC v b k y ≤ 500 ∧ sbQ v b ≤ 500 ∧ v 16 b = nI (sbQ v b) ∧ wn v (13 + k) b (nI y) 13 b = nI (sbC v b k y) := by
  obtain ⟨c, r, e, q, g1, g2, g3, g4, g5, e1, e2, e3, e4⟩ := gb b hb
  have hq : sbQ v b = q := by unfold sbQ; rw [e4, nI_clamp (by omega)]
  unfold sbC
  rw [hq, e1, nI_clamp (by omega), pu_wn]
  unfold bhi at hy2
  by_cases hk0 : k = 0
  · subst hk0
    rw [if_pos rfl] at hy2
    exact ⟨by rw [if_pos rfl]; exact hy2, by omega, e4, by rw [if_pos ⟨rfl, rfl⟩, if_pos rfl]⟩
  · exact ⟨by rw [if_neg hk0]; exact g1, by omega, e4, by rw [if_neg (by omega), if_neg hk0]; exact e1⟩
theorem k_setBattery {S : PS} (h : HI S) (gb : GB (S.1 0)) {b k y : Nat} (hb : b < 2) (hk : k < 3) (hy1 : blo k ≤ y) (hy2 : y ≤ bhi k) : ∃ S', f_X6_setBattery S (nI b) (nI k) (nI y) = some (S.1 0 (13 + k) b, S') ∧ HI S' ∧ S'.1 0 = sbV (S.1 0) b k y := by
  obtain ⟨S1, b1, b2, b3⟩ := hi_record h
  obtain ⟨n1, n2, n3, n4⟩ := sb_nat gb hb hk hy1 hy2
  refine ⟨setV S1 0 (sbV (S.1 0) b k y), ?_, hi_set b2 _, setV_at _ _ _⟩
  have hM : bhi k ≤ 500 := by unfold bhi; split <;> omega
  have hk3 : k = 0 ∨ k = 1 ∨ k = 2 := by omega
  have eL : stBL k = nI (blo k) := by rcases hk3 with e | e | e <;> subst e <;> rfl
  have eM : stBM k = nI (bhi k) := by rcases hk3 with e | e | e <;> subst e <;> rfl
  have et : f_X0_told (S.1 0) (nI b) (nI k) = some (S.1 0 (13 + k) b) := by
    rcases hk3 with e | e | e <;> subst e <;> (unfold f_X0_told; simp (disch := omega) only [pu_lit, nI_eq, Nat.reduceEqDiff, if_true, if_false, pu_inb, pu_bnd, pu_rd])
  have ec : f_X0_change (S.1 0) (nI b) (nI k) (nI y) = some (wn (S.1 0) (13 + k) b (nI y)) := by
    rcases hk3 with e | e | e <;> subst e <;> (unfold f_X0_change; simp (disch := omega) only [pu_lit, nI_eq, Nat.reduceEqDiff, if_true, if_false, pu_inb, pu_bnd, pu_wr, pu_let])
  have h16 : wn (S.1 0) (13 + k) b (nI y) 16 b = nI (sbQ (S.1 0) b) := by rw [pu_wn, if_neg (by omega)]; exact n3
  have h18 : ∀ i, wn (S.1 0) (13 + k) b (nI y) 18 i = S.1 0 18 i := fun i => pu_wn_k _ _ _ _ (by omega)
  unfold f_X6_setBattery f_X6_isBattery
  rw [show f_X6_within (nI b) 0 1 = some 1 from k_wi (a := 0) (b := 1) (Nat.zero_le _) (by omega) (by omega), pu_some, pu_some, ite10, show f_X6_within (nI k) 0 2 = some 1 from k_wi (a := 0) (b := 2) (Nat.zero_le _) (by omega) (by omega), pu_some, ite10, pu_inb (by omega) (by decide), pu_bnd, pu_bnd, nI_clamp (by omega), eL, eM, k_wi hy1 hy2 (by omega), pu_some, ite10, b1, pu_some, b3, et, pu_some, ec, pu_some, pu_let]
  unfold f_X0_discardExcess
  simp (disch := omega) only [pu_lit, pu_inb, pu_bnd, pu_rd, pu_wr, pu_let, setV_at, h16, n4]
  rw [show jmax (nI 0) (nI (sbQ (S.1 0) b) - nI (sbC (S.1 0) b k y)) = nI (sbQ (S.1 0) b - sbC (S.1 0) b k y) from jmax0_sub (by omega) (by omega), pu_some]
  simp (disch := omega) only [setV_at, setV_up, pk_sub, h18, pu_wr]
  rfl
theorem sbV_k (v : VS) (b k y : Nat) {k' j : Nat} (h1 : k' ≠ 13 + k) (h2 : k' ≠ 16) (h3 : ¬ (k' = 18 ∧ j = 4)) : sbV v b k y k' j = v k' j := by
  unfold sbV
  rw [pu_wn, if_neg h3, pu_wn_k _ _ _ _ h2, pu_wn_k _ _ _ _ h1]
theorem sbV_G {v : VS} {c t : Nat} (g : G v) (gn : GN c t v) {b k y : Nat} (hb : b < 2) (hk : k < 3) (hy1 : blo k ≤ y) (hy2 : y ≤ bhi k) : G (sbV v b k y) ∧ GN c t (sbV v b k y) := by
  obtain ⟨n1, n2, n3, n4⟩ := sb_nat g.2.2.2.1 hb hk hy1 hy2
  have sk : ∀ k' j, k' < 13 ∨ k' = 17 ∨ 18 < k' → sbV v b k y k' j = v k' j := fun k' j h => sbV_k v b k y (by omega) (by omega) (by omega)
  refine ⟨?_, GN_upd gn (sk 22 0 (by omega)) (sk 22 3 (by omega)) (fun j => sk 4 j (by omega)) (Nat.le_refl _) (Nat.le_refl _)⟩
  refine G_upd g (fun j => sk 22 j (by omega)) (Or.inl fun k' j hk' => sk k' j (by omega)) (Or.inl fun k' j h1 h2 => sk k' j (by omega)) (Or.inr ?_) (Or.inl fun j => sk 17 j (by omega)) (fun k' j h1 h2 => sk k' j (by omega))
  intro i hi
  obtain ⟨ci, ri, ei, qi, f1, f2, f3, f4, f5, d1, d2, d3, d4⟩ := g.2.2.2.1 i hi
  unfold blo at hy1
  unfold bhi at hy2
  unfold sbV
  have p18 : ∀ (w : VS) (k' : Nat) (x : Int32), k' < 18 → wn w 18 4 x k' i = w k' i := fun w k' x hk' => pu_wn_k _ _ _ _ (by omega)
  rw [p18 _ 13 _ (by decide), p18 _ 14 _ (by decide), p18 _ 15 _ (by decide), p18 _ 16 _ (by decide)]
  by_cases hib : i = b
  · subst hib
    have p16 : ∀ (w : VS) (k' : Nat) (x : Int32), k' ≠ 16 → wn w 16 i x k' i = w k' i := fun w k' x hk' => pu_wn_k _ _ _ _ hk'
    rw [pu_wn_s, p16 _ 13 _ (by decide), p16 _ 14 _ (by decide), p16 _ 15 _ (by decide), n4]
    have e14 : ∃ r', r' ≤ 100 ∧ wn v (13 + k) i (nI y) 14 i = nI r' := by
      rw [pu_wn]
      split
      · rename_i cc; exact ⟨y, by rw [if_neg (by omega)] at hy2; omega, rfl⟩
      · exact ⟨ri, f2, d2⟩
    have e15 : ∃ e', 50 ≤ e' ∧ e' ≤ 100 ∧ wn v (13 + k) i (nI y) 15 i = nI e' := by
      rw [pu_wn]
      split
      · rename_i cc; exact ⟨y, by rw [if_pos (by omega)] at hy1; omega, by rw [if_neg (by omega)] at hy2; omega, rfl⟩
      · exact ⟨ei, f3, f4, d3⟩
    obtain ⟨r', r1', r2'⟩ := e14
    obtain ⟨e', e1', e2', e3'⟩ := e15
    exact ⟨_, r', e', _, n1, r1', e1', e2', by omega, rfl, r2', e3', rfl⟩
  · rw [pu_wn_j _ _ _ _ hib, pu_wn_j _ _ _ _ hib, pu_wn_j _ _ _ _ hib, pu_wn_j _ _ _ _ hib, pu_wn_j _ _ _ _ hib, pu_wn_j _ _ _ _ hib, pu_wn_j _ _ _ _ hib, pu_wn_j _ _ _ _ hib]
    exact ⟨ci, ri, ei, qi, f1, f2, f3, f4, f5, d1, d2, d3, d4⟩
theorem bal_sb (a b c d e f g x y : Int32) (h : a = b + c + d + e + (f + g)) (h2 : f = y + x) : a = b + c + d + (e + x) + (y + g) := by
  subst h
  subst h2
  grind
theorem bal_sb' (a b c d e f g x y : Int32) (h : a = b + c + d + e + (f + g)) (h2 : g = y + x) : a = b + c + d + (e + x) + (f + y) := by
  subst h
  subst h2
  grind
theorem sbV_BAL {v : VS} (bal : BAL v) (gb : GB v) {b k y : Nat} (hb : b < 2) (hk : k < 3) (hy1 : blo k ≤ y) (hy2 : y ≤ bhi k) : BAL (sbV v b k y) := by
  obtain ⟨n1, n2, n3, n4⟩ := sb_nat gb hb hk hy1 hy2
  have e18 : ∀ j, j ≠ 4 → sbV v b k y 18 j = v 18 j := fun j hj => sbV_k v b k y (by omega) (by decide) (by omega)
  have e4 : sbV v b k y 18 4 = v 18 4 + nI (sbQ v b - sbC v b k y) := pu_wn_s _ _ _ _
  have e16 : ∀ j, j ≠ b → sbV v b k y 16 j = v 16 j := fun j hj => by
    unfold sbV
    rw [pu_wn_k _ _ _ _ (by decide), pu_wn_j _ _ _ _ hj, pu_wn_k _ _ _ _ (by omega)]
  have eb : sbV v b k y 16 b = nI (sbQ v b - (sbQ v b - sbC v b k y)) := by
    unfold sbV
    rw [pu_wn_k _ _ _ _ (by decide), pu_wn_s]
  have es : v 16 b = nI (sbQ v b - (sbQ v b - sbC v b k y)) + nI (sbQ v b - sbC v b k y) := by
    rw [n3, nI_add]
    exact congrArg nI (by omega)
  unfold BAL
  rw [e18 0 (by decide), e18 1 (by decide), e18 2 (by decide), e18 3 (by decide), e4]
  rcases (show b = 0 ∨ b = 1 by omega) with rfl | rfl
  · rw [eb, e16 1 (by decide)]
    exact bal_sb _ _ _ _ _ _ _ _ _ bal es
  · rw [eb, e16 0 (by decide)]
    exact bal_sb' _ _ _ _ _ _ _ _ _ bal es
/-- buy -/
theorem k_buy {S : PS} (h : HI S) (g : G (S.1 0)) {p x : Nat} (hp : p < hsz (S.1 0)) (hx1 : 1 ≤ x) (hx : x ≤ 500) : ∃ S', f_X6_buy S (nI p) (nI x) = some (TK (S.1 0) p x 4 p, S') ∧ HI S' ∧ S'.1 0 = TK (S.1 0) p x := by
  obtain ⟨S1, b1, b2, b3⟩ := hi_record h
  have h10 := g.1.2.1
  refine ⟨setV S1 0 (TK (S.1 0) p x), ?_, hi_set b2 _, setV_at _ _ _⟩
  unfold f_X6_buy
  rw [k_isHouse g.1 hp, pu_some, ite10, show f_X6_within (nI x) 1 500 = some 1 from k_wi (a := 1) (b := 500) hx1 hx (by omega), pu_some, ite10, b1, pu_some, b3, sp_token g hp hx, pu_some, pu_let, pu_inb (by omega : p < 10) (by decide), pu_bnd, setV_at, pu_rd (by omega)]
theorem TK_row {v : VS} (g : G v) {c t p x : Nat} (gn : GN c t v) (hp : p < hsz v) (hc : c ≤ 600000) (hx : x ≤ 500) {k j : Nat} (h1 : ¬ (10 ≤ k ∧ k < 13)) (h2 : ¬ (k = 22 ∧ j = 1)) (h3 : k ≠ 2) (h4 : k ≠ 4) (h18 : ¬ (k = 18 ∧ (j = 6 ∨ j = 7))) : TK v p x k j = v k j := by
  obtain ⟨r1, r2, r3, _⟩ := tkR g gn hp hc hx
  unfold TK tkE
  rw [pu_wn, if_neg (by omega), pu_wn, if_neg (by omega), pu_wn_k _ _ _ _ h4]
  exact tkR_22 r3 h1 h2 (Or.inl h3) h4
/-- run -/
theorem k_run {S : PS} (h : HI S) {a c t : Nat} (g : G (S.1 0)) (gn : GN c t (S.1 0)) (ha1 : 1 ≤ a) (ha : a ≤ 100) (ht : t < 2 ^ 28) : ∃ S', f_X6_run S (nI a) = some (PHn a (S.1 0) 18 1 - S.1 0 18 1, S') ∧ HI S' ∧ S'.1 0 = PHn a (S.1 0) := by
  obtain ⟨S1, b1, b2, b3⟩ := hi_record h
  refine ⟨setV S1 0 (PHn a (S.1 0)), ?_, hi_set b2 _, setV_at _ _ _⟩
  have hp := sp_passHours (c := c) (a := a) (by omega) a 0 fuel t (S.1 0) (by omega) (fuel_gt (by omega)) g gn (by omega)
  unfold f_X6_run
  rw [show f_X6_within (nI a) 1 100 = some 1 from k_wi (a := 1) (b := 100) ha1 ha (by omega), pu_some, ite10, b1, pu_some, b3]
  unfold f_X5_passHours
  rw [show (0 : Int32) = nI 0 from rfl, hp]
  simp (disch := omega) only [pu_some, pu_let, pu_lit, pu_inb, pu_bnd, pu_rd, setV_at]
/-- lend -/
def lnV (v : VS) (a b p : Nat) : VS := wn (wn (wn (wn (wn (wn v 4 a (v 4 a - nI p)) 4 b (v 4 b + nI p)) 10 (lsz v) (nI a)) 11 (lsz v) (nI b)) 12 (lsz v) (nI p)) 22 1 (nI (lsz v + 1))
theorem k_lend_eq {S : PS} (g : GA (S.1 0)) {a : Nat} (ha : a < hsz (S.1 0)) (p : Int32) : f_X6_lend S (nI a) (nI a) p = some (-1000002, S) := by
  unfold f_X6_lend
  rw [k_isHouse g ha, pu_some, ite10, pu_some, ite10, if_pos rfl]
theorem k_lend_few {S : PS} (g : GA (S.1 0)) {a b p : Nat} (ha : a < hsz (S.1 0)) (hb : b < hsz (S.1 0)) (hab : a ≠ b) (hp1 : 1 ≤ p) (hp : p ≤ 200) (hc : ¬ nI p ≤ S.1 0 4 a) : f_X6_lend S (nI a) (nI b) (nI p) = some (-1000003, S) := by
  have h10 := g.2.1
  unfold f_X6_lend
  rw [k_isHouse g ha, k_isHouse g hb, pu_some, ite10, pu_some, ite10, if_neg (fun z => hab (nI_inj0 (by omega) (by omega) z)), show f_X6_within (nI p) 1 200 = some 1 from k_wi (a := 1) (b := 200) hp1 hp (by omega), pu_some, ite10, pu_inb (by omega) (by decide), pu_bnd, pu_rd (by omega), if_neg hc]
theorem k_lend {S : PS} (h : HI S) (g : GA (S.1 0)) {a b p : Nat} (ha : a < hsz (S.1 0)) (hb : b < hsz (S.1 0)) (hab : a ≠ b) (hp1 : 1 ≤ p) (hp : p ≤ 200) (hc : nI p ≤ S.1 0 4 a) (hm : lsz (S.1 0) < 12) : ∃ S', f_X6_lend S (nI a) (nI b) (nI p) = some (nI (lsz (S.1 0) + 1), S') ∧ HI S' ∧ S'.1 0 = lnV (S.1 0) a b p := by
  obtain ⟨S1, b1, b2, b3⟩ := hi_record h
  have h10 := g.2.1
  refine ⟨setV S1 0 (lnV (S.1 0) a b p), ?_, hi_set b2 _, setV_at _ _ _⟩
  have e4b : (wn (S.1 0) 4 a (S.1 0 4 a - nI p)) 4 b = S.1 0 4 b := pu_wn_j _ _ _ _ (fun z => hab z.symm)
  unfold f_X6_lend
  rw [k_isHouse g ha, k_isHouse g hb, pu_some, ite10, pu_some, ite10, if_neg (fun z => hab (nI_inj0 (by omega) (by omega) z)), show f_X6_within (nI p) 1 200 = some 1 from k_wi (a := 1) (b := 200) hp1 hp (by omega), pu_some, ite10, pu_inb (by omega) (by decide), pu_bnd, pu_rd (by omega), if_pos hc, g.2.2.1, if_pos (show nI (lsz (S.1 0)) < 12 from nI_lt hm (by decide)), b1, pu_some, b3]
  have e22 : ∀ (x y : Int32), wn (wn (S.1 0) 4 a x) 4 b y 22 1 = nI (lsz (S.1 0)) := fun x y => by rw [pu_wn_k _ _ _ _ (by decide), pu_wn_k _ _ _ _ (by decide), g.2.2.1]
  have e22a : ∀ (u : VS) x k j, k ≠ 22 → u 22 1 = nI (lsz (S.1 0)) → wn u k j x 22 1 = nI (lsz (S.1 0)) := fun u x k j hk hu => by rw [pu_wn_k _ _ _ _ (Ne.symm hk)]; exact hu
  obtain ⟨V, hV⟩ : ∃ V, V = wn (wn (S.1 0) 4 a (S.1 0 4 a - nI p)) 4 b (S.1 0 4 b + nI p) := ⟨_, rfl⟩
  have eV : V 22 1 = nI (lsz (S.1 0)) := by rw [hV]; exact e22 _ _
  have eA := e22a V (nI a) 10 (lsz (S.1 0)) (by decide) eV
  have eB := e22a _ (nI b) 11 (lsz (S.1 0)) (by decide) eA
  have eC := e22a _ (nI p) 12 (lsz (S.1 0)) (by decide) eB
  simp (disch := omega) only [pu_inb, pu_bnd, pu_rd, pu_wr, pu_let, setV_at, setV_up, e4b]
  rw [← hV]
  unfold f_X4_add
  simp (disch := omega) only [eV, eA, eB, eC, pu_inb, pu_bnd, pu_wr, pu_let, nI_1, pu_some, setV_at, setV_up, pu_wn_s]
  rw [hV]
  rfl
theorem lnV_k (v : VS) (a b p : Nat) {k j : Nat} (h4 : k ≠ 4) (h22 : ¬ (k = 22 ∧ j = 1)) (hl : ¬ (10 ≤ k ∧ k < 13 ∧ j = lsz v)) : lnV v a b p k j = v k j := by
  unfold lnV
  rw [pu_wn, if_neg h22, pu_wn, if_neg (by omega), pu_wn, if_neg (by omega), pu_wn, if_neg (by omega), pu_wn_k _ _ _ _ h4, pu_wn_k _ _ _ _ h4]
theorem lnV_G {v : VS} {c t : Nat} (g : G v) (gn : GN c t v) (hcc : c ≤ 600000) {a b p : Nat} (ha : a < hsz v) (hb : b < hsz v) (hab : a ≠ b) (hp1 : 1 ≤ p) (hp : p ≤ 200) (hc : nI p ≤ v 4 a) (hm : lsz v < 12) : G (lnV v a b p) ∧ GN (c + 200) t (lnV v a b p) ∧ lsz (lnV v a b p) = lsz v + 1 := by
  have ga := g.1
  have h10' := ga.2.1
  obtain ⟨W, hW⟩ : ∃ W, W = lnV v a b p := ⟨_, rfl⟩
  have ws : ∀ k j, k ≠ 4 → ¬ (k = 22 ∧ j = 1) → ¬ (10 ≤ k ∧ k < 13 ∧ j = lsz v) → W k j = v k j := fun k j q0 q1 q2 => by rw [hW]; exact lnV_k v a b p q0 q1 q2
  have w1 : W 22 1 = nI (lsz v + 1) := by rw [hW]; exact pu_wn_s _ _ _ _
  have w10 : W 10 (lsz v) = nI a := by rw [hW]; unfold lnV; rw [pu_wn_k _ _ _ _ (by decide), pu_wn_k _ _ _ _ (by decide), pu_wn_k _ _ _ _ (by decide), pu_wn_s]
  have w11 : W 11 (lsz v) = nI b := by rw [hW]; unfold lnV; rw [pu_wn_k _ _ _ _ (by decide), pu_wn_k _ _ _ _ (by decide), pu_wn_s]
  have w12 : W 12 (lsz v) = nI p := by rw [hW]; unfold lnV; rw [pu_wn_k _ _ _ _ (by decide), pu_wn_s]
  have w4 : ∀ j, W 4 j = wn (wn v 4 a (v 4 a - nI p)) 4 b (v 4 b + nI p) 4 j := fun j => by rw [hW]; unfold lnV; rw [pu_wn_k _ _ _ _ (by decide), pu_wn_k _ _ _ _ (by decide), pu_wn_k _ _ _ _ (by decide), pu_wn_k _ _ _ _ (by decide)]
  have hhW : hsz W = hsz v := hsz_congr (ws 22 0 (by decide) (by decide) (by omega))
  have hlW : lsz W = lsz v + 1 := by unfold lsz; rw [w1, nI_clamp (by omega)]; rfl
  have hqW : qsz W = qsz v := by unfold qsz; rw [ws 22 2 (by decide) (by decide) (by omega)]
  have hrW : hrz W = hrz v := by unfold hrz; rw [ws 22 3 (by decide) (by decide) (by omega)]
  have h4 : ∀ j, j < hsz v → -50 ≤ (W 4 j).toInt ∧ (W 4 j).toInt ≤ ((c + 200 : Nat) : Int) := fun j hj => by
    obtain ⟨_, _, _, _, _, q6⟩ := g.2.1 j hj
    have q7 := gn.1 j hj
    have hpI : (nI p).toInt = p := nI_toInt (by omega)
    rw [w4, pu_wn, pu_wn]
    by_cases cb : j = b
    · subst cb
      rw [if_pos ⟨rfl, rfl⟩, Int32.toInt_add, hpI, show ((v 4 j).toInt + (p : Int)).bmod (2 ^ 32) = (v 4 j).toInt + p from Int.bmod_eq_of_le (by omega) (by omega)]
      omega
    · rw [if_neg (fun z => cb z.2)]
      by_cases ca : j = a
      · subst ca
        rw [Int32.le_iff_toInt_le, hpI] at hc
        rw [if_pos ⟨rfl, rfl⟩, Int32.toInt_sub, hpI, show ((v 4 j).toInt - (p : Int)).bmod (2 ^ 32) = (v 4 j).toInt - p from Int.bmod_eq_of_le (by omega) (by omega)]
        omega
      · rw [if_neg (fun z => ca z.2)]
        omega
  rw [← hW]
  refine ⟨⟨⟨?_, ?_, ?_, ?_, ?_, ?_, ?_, ?_, ?_, ?_⟩, ?_, ?_, ?_, ?_, ?_, ?_⟩, ⟨?_, ?_⟩, hlW⟩
  · rw [ws 22 0 (by decide) (by decide) (by omega), hhW]; exact ga.1
  · rw [hhW]; exact ga.2.1
  · rw [w1, hlW]
  · rw [hlW]; omega
  · rw [ws 22 2 (by decide) (by decide) (by omega), hqW]; exact ga.2.2.2.2.1
  · rw [hqW]; exact ga.2.2.2.2.2.1
  · rw [hqW]; exact ga.2.2.2.2.2.2.1
  · rw [ws 22 3 (by decide) (by decide) (by omega), hrW]; exact ga.2.2.2.2.2.2.2.1
  · rw [hrW]; exact ga.2.2.2.2.2.2.2.2.1
  · rw [ws 22 4 (by decide) (by decide) (by omega)]; exact ga.2.2.2.2.2.2.2.2.2
  · intro j hj
    rw [hhW] at hj
    obtain ⟨q1, q2, q3, q4, q5, q6⟩ := g.2.1 j hj
    rw [ws 0 j (by decide) (by omega) (by omega), ws 1 j (by decide) (by omega) (by omega), ws 2 j (by decide) (by omega) (by omega), ws 3 j (by decide) (by omega) (by omega), ws 5 j (by decide) (by omega) (by omega)]
    exact ⟨q1, q2, q3, q4, q5, (h4 j hj).1⟩
  · intro k hk2
    rw [hlW] at hk2
    rw [hhW]
    by_cases hkm : k = lsz v
    · subst hkm
      rw [w10, w11, w12]
      exact ⟨a, b, p, ha, hb, hab, hp1, hp, rfl, rfl, rfl⟩
    · rw [ws 10 k (by decide) (by omega) (by omega), ws 11 k (by decide) (by omega) (by omega), ws 12 k (by decide) (by omega) (by omega)]
      exact g.2.2.1 k (by omega)
  · intro i hi
    rw [ws 13 i (by decide) (by omega) (by omega), ws 14 i (by decide) (by omega) (by omega), ws 15 i (by decide) (by omega) (by omega), ws 16 i (by decide) (by omega) (by omega)]
    exact g.2.2.2.1 i hi
  · exact ⟨by rw [ws 17 0 (by decide) (by omega) (by omega)]; exact g.2.2.2.2.1.1, fun k hk2 => by rw [ws 17 k (by decide) (by omega) (by omega)]; exact g.2.2.2.2.1.2 k hk2⟩
  · exact ⟨by rw [ws 19 0 (by decide) (by omega) (by omega)]; exact g.2.2.2.2.2.1.1, fun k hk2 => by rw [ws 20 k (by decide) (by omega) (by omega)]; exact g.2.2.2.2.2.1.2 k hk2⟩
  · intro k hk2
    rw [hqW] at hk2
    rw [ws 21 k (by decide) (by omega) (by omega)]
    exact g.2.2.2.2.2.2 k hk2
  · intro j hj
    rw [hhW] at hj
    exact (h4 j hj).2
  · rw [hrW]
    exact gn.2
