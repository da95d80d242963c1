/-! THE RELATION -/
def HK (c t : Nat) (v : VS) (z : Nat → Int32) : Prop := G v ∧ GN c t v ∧ VR v z
def RTx (S : PS) (R : RS) : Prop := ∃ L, L ≤ 60 ∧ S.1 12 2 0 = nI L ∧ R.1 7 2 = nI L ∧ ∀ i, i < L → (S.1 12 0 i = R.1 4 i ∧ ∃ c, 33 ≤ c ∧ c ≤ 126 ∧ R.1 4 i = nI c)
def RHi (n : Nat) (S : PS) (R : RS) : Prop := ∃ m, m ≤ 8 ∧ S.1 12 2 4 = nI m ∧ R.1 7 0 = nI m ∧ (∀ i, i < 8 → 4 ≤ S.2 i ∧ S.2 i < 12) ∧ (∀ i j, i < 8 → j < 8 → S.2 i = S.2 j → i = j) ∧ ∀ i, i < m → HK (1000 * n) (100 * n) (S.1 (S.2 i)) (fun q => R.1 2 (198 * i + q))
def RIm (n : Nat) (S : PS) (R : RS) : Prop := ∃ k0 k1, k0 < 2 ∧ k1 < 2 ∧ S.1 12 3 0 = nI k0 ∧ S.1 12 3 1 = nI k1 ∧ R.1 7 1 = nI (k0 + 2 * k1) ∧ (k0 = 1 → HK (1000 * n) (100 * n) (S.1 2) (fun q => R.1 3 q)) ∧ (k1 = 1 → HK (1000 * n) (100 * n) (S.1 3) (fun q => R.1 3 (198 + q)))
def Rel (n : Nat) (S : PS) (R : RS) : Prop := HK (1000 * n) (100 * n) (S.1 0) (R.1 0) ∧ RTx S R ∧ RHi n S R ∧ RIm n S R
theorem GN.mono {c t c' t' : Nat} {v : VS} (h : GN c t v) (hc : c ≤ c') (ht : t ≤ t') : GN c' t' v := ⟨fun j hj => by have := h.1 j hj; omega, by have := h.2; omega⟩
theorem HK.mono {c t c' t' : Nat} {v : VS} {z : Nat → Int32} (h : HK c t v z) (hc : c ≤ c') (ht : t ≤ t') : HK c' t' v z := ⟨h.1, h.2.1.mono hc ht, h.2.2⟩
def Fs (R R' : RS) : Prop := (∀ k, k = 2 ∨ k = 3 ∨ k = 4 → R'.1 k = R.1 k) ∧ ∀ j, j < 3 → R'.1 7 j = R.1 7 j
theorem Fs.rfl' (R : RS) : Fs R R := ⟨fun _ _ => rfl, fun _ _ => rfl⟩
theorem Fs.trans {R R' R'' : RS} (h : Fs R R') (h' : Fs R' R'') : Fs R R'' := ⟨fun k hk => (h'.1 k hk).trans (h.1 k hk), fun j hj => (h'.2 j hj).trans (h.2 j hj)⟩
theorem Fr.s {R R' : RS} (h : Fr R R') : Fs R R' := ⟨fun k hk => h.2 k (by omega) (by omega), fun j _ => by rw [h.2 7 (by decide) (by decide)]⟩
theorem setV_ne (S : PS) {i j : Nat} (v : VS) (h : j ≠ i) : (setV S i v).1 j = S.1 j := by
  show va_up S.1 i v j = _
  simp [va_up, h]
theorem setV_2 (S : PS) (i : Nat) (v : VS) : (setV S i v).2 = S.2 := rfl
/-- a new village for now (0) or ahead (1), and what the reference keeps -/
theorem rel_rest {n n' : Nat} {S : PS} {R R' : RS} (h : Rel n S R) (hn : n ≤ n') {i : Nat} (hi : i < 2) (w : VS) (fs : Fs R R') : RTx (setV S i w) R' ∧ RHi n' (setV S i w) R' ∧ RIm n' (setV S i w) R' := by
  obtain ⟨_, ⟨L, l1, l2, l3, l4⟩, ⟨m, m1, m2, m3, m4, m5, m6⟩, ⟨k0, k1, i1, i2, i3, i4, i5, i6, i7⟩⟩ := h
  refine ⟨⟨L, l1, ?_, ?_, ?_⟩, ⟨m, m1, ?_, ?_, m4, m5, ?_⟩, ⟨k0, k1, i1, i2, ?_, ?_, ?_, ?_, ?_⟩⟩
  · rw [setV_ne S w (by omega)]; exact l2
  · rw [fs.2 2 (by decide)]; exact l3
  · rw [setV_ne S w (by omega), fs.1 4 (by decide)]; exact l4
  · rw [setV_ne S w (by omega)]; exact m2
  · rw [fs.2 0 (by decide)]; exact m3
  · intro j hj
    have := m4 j (by omega)
    rw [setV_2, setV_ne S w (by omega), fs.1 2 (by decide)]
    exact (m6 j hj).mono (by omega) (by omega)
  · rw [setV_ne S w (by omega)]; exact i3
  · rw [setV_ne S w (by omega)]; exact i4
  · rw [fs.2 1 (by decide)]; exact i5
  · intro hk
    rw [setV_ne S w (by omega), fs.1 3 (by decide)]
    exact (i6 hk).mono (by omega) (by omega)
  · intro hk
    rw [setV_ne S w (by omega), fs.1 3 (by decide)]
    exact (i7 hk).mono (by omega) (by omega)
theorem rel_set {n n' : Nat} {S : PS} {R R' : RS} (h : Rel n S R) (hn : n ≤ n') {w : VS} (hw : HK (1000 * n') (100 * n') w (R'.1 0)) (fs : Fs R R') : Rel n' (setV S 0 w) R' := ⟨by rw [setV_at]; exact hw, rel_rest h hn (by decide) w fs⟩
theorem rel_ahead {n n' : Nat} {S : PS} {R R' : RS} (h : Rel n S R) (hn : n ≤ n') (w : VS) (h0 : R'.1 0 = R.1 0) (fs : Fs R R') : Rel n' (setV S 1 w) R' := ⟨by rw [setV_ne S w (by decide), h0]; exact h.1.mono (by omega) (by omega), rel_rest h hn (by decide) w fs⟩
theorem rel_mono {n n' : Nat} {S : PS} {R : RS} (h : Rel n S R) (hn : n ≤ n') : Rel n' S R := by
  have := rel_set h hn (w := S.1 0) (h.1.mono (by omega) (by omega)) (Fs.rfl' R)
  rw [setV_id] at this
  exact this
/-- villages that agree where it matters -/
def Ag (v w : VS) : Prop := ∀ k j, inR k j → w k j = v k j
theorem Ag.G {v w : VS} (h : Ag v w) (g : G v) : G w := by
  obtain ⟨ga, gh, gl, gb, gs, gt, gq⟩ := g
  have e22 : ∀ j, j < 5 → w 22 j = v 22 j := fun j hj => h 22 j (by unfold inR; omega)
  have hh : hsz w = hsz v := hsz_congr (e22 0 (by decide))
  have hl : lsz w = lsz v := by unfold lsz; rw [e22 1 (by decide)]
  have hq : qsz w = qsz v := by unfold qsz; rw [e22 2 (by decide)]
  have h10 := ga.2.1
  have h12 := ga.2.2.2.1
  have h48 := ga.2.2.2.2.2.2.1
  refine ⟨ga.congr (fun j hj => e22 j (by omega)) ⟨hrz v, ga.2.2.2.2.2.2.2.2.1, by rw [e22 3 (by decide)]; exact ga.2.2.2.2.2.2.2.1⟩ (by rw [e22 4 (by decide)]; exact ga.2.2.2.2.2.2.2.2.2), ?_, ?_, ?_, ?_, ?_, ?_⟩
  · intro j hj
    rw [hh] at hj
    rw [h 0 j (by unfold inR; omega), h 1 j (by unfold inR; omega), h 2 j (by unfold inR; omega), h 3 j (by unfold inR; omega), h 5 j (by unfold inR; omega), h 4 j (by unfold inR; omega)]
    exact gh j hj
  · intro k hk
    rw [hl] at hk
    rw [hh, h 10 k (by unfold inR; omega), h 11 k (by unfold inR; omega), h 12 k (by unfold inR; omega)]
    exact gl k hk
  · intro b hb
    rw [h 13 b (by unfold inR; omega), h 14 b (by unfold inR; omega), h 15 b (by unfold inR; omega), h 16 b (by unfold inR; omega)]
    exact gb b hb
  · refine ⟨by rw [h 17 0 (by unfold inR; omega)]; exact gs.1, fun k hk => by rw [h 17 k (by unfold inR; omega)]; exact gs.2 k hk⟩
  · refine ⟨by rw [h 19 0 (by unfold inR; omega)]; exact gt.1, fun f hf => by rw [h 20 f (by unfold inR; omega)]; exact gt.2 f hf⟩
  · intro k hk
    rw [hq] at hk
    rw [h 21 k (by unfold inR; omega)]
    exact gq k hk
theorem Ag.HK {v w : VS} {z : Nat → Int32} {c t : Nat} (h : Ag v w) (g : HK c t v z) : HK c t w z := by
  have e22 : ∀ j, j < 5 → w 22 j = v 22 j := fun j hj => h 22 j (by unfold inR; omega)
  have hh : hsz w = hsz v := hsz_congr (e22 0 (by decide))
  have ga := g.1.1
  have h10 := ga.2.1
  refine ⟨h.G g.1, ⟨fun j hj => ?_, ?_⟩, ?_⟩
  · rw [hh] at hj
    rw [h 4 j (by unfold inR; omega)]
    exact g.2.1.1 j hj
  · unfold hrz
    rw [e22 3 (by decide)]
    exact g.2.1.2
  · exact g.2.2.congr ⟨e22 0 (by decide), e22 1 (by decide), e22 2 (by decide)⟩ (fun k j hr => h k j (relv_inR ga hr))
theorem pu_cpy (v : VS) (k : Nat) (f : Nat → Int32) (n : Nat) (k' j' : Nat) : cpy v k f n k' j' = if k' = k ∧ j' < n then f j' else v k' j' := by
  unfold cpy va_up
  by_cases h : k' = k
  · subst h
    by_cases h2 : j' < n <;> simp [h2, va_cpy]
  · simp [h]
theorem k23 (k : Nat) (h : k < 23) : k = 0 ∨ k = 1 ∨ k = 2 ∨ k = 3 ∨ k = 4 ∨ k = 5 ∨ k = 6 ∨ k = 7 ∨ k = 8 ∨ k = 9 ∨ k = 10 ∨ k = 11 ∨ k = 12 ∨ k = 13 ∨ k = 14 ∨ k = 15 ∨ k = 16 ∨ k = 17 ∨ k = 18 ∨ k = 19 ∨ k = 20 ∨ k = 21 ∨ k = 22 := by omega
def cpV (u v : VS) : VS := wn (wn (wn (cpy (cpy (cpy (cpy (cpy (cpy (cpy (cpy (cpy (cpy (cpy (cpy (wn (cpy (cpy (cpy (cpy (cpy (cpy (cpy (cpy (wn u 22 0 (v 22 0)) 0 (v 0) 10) 1 (v 1) 10) 2 (v 2) 10) 3 (v 3) 10) 4 (v 4) 10) 5 (v 5) 10) 6 (v 6) 10) 7 (v 7) 10) 22 1 (v 22 1)) 10 (v 10) 12) 11 (v 11) 12) 12 (v 12) 12) 13 (v 13) 2) 14 (v 14) 2) 15 (v 15) 2) 16 (v 16) 2) 17 (v 17) 4) 18 (v 18) 8) 19 (v 19) 3) 20 (v 20) 3) 21 (v 21) 48) 22 2 (v 22 2)) 22 3 (v 22 3)) 22 4 (v 22 4)
theorem sp_copy {i j : Nat} (hij : i ≠ j) (S : PS) : ∃ w, f_X5_copy i j S = some (setV S i w) ∧ Ag (S.1 j) w := by
  have e1 : ∀ w, (setV S i w).1 i = w := fun w => setV_at S i w
  have e2 : ∀ w, (setV S i w).1 j = S.1 j := fun w => setV_ne S w (Ne.symm hij)
  refine ⟨cpV (S.1 i) (S.1 j), ?_, ?_⟩
  · simp only [f_X5_copy, f_X2_copy, f_X4_copy, f_X0_copy, f_X5_takeList, pu_let, pu_some, e1, e2, setV_up, cpV]
  intro k p hk
  simp only [cpV, pu_cpy, pu_wn]
  unfold inR at hk
  rcases k23 k (by omega) with h | h | h | h | h | h | h | h | h | h | h | h | h | h | h | h | h | h | h | h | h | h | h <;> subst h <;> first | (simp <;> omega) | (rcases (by omega : p = 0 ∨ p = 1 ∨ p = 2 ∨ p = 3 ∨ p = 4) with h | h | h | h | h <;> subst h <;> simp)
/-- the reference's copies -/
def cpR (R : RS) (k1 k3 a b q : Nat) : RS := (fun k j => if k = k3 ∧ b ≤ j ∧ j < b + q then R.1 k1 (a + (j - b)) else R.1 k j, R.2)
theorem cpR_ne (R : RS) {k1 k3 a b q k : Nat} (j : Nat) (h : k ≠ k3) : (cpR R k1 k3 a b q).1 k j = R.1 k j := if_neg (fun z => h z.1)
theorem sr_copy {k1 k3 : Nat} (hk : k1 ≠ k3) (R : RS) {a b : Nat} (ha : a + 198 ≤ rlen k1) (hb : b + 198 ≤ rlen k3) (h1 : rlen k1 < 2 ^ 31) (h3 : rlen k3 < 2 ^ 31) : f_X7_copy k1 k3 R (nI a) (nI b) = some (cpR R k1 k3 a b 198) := by
  have lp : ∀ (d q n : Nat), q + d = 198 → d < n → f_X7_copy_3 k1 k3 (nI a) (nI b) n (nI q) (cpR R k1 k3 a b q) = some (cpR R k1 k3 a b 198) := by
    intro d
    induction d with
    | zero =>
      intro q n hq hn
      obtain ⟨n, rfl⟩ : ∃ m, n = m + 1 := ⟨n - 1, by omega⟩
      obtain rfl : q = 198 := by omega
      simp (disch := omega) only [f_X7_copy_3, pu_bnd, pu_some, pu_let, pu_inb, pu_rd, pu_wr, nI_1, nI_leI, nI_ltI, nI_eq, pu_lit, nI_add, pk_mul, Nat.le_refl, if_true]
    | succ d ih =>
      intro q n hq hn
      obtain ⟨n, rfl⟩ : ∃ m, n = m + 1 := ⟨n - 1, by omega⟩
      have h2 : ¬ 198 ≤ q := by omega
      have er : (cpR R k1 k3 a b q).1 k1 (a + q) = R.1 k1 (a + q) := by
        show (if k1 = k3 ∧ _ then _ else _) = _
        rw [if_neg (fun z => hk z.1)]
      have est : setR (cpR R k1 k3 a b q) (wn (cpR R k1 k3 a b q).1 k3 (b + q) (R.1 k1 (a + q))) = cpR R k1 k3 a b (q + 1) := by
        refine Prod.ext (vs_ext fun k j => ?_) rfl
        show wn (cpR R k1 k3 a b q).1 k3 (b + q) (R.1 k1 (a + q)) k j = (if k = k3 ∧ b ≤ j ∧ j < b + (q + 1) then R.1 k1 (a + (j - b)) else R.1 k j)
        rw [pu_wn]
        show (if k = k3 ∧ j = b + q then R.1 k1 (a + q) else if k = k3 ∧ b ≤ j ∧ j < b + q then R.1 k1 (a + (j - b)) else R.1 k j) = _
        by_cases c1 : k = k3 ∧ j = b + q
        · rw [if_pos c1, if_pos (by omega), c1.2, show b + q - b = q by omega]
        · rw [if_neg c1]
          by_cases c2 : k = k3 ∧ b ≤ j ∧ j < b + q
          · rw [if_pos c2, if_pos (by omega)]
          · rw [if_neg c2, if_neg (by omega)]
      have e := ih (q + 1) n (by omega) (by omega)
      simp (disch := omega) only [f_X7_copy_3, pu_bnd, pu_some, pu_let, pu_inb, pu_rd, pu_wr, nI_1, nI_leI, nI_ltI, nI_eq, pu_lit, nI_add, pk_mul, h2, if_false, er, est]
      exact e
  have e0 : cpR R k1 k3 a b 0 = R := Prod.ext (vs_ext fun k j => by
    show (if k = k3 ∧ b ≤ j ∧ j < b + 0 then R.1 k1 (a + (j - b)) else R.1 k j) = _
    rw [if_neg (by omega)]) rfl
  have e := lp 198 0 fuel (by omega) (fuel_gt (by omega))
  rw [e0] at e
  exact e
/-! recording -/
theorem sr_record8 (R : RS) : ∃ R', f_X7_record_13 fuel (nI 198) R = f_X7_record_52 R' ∧ R'.2 = R.2 ∧ (∀ k, k ≠ 2 → k ≠ 7 → R'.1 k = R.1 k) ∧ (∀ j, R'.1 7 j = if j = 0 then R.1 7 0 - 1 else R.1 7 j) ∧ (∀ j, j < 1386 → R'.1 2 j = R.1 2 (j + 198)) := by
  have lp : ∀ (d x n : Nat) (Q : RS), x + d = 1584 → 198 ≤ x → d < n → Q.2 = R.2 → (∀ k, k ≠ 2 → Q.1 k = R.1 k) → (∀ j, Q.1 2 j = if j < x - 198 then R.1 2 (j + 198) else R.1 2 j) →
      ∃ R', f_X7_record_13 n (nI x) Q = f_X7_record_52 R' ∧ R'.2 = R.2 ∧ (∀ k, k ≠ 2 → k ≠ 7 → R'.1 k = R.1 k) ∧ (∀ j, R'.1 7 j = if j = 0 then R.1 7 0 - 1 else R.1 7 j) ∧ (∀ j, j < 1386 → R'.1 2 j = R.1 2 (j + 198)) := by
    intro d
    induction d with
    | zero =>
      intro x n Q hx h198 hn q1 q2 q3
      obtain ⟨n, rfl⟩ : ∃ m, n = m + 1 := ⟨n - 1, by omega⟩
      obtain rfl : x = 1584 := by omega
      refine ⟨setR Q (wn Q.1 7 0 (Q.1 7 0 - 1)), ?_, q1, ?_, ?_, ?_⟩
      · simp (disch := omega) only [f_X7_record_13, pu_bnd, pu_some, pu_let, pu_inb, pu_rd, pu_wr, nI_1, nI_leI, nI_ltI, nI_eq, pu_lit, nI_add, pk_mul, Nat.le_refl, if_true]
      · intro k h2 h7
        funext j
        show wn Q.1 7 0 _ k j = _
        rw [pu_wn_k _ _ _ _ h7, q2 k h2]
      · intro j
        show wn Q.1 7 0 _ 7 j = _
        rw [pu_wn, q2 7 (by decide)]
        simp
      · intro j hj
        show wn Q.1 7 0 (Q.1 7 0 - 1) 2 j = _
        rw [pu_wn_k _ _ _ _ (by decide), q3, if_pos (by omega)]
    | succ d ih =>
      intro x n Q hx h198 hn q1 q2 q3
      obtain ⟨n, rfl⟩ : ∃ m, n = m + 1 := ⟨n - 1, by omega⟩
      have h2 : ¬ 1584 ≤ x := by omega
      obtain ⟨R', a1, a2, a3, a4, a5⟩ := ih (x + 1) n (setR Q (wn Q.1 2 (x - 198) (Q.1 2 x))) (by omega) (by omega) (by omega) q1 (fun k hk => by
        funext j
        show wn Q.1 2 _ _ k j = _
        rw [pu_wn_k _ _ _ _ hk, q2 k hk]) (fun j => by
        show wn Q.1 2 _ _ 2 j = _
        rw [pu_wn, q3 j, q3 x, if_neg (by omega : ¬ x < x - 198)]
        by_cases hj : j = x - 198
        · rw [if_pos ⟨rfl, hj⟩, if_pos (by omega), hj, show x - 198 + 198 = x by omega]
        · rw [if_neg (fun z => hj z.2)]
          by_cases h3 : j < x - 198
          · rw [if_pos h3, if_pos (by omega)]
          · rw [if_neg h3, if_neg (by omega)])
      refine ⟨R', ?_, a2, a3, a4, a5⟩
      rw [← a1]
      simp (disch := omega) only [f_X7_record_13, pu_bnd, pu_some, pu_let, pu_inb, pu_rd, pu_wr, nI_1, nI_leI, nI_ltI, nI_eq, pu_lit, nI_add, pk_mul, pk_sub, h2, if_false]
  exact lp 1386 198 fuel R (by omega) (by omega) (fuel_gt (by omega)) rfl (fun _ _ => rfl) (fun j => by rw [if_neg (by omega)])
theorem sp_drop (S : PS) (hp : ∀ i, i < 8 → S.2 i < 12) : ∃ S', f_X1_dropOldest S = some S' ∧ (∀ i, i ≠ 12 → S'.1 i = S.1 i) ∧ (∀ k j, S'.1 12 k j = if k = 2 ∧ j = 4 then S.1 12 2 4 - 1 else S.1 12 k j) ∧ (∀ i, i < 7 → S'.2 i = S.2 (i + 1)) ∧ S'.2 7 = S.2 0 := by
  have lp : ∀ (d x n : Nat) (Q : PS), x + d = 7 → d < n → Q.1 = S.1 → (∀ i, i < 8 → Q.2 i = if i < x then S.2 (i + 1) else S.2 i) →
      ∃ S', f_X1_dropOldest_9 (S.2 0) n (nI x) Q = some S' ∧ (∀ i, i ≠ 12 → S'.1 i = S.1 i) ∧ (∀ k j, S'.1 12 k j = if k = 2 ∧ j = 4 then S.1 12 2 4 - 1 else S.1 12 k j) ∧ (∀ i, i < 7 → S'.2 i = S.2 (i + 1)) ∧ S'.2 7 = S.2 0 := by
    intro d
    induction d with
    | zero =>
      intro x n Q hx hn q1 q2
      obtain ⟨n, rfl⟩ : ∃ m, n = m + 1 := ⟨n - 1, by omega⟩
      obtain rfl : x = 7 := by omega
      refine ⟨setV (setP Q 7 (S.2 0)) 12 (wn (Q.1 12) 2 4 (Q.1 12 2 4 - 1)), ?_, ?_, ?_, ?_, ?_⟩
      · simp (disch := omega) only [f_X1_dropOldest_9, pu_bnd, pu_some, pu_let, pu_inb, pu_rd, pu_wr, nI_1, nI_leI, nI_ltI, nI_eq, pu_lit, nI_add, pk_mul, Nat.le_refl, if_true]
        rw [decide_eq_true (hp 0 (by decide)), pu_bnd, nI_clamp (by omega)]
        rfl
      · intro i hi
        rw [setV_ne _ _ hi]
        show Q.1 i = _
        rw [q1]
      · intro k j
        rw [setV_at, pu_wn, q1]
      · intro i hi
        show va_up Q.2 7 (S.2 0) i = _
        simp only [va_up]
        rw [if_neg (by omega), q2 i (by omega), if_pos hi]
      · show va_up Q.2 7 (S.2 0) 7 = _
        simp [va_up]
    | succ d ih =>
      intro x n Q hx hn q1 q2
      obtain ⟨n, rfl⟩ : ∃ m, n = m + 1 := ⟨n - 1, by omega⟩
      have h2 : ¬ 7 ≤ x := by omega
      obtain ⟨S', a1, a2⟩ := ih (x + 1) n (setP Q x (Q.2 (x + 1))) (by omega) (by omega) q1 (fun i hi => by
        show va_up Q.2 x (Q.2 (x + 1)) i = _
        simp only [va_up]
        by_cases hix : i = x
        · subst hix
          rw [if_pos rfl, if_pos (by omega), q2 (i + 1) (by omega), if_neg (by omega)]
        · rw [if_neg hix, q2 i hi]
          by_cases h3 : i < x
          · rw [if_pos h3, if_pos (by omega)]
          · rw [if_neg h3, if_neg (by omega)])
      refine ⟨S', ?_, a2⟩
      rw [← a1]
      have hq : Q.2 (x + 1) < 12 := by rw [q2 (x + 1) (by omega), if_neg (by omega)]; exact hp _ (by omega)
      simp (disch := omega) only [f_X1_dropOldest_9, pu_bnd, pu_some, pu_let, pu_inb, pu_rd, pu_wr, nI_1, nI_leI, nI_ltI, nI_eq, pu_lit, nI_add, pk_mul, h2, if_false, nI_clamp]
      rw [decide_eq_true hq, pu_bnd]
  obtain ⟨S', a1, a2⟩ := lp 7 0 fuel S (by omega) (fuel_gt (by omega)) rfl (fun i hi => by rw [if_neg (by omega)])
  refine ⟨S', ?_, a2⟩
  rw [← a1]
  unfold f_X1_dropOldest
  simp (disch := omega) only [pu_bnd, pu_some, pu_let, pu_inb, pu_rd, pu_wr, nI_1, nI_leI, nI_ltI, nI_eq, pu_lit, nI_add, pk_mul, nI_clamp]
  rw [decide_eq_true (hp 0 (by decide)), pu_bnd]
theorem nI_inj0 {a b : Nat} (ha : a < 2 ^ 31) (hb : b < 2 ^ 31) (h : nI a = nI b) : a = b := (nI_eq ha hb).mp h
theorem rel_record {n : Nat} {S : PS} {R : RS} (h : Rel n S R) : ∃ S' R', f_X1_record 0 S = some S' ∧ f_X7_record R = some R' ∧ Rel n S' R' ∧ S'.1 0 = S.1 0 ∧ R'.1 0 = R.1 0 ∧ (∀ k, k ≠ 2 → S'.1 12 k = S.1 12 k) ∧ (∀ j, j ≠ 4 → S'.1 12 2 j = S.1 12 2 j) ∧ (∀ k, k ≠ 2 → k ≠ 7 → R'.1 k = R.1 k) ∧ (∀ j, 0 < j → R'.1 7 j = R.1 7 j) := by
  obtain ⟨h0, ⟨L, l1, l2, l3, l4⟩, ⟨m, m1, m2, m3, m4, m5, m6⟩, ⟨k0, k1, i1, i2, i3, i4, i5, i6, i7⟩⟩ := h
  have core : ∀ (T : PS) (Q : RS) (m : Nat), m < 8 → T.1 12 2 4 = nI m → Q.1 7 0 = nI m → (∀ i, i < 8 → 4 ≤ T.2 i ∧ T.2 i < 12) → (∀ i j, i < 8 → j < 8 → T.2 i = T.2 j → i = j) → (∀ i, i < m → HK (1000 * n) (100 * n) (T.1 (T.2 i)) (fun q => Q.1 2 (198 * i + q))) →
      (∀ i, i < 4 → T.1 i = S.1 i) → (∀ k, k ≠ 2 → T.1 12 k = S.1 12 k) → (∀ j, j ≠ 4 → T.1 12 2 j = S.1 12 2 j) → (∀ k, k ≠ 2 → k ≠ 7 → Q.1 k = R.1 k) → (∀ j, 0 < j → Q.1 7 j = R.1 7 j) →
      ∃ S' R', f_X1_record_13 0 T = some S' ∧ f_X7_record_52 Q = some R' ∧ Rel n S' R' ∧ S'.1 0 = S.1 0 ∧ R'.1 0 = R.1 0 ∧ (∀ k, k ≠ 2 → S'.1 12 k = S.1 12 k) ∧ (∀ j, j ≠ 4 → S'.1 12 2 j = S.1 12 2 j) ∧ (∀ k, k ≠ 2 → k ≠ 7 → R'.1 k = R.1 k) ∧ (∀ j, 0 < j → R'.1 7 j = R.1 7 j) := by
    intro T Q m hm t2 t3 t4 t5 t6 t7 t8 t9 t10 t11
    have hp := t4 m hm
    obtain ⟨w, w1, w2⟩ := sp_copy (i := T.2 m) (j := 0) (by omega) T
    have hc := sr_copy (k1 := 0) (k3 := 2) (by decide) Q (a := 0) (b := 198 * m) (by decide) (by show 198 * m + 198 ≤ 1584; omega) (by decide) (by decide)
    refine ⟨setV (setV T (T.2 m) w) 12 (wn (T.1 12) 2 4 (nI m + 1)), setR (cpR Q 0 2 0 (198 * m) 198) (wn (cpR Q 0 2 0 (198 * m) 198).1 7 0 (nI m + 1)), ?_, ?_, ?_, ?_, ?_, ?_, ?_, ?_, ?_⟩
    · unfold f_X1_record_13
      rw [t2]
      simp (disch := omega) only [pu_inb, pu_bnd, nI_clamp]
      rw [decide_eq_true hp.2, pu_bnd, w1, pu_some, pu_let, setV_ne T w (by omega : 12 ≠ T.2 m), t2]
    · unfold f_X7_record_52
      rw [t3, show (198 : Int32) = nI 198 from rfl, pk_mul, show (0 : Int32) = nI 0 from rfl, hc, pu_some, pu_let]
      have e7 : (cpR Q 0 2 0 (198 * m) 198).1 7 0 = nI m := by
        rw [cpR_ne _ _ (by decide), t3]
      rw [e7]
    · have r7 : ∀ j, (setR (cpR Q 0 2 0 (198 * m) 198) (wn (cpR Q 0 2 0 (198 * m) 198).1 7 0 (nI m + 1))).1 7 j = if j = 0 then nI (m + 1) else R.1 7 j := fun j => by
        show wn (cpR Q 0 2 0 (198 * m) 198).1 7 0 (nI m + 1) 7 j = _
        rw [pu_wn, nI_1]
        by_cases hj : j = 0
        · rw [if_pos ⟨rfl, hj⟩, if_pos hj]
        · rw [if_neg (fun z => hj z.2), if_neg hj, ← t11 j (by omega)]
          rw [cpR_ne _ _ (by decide)]
      have rk : ∀ k, k ≠ 2 → k ≠ 7 → (setR (cpR Q 0 2 0 (198 * m) 198) (wn (cpR Q 0 2 0 (198 * m) 198).1 7 0 (nI m + 1))).1 k = R.1 k := fun k h2 h7 => by
        funext j
        show wn (cpR Q 0 2 0 (198 * m) 198).1 7 0 (nI m + 1) k j = _
        rw [pu_wn_k _ _ _ _ h7, ← t10 k h2 h7]
        show (if k = 2 ∧ _ then _ else Q.1 k j) = _
        rw [if_neg (fun z => absurd z.1 h2)]
      have r2 : ∀ j, (setR (cpR Q 0 2 0 (198 * m) 198) (wn (cpR Q 0 2 0 (198 * m) 198).1 7 0 (nI m + 1))).1 2 j = if 198 * m ≤ j ∧ j < 198 * m + 198 then R.1 0 (j - 198 * m) else Q.1 2 j := fun j => by
        show wn (cpR Q 0 2 0 (198 * m) 198).1 7 0 (nI m + 1) 2 j = _
        rw [pu_wn_k _ _ _ _ (by decide), ← t10 0 (by decide) (by decide)]
        show (if 2 = 2 ∧ _ then Q.1 0 (0 + (j - 198 * m)) else Q.1 2 j) = _
        rw [Nat.zero_add]
        by_cases c : 198 * m ≤ j ∧ j < 198 * m + 198
        · rw [if_pos c, if_pos ⟨rfl, c⟩]
        · rw [if_neg c, if_neg (fun z => c z.2)]
      have s12 : ∀ k j, (setV (setV T (T.2 m) w) 12 (wn (T.1 12) 2 4 (nI m + 1))).1 12 k j = if k = 2 ∧ j = 4 then nI (m + 1) else S.1 12 k j := fun k j => by
        rw [setV_at, pu_wn, nI_1]
        by_cases c : k = 2 ∧ j = 4
        · rw [if_pos c, if_pos c]
        · rw [if_neg c, if_neg c]
          by_cases h2 : k = 2
          · subst h2; rw [t9 j (by omega)]
          · rw [t8 k h2]
      have sv : ∀ i, i ≠ 12 → i ≠ T.2 m → (setV (setV T (T.2 m) w) 12 (wn (T.1 12) 2 4 (nI m + 1))).1 i = T.1 i := fun i h1 h2 => by
        rw [setV_ne _ _ h1, setV_ne _ _ h2]
      have svm : (setV (setV T (T.2 m) w) 12 (wn (T.1 12) 2 4 (nI m + 1))).1 (T.2 m) = w := by
        rw [setV_ne _ _ (by omega), setV_at]
      refine ⟨?_, ⟨L, l1, ?_, ?_, ?_⟩, ⟨m + 1, by omega, ?_, ?_, t4, t5, ?_⟩, ⟨k0, k1, i1, i2, ?_, ?_, ?_, ?_, ?_⟩⟩
      · rw [sv 0 (by decide) (by omega), rk 0 (by decide) (by decide), t7 0 (by decide)]; exact h0
      · rw [s12, if_neg (by omega)]; exact l2
      · rw [r7, if_neg (by decide)]; exact l3
      · intro i hi
        rw [s12, if_neg (by omega), rk 4 (by decide) (by decide)]
        exact l4 i hi
      · rw [s12, if_pos ⟨rfl, rfl⟩]
      · rw [r7, if_pos rfl]
      · intro i hi
        show HK _ _ ((setV (setV T (T.2 m) w) 12 (wn (T.1 12) 2 4 (nI m + 1))).1 (T.2 i)) _
        by_cases him : i = m
        · subst him
          rw [svm]
          have e : HK (1000 * n) (100 * n) (T.1 0) (R.1 0) := by rw [t7 0 (by decide)]; exact h0
          have e2 := w2.HK e
          refine ⟨e2.1, e2.2.1, fun k j hr => ?_⟩
          have hz := zi_lt (relv_inR e2.1.1 hr)
          show (setR (cpR Q 0 2 0 (198 * i) 198) _).1 2 (198 * i + zi k j) = _
          rw [r2, if_pos (by omega), show 198 * i + zi k j - 198 * i = zi k j by omega]
          exact e2.2.2 k j hr
        · have hne : T.2 i ≠ T.2 m := fun z => him (t5 i m (by omega) hm z)
          rw [sv _ (by have := t4 i (by omega); omega) hne]
          have e2 := t6 i (by omega)
          refine ⟨e2.1, e2.2.1, fun k j hr => ?_⟩
          have hz := zi_lt (relv_inR e2.1.1 hr)
          show (setR (cpR Q 0 2 0 (198 * m) 198) _).1 2 (198 * i + zi k j) = _
          rw [r2, if_neg (by omega)]
          exact e2.2.2 k j hr
      · rw [s12, if_neg (by omega)]; exact i3
      · rw [s12, if_neg (by omega)]; exact i4
      · rw [r7, if_neg (by decide)]; exact i5
      · rw [sv 2 (by decide) (by omega), t7 2 (by decide), rk 3 (by decide) (by decide)]; exact i6
      · rw [sv 3 (by decide) (by omega), t7 3 (by decide), rk 3 (by decide) (by decide)]; exact i7
    · rw [setV_ne _ _ (by decide), setV_ne _ _ (by omega)]; exact t7 0 (by decide)
    · funext j
      show wn (cpR Q 0 2 0 (198 * m) 198).1 7 0 (nI m + 1) 0 j = _
      rw [pu_wn_k _ _ _ _ (by decide), ← t10 0 (by decide) (by decide)]
      rfl
    · intro k hk
      funext j
      rw [setV_at, pu_wn_k _ _ _ _ hk, t8 k hk]
    · intro j hj
      rw [setV_at, pu_wn_j _ _ _ _ hj, t9 j hj]
    · intro k h2 h7
      funext j
      show wn (cpR Q 0 2 0 (198 * m) 198).1 7 0 (nI m + 1) k j = _
      rw [pu_wn_k _ _ _ _ h7, ← t10 k h2 h7]
      show (if k = 2 ∧ _ then _ else Q.1 k j) = _
      rw [if_neg (fun z => absurd z.1 h2)]
    · intro j hj
      show wn (cpR Q 0 2 0 (198 * m) 198).1 7 0 (nI m + 1) 7 j = _
      rw [pu_wn_j _ _ _ _ (by omega), ← t11 j hj]
      rw [cpR_ne _ _ (by decide)]
  unfold f_X1_record f_X7_record
  rw [m2, m3]
  by_cases hm : m < 8
  · rw [if_pos (show nI m < 8 from nI_lt hm (by decide)), if_neg (fun z : nI m = 8 => by have := nI_inj0 (a := m) (b := 8) (by omega) (by decide) z; omega)]
    exact core S R m hm m2 m3 m4 m5 m6 (fun _ _ => rfl) (fun _ _ => rfl) (fun _ _ => rfl) (fun _ _ _ => rfl) (fun _ _ => rfl)
  · obtain rfl : m = 8 := by omega
    rw [if_neg (show ¬ nI 8 < 8 by decide), if_pos (show nI 8 = 8 from rfl)]
    obtain ⟨T, a1, a2, a3, a4, a5⟩ := sp_drop S (fun i hi => (m4 i hi).2)
    obtain ⟨Q, b1, b2, b3, b4, b5⟩ := sr_record8 R
    rw [a1, pu_some, show f_X7_record_13 fuel 198 R = f_X7_record_13 fuel (nI 198) R from rfl, b1]
    have tS : ∀ i, i < 8 → T.2 i = S.2 (if i < 7 then i + 1 else 0) := fun i hi => by
      by_cases h7 : i < 7
      · rw [if_pos h7, a4 i h7]
      · rw [if_neg h7, show i = 7 by omega, a5]
    refine core T Q 7 (by decide) ?_ ?_ ?_ ?_ ?_ ?_ ?_ ?_ ?_ ?_
    · rw [a3, if_pos ⟨rfl, rfl⟩, m2]; rfl
    · rw [b4, if_pos rfl, m3]; rfl
    · intro i hi
      rw [tS i hi]
      exact m4 _ (by split <;> omega)
    · intro i j hi hj he
      rw [tS i hi, tS j hj] at he
      have := m5 _ _ (by split <;> omega) (by split <;> omega) he
      split at this <;> split at this <;> omega
    · intro i hi
      rw [a4 i hi, a2 _ (by have := m4 (i + 1) (by omega); omega)]
      have e2 := m6 (i + 1) (by omega)
      refine ⟨e2.1, e2.2.1, fun k j hr => ?_⟩
      have hz := zi_lt (relv_inR e2.1.1 hr)
      show Q.1 2 (198 * i + zi k j) = _
      rw [b5 _ (by omega), show 198 * i + zi k j + 198 = 198 * (i + 1) + zi k j by omega]
      exact e2.2.2 k j hr
    · intro i hi; exact a2 i (by omega)
    · intro k hk
      funext j
      rw [a3, if_neg (fun z => hk z.1)]
    · intro j hj
      rw [a3, if_neg (fun z => hj z.2)]
    · exact b3
    · intro j hj
      rw [b4, if_neg (by omega)]
