/-! THE LAW'S ROWS AND THE VILLAGE: row lrw k, place lpl k j of the law holds what the village has at k j -/
def lrw (k : Nat) : Nat := if k < 5 ∨ k = 7 then 1 else if k < 8 then 2 else if k < 13 then 3 else if k < 17 then 4 else if k = 21 then 5 else 0
def lpl (k j : Nat) : Nat := if k < 5 then 6 * j + k else if k = 7 then 6 * j + 5 else if k = 5 then j else if k = 6 then 8 + j else if k < 13 then 3 * j + (k - 10) else if k < 17 then 4 * j + (k - 13) else if k = 17 then 4 + j else if k = 18 then (if j < 5 then 8 + j else 7 + j) else if k = 19 then 16 + j else if k = 21 then j else (if j = 0 then 0 else if j = 1 then 1 else if j = 2 then 15 else j - 1)
def inL (k j : Nat) : Prop := (k < 8 ∧ j < 8) ∨ (10 ≤ k ∧ k < 13 ∧ j < 10) ∨ (13 ≤ k ∧ k < 17 ∧ j < 2) ∨ (k = 17 ∧ j < 4) ∨ (k = 18 ∧ j < 8 ∧ j ≠ 5) ∨ (k = 19 ∧ j < 3) ∨ (k = 21 ∧ j = 0) ∨ (k = 22 ∧ j < 5)
def rl (v : VS) (k j : Nat) : Prop := (k < 8 ∧ j < hsz v) ∨ (10 ≤ k ∧ k < 13 ∧ j < lsz v) ∨ (13 ≤ k ∧ k < 17 ∧ j < 2) ∨ (k = 17 ∧ j < 4) ∨ (k = 18 ∧ j < 8 ∧ j ≠ 5) ∨ (k = 19 ∧ j < 3) ∨ (k = 21 ∧ j = 0) ∨ (k = 22 ∧ j < 5)
def linv (r p : Nat) : Nat × Nat := if r = 1 then (if p % 6 < 5 then (p % 6, p / 6) else (7, p / 6)) else if r = 2 then (if p < 8 then (5, p) else (6, p - 8)) else if r = 3 then (10 + p % 3, p / 3) else if r = 4 then (13 + p % 4, p / 4) else if r = 5 then (21, p) else if p = 0 then (22, 0) else if p = 1 then (22, 1) else if p = 2 then (22, 3) else if p = 3 then (22, 4) else if p < 8 then (17, p - 4) else if p < 13 then (18, p - 8) else if p = 13 then (18, 6) else if p = 14 then (18, 7) else if p = 15 then (22, 2) else (19, p - 16)
def inLb (k j : Nat) : Bool := (decide (k < 8) && decide (j < 8)) || (decide (10 ≤ k) && decide (k < 13) && decide (j < 10)) || (decide (13 ≤ k) && decide (k < 17) && decide (j < 2)) || (decide (k = 17) && decide (j < 4)) || (decide (k = 18) && decide (j < 8) && decide (j ≠ 5)) || (decide (k = 19) && decide (j < 3)) || (decide (k = 21) && decide (j = 0)) || (decide (k = 22) && decide (j < 5))
set_option maxRecDepth 100000 in
theorem linv_l0 : ∀ k, k < 23 → ∀ j, j < 10 → inLb k j = true → linv (lrw k) (lpl k j) = (k, j) := by decide +kernel
theorem linv_l {k j : Nat} (h : inL k j) : linv (lrw k) (lpl k j) = (k, j) := by
  refine linv_l0 k (by unfold inL at h; omega) j (by unfold inL at h; omega) ?_
  unfold inL at h
  simp only [inLb, Bool.or_eq_true, Bool.and_eq_true, decide_eq_true_eq, or_assoc, and_assoc]
  exact h
theorem lz_inj {k j k' j' : Nat} (h : inL k j) (h' : inL k' j') (er : lrw k = lrw k') (ep : lpl k j = lpl k' j') : k = k' ∧ j = j' := by
  have a := linv_l h
  rw [er, ep, linv_l h'] at a
  exact ⟨(Prod.mk.inj a).1.symm, (Prod.mk.inj a).2.symm⟩
def VL (v R : VS) : Prop := ∀ k j, rl v k j → R (lrw k) (lpl k j) = v k j
/-- small: as many houses, loans, numbers as the law makes -/
def SM (v : VS) : Prop := hsz v ≤ 8 ∧ lsz v ≤ 10 ∧ qsz v = 1
theorem rl_inL {v : VS} (s : SM v) {k j : Nat} (h : rl v k j) : inL k j := by
  have h1 := s.1
  have h2 := s.2.1
  unfold rl at h
  unfold inL
  rcases h with h | h | h | h | h | h | h | h
  · exact Or.inl ⟨h.1, by omega⟩
  · exact Or.inr (Or.inl ⟨h.1, h.2.1, by omega⟩)
  · exact Or.inr (Or.inr (Or.inl h))
  · exact Or.inr (Or.inr (Or.inr (Or.inl h)))
  · exact Or.inr (Or.inr (Or.inr (Or.inr (Or.inl h))))
  · exact Or.inr (Or.inr (Or.inr (Or.inr (Or.inr (Or.inl h)))))
  · exact Or.inr (Or.inr (Or.inr (Or.inr (Or.inr (Or.inr (Or.inl h))))))
  · exact Or.inr (Or.inr (Or.inr (Or.inr (Or.inr (Or.inr (Or.inr h))))))
theorem rl_congr {v w : VS} (h0 : w 22 0 = v 22 0) (h1 : w 22 1 = v 22 1) {k j : Nat} : rl w k j ↔ rl v k j := by
  unfold rl hsz lsz
  rw [h0, h1]
theorem SM.congr {v w : VS} (s : SM v) (h : ∀ j, j < 3 → w 22 j = v 22 j) : SM w := by
  unfold SM hsz lsz qsz
  rw [h 0 (by decide), h 1 (by decide), h 2 (by decide)]
  exact s
theorem VL.to {v w R : VS} (h : VL v R) (h0 : w 22 0 = v 22 0) (h1 : w 22 1 = v 22 1) (he : ∀ k j, rl v k j → w k j = v k j) : VL w R := fun k j hr => by
  have hr' := (rl_congr h0 h1).mp hr
  rw [he k j hr']
  exact h k j hr'
theorem VL.put {v R : VS} (h : VL v R) (s : SM v) {k j r p : Nat} {x : Int32} (er : lrw k = r) (ep : lpl k j = p) (hin : inL k j) (hk : k ≠ 22 ∨ 3 ≤ j) : VL (wn v k j x) (wn R r p x) := by
  subst er; subst ep
  intro k' j' hr
  have hr' : rl v k' j' := (rl_congr (by rw [pu_wn, if_neg (by omega)]) (by rw [pu_wn, if_neg (by omega)])).mp hr
  rw [pu_wn, pu_wn]
  by_cases he : k' = k ∧ j' = j
  · rw [if_pos he, if_pos ⟨by rw [he.1], by rw [he.1, he.2]⟩]
  · rw [if_neg he, if_neg (fun z => he (lz_inj (rl_inL s hr') hin z.1 z.2))]
    exact h k' j' hr'
/-- reads -/
theorem rl_h {v R : VS} (h : VL v R) {k j p : Nat} (hk : k < 5) (hj : j < hsz v) (hp : 6 * j + k = p) : R 1 p = v k j := by
  have := h k j (Or.inl ⟨by omega, hj⟩)
  unfold lrw lpl at this
  rw [if_pos (Or.inl hk), if_pos hk, hp] at this
  exact this
theorem rl_h7 {v R : VS} (h : VL v R) {j p : Nat} (hj : j < hsz v) (hp : 6 * j + 5 = p) : R 1 p = v 7 j := by rw [← h 7 j (Or.inl ⟨by omega, hj⟩), ← hp]; rfl
theorem rl_h5 {v R : VS} (h : VL v R) {j : Nat} (hj : j < hsz v) : R 2 j = v 5 j := by rw [← h 5 j (Or.inl ⟨by omega, hj⟩)]; rfl
theorem rl_h6 {v R : VS} (h : VL v R) {j p : Nat} (hj : j < hsz v) (hp : 8 + j = p) : R 2 p = v 6 j := by rw [← h 6 j (Or.inl ⟨by omega, hj⟩), ← hp]; rfl
theorem rl_l {v R : VS} (h : VL v R) {k j p : Nat} (hk : k < 3) (hj : j < lsz v) (hp : 3 * j + k = p) : R 3 p = v (10 + k) j := by
  have := h (10 + k) j (Or.inr (Or.inl ⟨by omega, by omega, hj⟩))
  unfold lrw lpl at this
  rw [if_neg (by omega), if_neg (by omega), if_pos (by omega), if_neg (by omega), if_neg (by omega), if_neg (by omega), if_neg (by omega), if_pos (by omega), show 3 * j + (10 + k - 10) = p by omega] at this
  exact this
theorem rl_b {v R : VS} (h : VL v R) {k j p : Nat} (hk : k < 4) (hj : j < 2) (hp : 4 * j + k = p) : R 4 p = v (13 + k) j := by
  have := h (13 + k) j (Or.inr (Or.inr (Or.inl ⟨by omega, by omega, hj⟩)))
  unfold lrw lpl at this
  rw [if_neg (by omega), if_neg (by omega), if_neg (by omega), if_pos (by omega), if_neg (by omega), if_neg (by omega), if_neg (by omega), if_neg (by omega), if_neg (by omega), if_pos (by omega), show 4 * j + (13 + k - 13) = p by omega] at this
  exact this
theorem rl_17 {v R : VS} (h : VL v R) {j p : Nat} (hj : j < 4) (hp : 4 + j = p) : R 0 p = v 17 j := by rw [← h 17 j (Or.inr (Or.inr (Or.inr (Or.inl ⟨rfl, hj⟩)))), ← hp]; rfl
theorem rl_18 {v R : VS} (h : VL v R) {j p : Nat} (hj : j < 5) (hp : 8 + j = p) : R 0 p = v 18 j := by
  have := h 18 j (Or.inr (Or.inr (Or.inr (Or.inr (Or.inl ⟨rfl, by omega, by omega⟩)))))
  rw [← this, ← hp]
  unfold lpl
  rw [if_neg (by decide), if_neg (by decide), if_neg (by decide), if_neg (by decide), if_neg (by decide), if_neg (by decide), if_neg (by decide), if_pos rfl, if_pos hj]
  rfl
theorem rl_186 {v R : VS} (h : VL v R) : R 0 13 = v 18 6 := by rw [← h 18 6 (Or.inr (Or.inr (Or.inr (Or.inr (Or.inl ⟨rfl, by omega, by omega⟩)))))]; rfl
theorem rl_187 {v R : VS} (h : VL v R) : R 0 14 = v 18 7 := by rw [← h 18 7 (Or.inr (Or.inr (Or.inr (Or.inr (Or.inl ⟨rfl, by omega, by omega⟩)))))]; rfl
theorem rl_19 {v R : VS} (h : VL v R) {j p : Nat} (hj : j < 3) (hp : 16 + j = p) : R 0 p = v 19 j := by rw [← h 19 j (Or.inr (Or.inr (Or.inr (Or.inr (Or.inr (Or.inl ⟨rfl, hj⟩)))))), ← hp]; rfl
theorem rl_21 {v R : VS} (h : VL v R) : R 5 0 = v 21 0 := by rw [← h 21 0 (Or.inr (Or.inr (Or.inr (Or.inr (Or.inr (Or.inr (Or.inl ⟨rfl, rfl⟩)))))))]; rfl
theorem rl_22 {v R : VS} (h : VL v R) {j : Nat} (hj : j < 5) : R 0 (lpl 22 j) = v 22 j := by rw [← h 22 j (Or.inr (Or.inr (Or.inr (Or.inr (Or.inr (Or.inr (Or.inr ⟨rfl, hj⟩)))))))]; rfl
theorem rl_0 {v R : VS} (h : VL v R) (g : GA v) : R 0 0 = nI (hsz v) := by rw [← g.1]; exact rl_22 h (j := 0) (by decide)
theorem rl_1 {v R : VS} (h : VL v R) (g : GA v) : R 0 1 = nI (lsz v) := by rw [← g.2.2.1]; exact rl_22 h (j := 1) (by decide)
theorem rl_2 {v R : VS} (h : VL v R) (g : GA v) : R 0 2 = nI (hrz v) := by rw [← g.2.2.2.2.2.2.2.1]; exact rl_22 h (j := 3) (by decide)
theorem rl_3 {v R : VS} (h : VL v R) : R 0 3 = v 22 4 := rl_22 h (j := 4) (by decide)
theorem rl_15 {v R : VS} (h : VL v R) (g : GA v) (s : SM v) : R 0 15 = nI 1 := by
  have e : v 22 2 = nI 1 := by rw [g.2.2.2.2.1, s.2.2]
  rw [← e]; exact rl_22 h (j := 2) (by decide)
/-- the law's small functions -/
theorem sl_draw' {v R : VS} (h : VL v R) (s : SM v) {j : Nat} (hj : j < hsz v) (hd0 : (0 : Int32) ≤ v 1 j) : f_L_draw R (nI j) = some (cdr (v 4 j) (v 1 j) (v 3 j) (v 17 0)) := by
  have h8 := s.1
  have e3 := rl_h h (k := 3) (by decide) hj rfl
  have e4 := rl_h h (k := 4) (by decide) hj rfl
  have e1 := rl_h h (k := 1) (by decide) hj rfl
  have e17 := rl_17 h (j := 0) (by decide) rfl
  have hF : f_L_draw R (nI j) = if v 3 j = 0 then some 0 else if 0 ≤ v 4 j + v 17 0 then (if v 1 j ≤ v 4 j + v 17 0 then some (v 1 j) else some (v 4 j + v 17 0)) else some 0 := by
    unfold f_L_draw
    simp (disch := omega) only [pu_let, pu_lit, pk_mul, nI_add, pu_inb, pu_bnd, pu_rd, e3, e4, e1, e17]
    rfl
  rw [hF]
  unfold cdr
  rw [jmax0, jmin_le]
  by_cases h3 : v 3 j = 0
  · rw [if_pos h3, if_pos h3]
  · rw [if_neg h3, if_neg h3]
    by_cases hs : v 1 j ≤ v 4 j + v 17 0
    · rw [if_pos hs, if_pos hs, if_pos hd0, if_pos (by rw [Int32.le_iff_toInt_le] at *; omega)]
    · rw [if_neg hs, if_neg hs]
      by_cases h0 : 0 ≤ v 4 j + v 17 0
      · rw [if_pos h0, if_pos h0]
      · rw [if_neg h0, if_neg h0]
theorem GH_d0 {v : VS} (gh : GH v) {j : Nat} (hj : j < hsz v) : (0 : Int32) ≤ v 1 j := by
  obtain ⟨d, hd, ed⟩ := (gh j hj).2.1
  rw [ed]; exact nI_pos' (by omega)
theorem sl_draw {v R : VS} (h : VL v R) (s : SM v) (gh : GH v) {j : Nat} (hj : j < hsz v) : f_L_draw R (nI j) = some (cdr (v 4 j) (v 1 j) (v 3 j) (v 17 0)) := sl_draw' h s hj (GH_d0 gh hj)
theorem sl_give {v R : VS} (h : VL v R) {b : Nat} (hb : b < 2) : f_L_give R (nI b) = some (cgv v b) := by
  have e3 := rl_b h (k := 3) (by decide) hb rfl
  have e1 := rl_b h (k := 1) (by decide) hb rfl
  have hF : f_L_give R (nI b) = if v 16 b ≤ v 14 b then some (v 16 b) else some (v 14 b) := by
    unfold f_L_give
    simp (disch := omega) only [pu_let, pu_lit, pk_mul, nI_add, pu_inb, pu_bnd, pu_rd, e3, e1]
  rw [hF]
  unfold cgv
  rw [jmin_le]
  split <;> rfl
/-- the mask: which of the feeders 1 and 2 is off -/
def bt (b1 b2 : Bool) (f : Nat) : Bool := if f = 1 then b1 else if f = 2 then b2 else false
def mk2 (b1 b2 : Bool) : Nat := (if b1 then 2 else 0) + (if b2 then 4 else 0)
theorem bt_bit (b1 b2 : Bool) {f : Nat} (hf : f < 3) : (nI (mk2 b1 b2) >>> (nI f &&& 31)) &&& 1 = if bt b1 b2 f = true then 1 else 0 := by
  match f, hf with
  | 0, _ => cases b1 <;> cases b2 <;> decide
  | 1, _ => cases b1 <;> cases b2 <;> decide
  | 2, _ => cases b1 <;> cases b2 <;> decide
theorem bt_or (b1 b2 : Bool) {t : Nat} (ht : t = 1 ∨ t = 2) : nI (mk2 b1 b2) ||| (1 <<< (nI t &&& 31)) = nI (mk2 (b1 || decide (t = 1)) (b2 || decide (t = 2))) := by
  rcases ht with rfl | rfl <;> cases b1 <;> cases b2 <;> decide
/-- what a house wants with some feeders off -/
def wtO (v : VS) (b1 b2 : Bool) (j : Nat) : Int32 := if bt b1 b2 (fe v j) = true then 0 else cdr (v 4 j) (v 1 j) (v 3 j) (v 17 0)
theorem sl_wants0 {v R : VS} (h : VL v R) (s : SM v) (g : GA v) (gh : GH v) (b1 b2 : Bool) (x : Int32) : ∀ (d i n : Nat) (acc : Int32), i + d = hsz v → d < n → f_L_wants_6 R x (nI (mk2 b1 b2)) n acc (nI i) = some (smF (fun j => if x < 0 ∨ v 0 j = x then wtO v b1 b2 j else 0) i d acc) := by
  have h8 := s.1
  intro d
  induction d with
  | zero =>
    intro i n acc hi hn
    obtain ⟨n, rfl⟩ : ∃ m, n = m + 1 := ⟨n - 1, by omega⟩
    obtain rfl : i = hsz v := by omega
    simp (disch := omega) only [f_L_wants_6, rl_0 h g, pu_bnd, pu_some, pu_let, pu_inb, pu_rd, pu_wr, nI_1, nI_leI, nI_ltI, nI_eq, pu_lit, nI_add, pk_mul, Nat.le_refl, if_true]
    rfl
  | succ d ih =>
    intro i n acc hi hn
    obtain ⟨n, rfl⟩ : ∃ m, n = m + 1 := ⟨n - 1, by omega⟩
    have hj : i < hsz v := by omega
    have h1 : ¬ hsz v ≤ i := by omega
    have e0 := rl_h h (k := 0) (by decide) hj rfl
    obtain ⟨hf, ef⟩ := GF.of gh i hj
    have e6 : rd R 1 ((6 : Int32) * nI i) = v 0 i := by rw [show (6 : Int32) * nI i = nI (6 * i) from pk_mul 6 i, pu_rd (by omega)]; exact e0
    have i6 : inb ((6 : Int32) * nI i) 48 = true := by rw [show (6 : Int32) * nI i = nI (6 * i) from pk_mul 6 i]; exact pu_inb (by omega) (by decide)
    have i0 : inb (0 : Int32) 20 = true := pu_inb (i := 0) (by decide) (by decide)
    have r0 : rd R 0 (0 : Int32) = nI (hsz v) := (pu_rd (i := 0) (by decide)).trans (rl_0 h g)
    have key : ∀ acc, f_L_wants_55 (f_L_wants_6 R x (nI (mk2 b1 b2)) n) R x (nI (mk2 b1 b2)) acc (nI i) = some (smF (fun j => if x < 0 ∨ v 0 j = x then wtO v b1 b2 j else 0) (i + 1) d acc) := fun acc => by
      rw [f_L_wants_55, pu_let, nI_1]
      exact ih (i + 1) n acc (by omega) (by omega)
    have k29 : f_L_wants_29 (f_L_wants_6 R x (nI (mk2 b1 b2)) n) R x (nI (mk2 b1 b2)) acc (nI i) = some (smF (fun j => if x < 0 ∨ v 0 j = x then wtO v b1 b2 j else 0) (i + 1) d (acc + wtO v b1 b2 i)) := by
      rw [f_L_wants_29, i6, pu_bnd, e6, ef, bt_bit b1 b2 hf, sl_draw h s gh hj, pu_some, pu_let]
      unfold wtO
      by_cases hb : bt b1 b2 (fe v i) = true
      · rw [if_pos hb, if_pos hb, if_neg (by decide), Int32.add_zero]
        exact key acc
      · rw [if_neg hb, if_neg hb, if_pos rfl]
        exact key _
    show _ = some (smF _ (i + 1) d (acc + (if x < 0 ∨ v 0 i = x then wtO v b1 b2 i else 0)))
    rw [f_L_wants_6, i0, pu_bnd, r0, if_neg (nI_ge hj (by omega))]
    by_cases hx : x < 0
    · rw [if_pos hx, if_pos (Or.inl hx)]
      exact k29
    · rw [if_neg hx, i6, pu_bnd, e6]
      by_cases h0 : v 0 i = x
      · rw [if_pos h0, if_pos (Or.inr h0)]
        exact k29
      · rw [if_neg h0, if_neg (fun z => z.elim hx h0), Int32.add_zero]
        exact key acc
theorem sl_wants {v R : VS} (h : VL v R) (s : SM v) (g : GA v) (gh : GH v) (b1 b2 : Bool) (x : Int32) : f_L_wants R x (nI (mk2 b1 b2)) = some (smF (fun j => if x < 0 ∨ v 0 j = x then wtO v b1 b2 j else 0) 0 (hsz v) 0) :=
  sl_wants0 h s g gh b1 b2 x (hsz v) 0 fuel 0 (by omega) (fuel_gt (by have := s.1; omega))
