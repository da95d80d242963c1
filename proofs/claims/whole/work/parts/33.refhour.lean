/-! numbers of an hour -/
theorem smF_nat {f : Nat → Int32} {m : Nat} : ∀ (d i a : Nat), (∀ j, i ≤ j → j < i + d → ∃ w, w ≤ m ∧ f j = nI w) → ∃ S, smF f i d (nI a) = nI (a + S) ∧ S ≤ m * d ∧ (S = 0 → ∀ j, i ≤ j → j < i + d → f j = 0) := by
  intro d
  induction d with
  | zero => intro i a h; exact ⟨0, rfl, by omega, fun _ j h1 h2 => by omega⟩
  | succ d ih =>
    intro i a h
    obtain ⟨w, hw, e⟩ := h i (Nat.le_refl _) (by omega)
    obtain ⟨S, e1, e2, e3⟩ := ih (i + 1) (a + w) (fun j h1 h2 => h j (by omega) (by omega))
    refine ⟨w + S, ?_, ?_, ?_⟩
    · show smF f (i + 1) d (nI a + f i) = _
      rw [e, nI_add, e1, Nat.add_assoc]
    · rw [Nat.mul_add]; omega
    · intro h0 j h1 h2
      by_cases hj : j = i
      · subst hj
        rw [e, show w = 0 by omega]
        rfl
      · exact e3 (by omega) j (by omega) (by omega)
theorem i32_nat {x : Int32} (h : 0 ≤ x.toInt) : ∃ n : Nat, x = nI n ∧ (n : Int) = x.toInt ∧ n < 2 ^ 31 := by
  have hlt := Int32.toInt_lt x
  refine ⟨x.toInt.toNat, ?_, by omega, by omega⟩
  refine Int32.toInt_inj.mp ?_
  rw [nI_toInt (by omega)]
  omega
theorem jmin_nI {a b : Nat} (ha : a < 2 ^ 31) (hb : b < 2 ^ 31) : jmin (nI a) (nI b) = nI (min a b) := by
  unfold jmin
  by_cases h : b < a
  · rw [if_pos ((nI_ltI hb ha).mpr h), Nat.min_eq_right (by omega)]
  · rw [if_neg (fun z => h ((nI_ltI hb ha).mp z)), Nat.min_eq_left (by omega)]
theorem jmin_le (x y : Int32) : jmin x y = if x ≤ y then x else y := by
  unfold jmin
  by_cases h : x ≤ y
  · rw [if_pos h, if_neg (by rw [Int32.lt_iff_toInt_lt]; rw [Int32.le_iff_toInt_le] at h; omega)]
  · rw [if_neg h, if_pos (by rw [Int32.lt_iff_toInt_lt]; rw [Int32.le_iff_toInt_le] at h; omega)]
theorem jmin_ge (x y : Int32) : jmin x y = if y ≤ x then y else x := by
  unfold jmin
  by_cases h : y < x
  · rw [if_pos h, if_pos (by rw [Int32.le_iff_toInt_le]; rw [Int32.lt_iff_toInt_lt] at h; omega)]
  · rw [if_neg h]
    by_cases h2 : y ≤ x
    · rw [if_pos h2]
      refine Int32.toInt_inj.mp ?_
      rw [Int32.le_iff_toInt_le] at h2
      rw [Int32.lt_iff_toInt_lt] at h
      omega
    · rw [if_neg h2]
theorem jmax0 (x : Int32) : jmax 0 x = if 0 ≤ x then x else 0 := by
  unfold jmax
  by_cases h : 0 < x
  · rw [if_pos h, if_pos (by rw [Int32.le_iff_toInt_le]; rw [Int32.lt_iff_toInt_lt] at h; omega)]
  · rw [if_neg h]
    by_cases h2 : 0 ≤ x
    · rw [if_pos h2]
      refine Int32.toInt_inj.mp ?_
      rw [Int32.le_iff_toInt_le] at h2
      rw [Int32.lt_iff_toInt_lt] at h
      omega
    · rw [if_neg h2]
/-- what a house can draw: between nothing and its demand, and no more than credit and overdraft -/
theorem cdr_nat {cr cn od : Int32} {d : Nat} (hd : d ≤ 50) : ∃ w, w ≤ d ∧ cdr cr (nI d) cn od = nI w ∧ (w = 0 ∨ (w : Int) ≤ (cr + od).toInt) := by
  unfold cdr
  by_cases hc : cn = 0
  · rw [if_pos hc]; exact ⟨0, by omega, rfl, Or.inl rfl⟩
  · rw [if_neg hc, jmax0]
    unfold jmin
    have hdI : (nI d).toInt = d := nI_toInt (by omega)
    by_cases hx : cr + od < nI d
    · rw [if_pos hx]
      by_cases h0 : 0 ≤ cr + od
      · rw [if_pos h0]
        rw [Int32.le_iff_toInt_le] at h0
        rw [Int32.lt_iff_toInt_lt] at hx
        obtain ⟨n, e1, e2, e3⟩ := i32_nat h0
        refine ⟨n, by omega, e1, Or.inr (by omega)⟩
      · rw [if_neg h0]; exact ⟨0, by omega, rfl, Or.inl rfl⟩
    · rw [if_neg hx]
      have h0 : 0 ≤ nI d := by rw [Int32.le_iff_toInt_le, hdI]; show (0 : Int) ≤ d; omega
      rw [if_pos h0]
      rw [Int32.lt_iff_toInt_lt] at hx
      exact ⟨d, Nat.le_refl _, rfl, Or.inr (by omega)⟩
def GW (v : VS) : Prop := ∀ j, j < hsz v → ∃ w, w ≤ 50 ∧ v 9 j = nI w
theorem v1S_GW {v : VS} (gh : GH v) : GW (v1S v) := fun j hj => by
  have hj' : j < hsz v := by rw [show hsz (v1S v) = hsz v from hsz_congr (v1S_same v (by decide))] at hj; exact hj
  obtain ⟨_, ⟨d, hd, ed⟩, _⟩ := gh j hj'
  unfold v1S wS
  rw [if_pos ⟨Or.inr rfl, hj'⟩]
  obtain ⟨w, h1, h2, _⟩ := cdr_nat (cr := v 4 j) (cn := v 3 j) (od := v 17 0) hd
  exact ⟨w, by omega, by show cdr (v 4 j) (v 1 j) (v 3 j) (v 17 0) = _; rw [ed]; exact h2⟩
theorem rs0_GW {v : VS} (h : GW v) : GW (rs0 v) := fun j hj => by
  rw [rs0_same v (by decide)]
  exact h j (by rw [show hsz (rs0 v) = hsz v from hsz_congr (rs0_same v (by decide))] at hj; exact hj)
theorem shS9 (v : VS) (j : Nat) : shS v 9 j = v 9 j ∨ shS v 9 j = 0 := by
  unfold shS shW
  rw [pu_wn_k _ _ _ _ (by decide)]
  split
  · exact Or.inl rfl
  · rw [pu_wn_k _ _ _ _ (by decide), pu_wn_k _ _ _ _ (by decide)]
    unfold nS
    split
    · exact Or.inr rfl
    · exact Or.inl rfl
theorem shS_GW {v : VS} (g : GA v) (h : GW v) : GW (shS v) := fun j hj => by
  rw [shS_hsz g] at hj
  rcases shS9 v j with e | e <;> rw [e]
  · exact h j hj
  · exact ⟨0, by omega, rfl⟩
theorem sh2_GW {v : VS} (g : GA v) (h : GW v) (av : Int32) : GW (sh2 v av) := by
  unfold sh2
  split
  · exact h
  · split
    · exact shS_GW g h
    · exact shS_GW (shS_GA g) (shS_GW g h)
theorem v2S_GW {v : VS} (g : GA v) (gh : GH v) : GW (v2S v) := sh2_GW (rs0_GA (v1S_GA g)) (rs0_GW (v1S_GW gh)) _
/-! the reference's places -/
def RV (v : VS) (R : RS) : Prop := VR v (R.1 0)
def Fr (R R' : RS) : Prop := R'.2 = R.2 ∧ ∀ k, k ≠ 0 → k ≠ 5 → R'.1 k = R.1 k
theorem Fr.rfl' (R : RS) : Fr R R := ⟨rfl, fun _ _ _ => rfl⟩
theorem Fr.trans {R R' R'' : RS} (h : Fr R R') (h' : Fr R' R'') : Fr R R'' := ⟨h'.1.trans h.1, fun k h0 h5 => (h'.2 k h0 h5).trans (h.2 k h0 h5)⟩
def wz (R : RS) (i : Nat) (x : Int32) : RS := setR R (wn R.1 0 i x)
def w5 (R : RS) (i : Nat) (x : Int32) : RS := setR R (wn R.1 5 i x)
theorem wz_Fr (R : RS) (i : Nat) (x : Int32) : Fr R (wz R i x) := ⟨rfl, fun k h0 _ => funext fun j => pu_wn_k _ _ _ _ h0⟩
theorem w5_Fr (R : RS) (i : Nat) (x : Int32) : Fr R (w5 R i x) := ⟨rfl, fun k _ h5 => funext fun j => pu_wn_k _ _ _ _ h5⟩
theorem wz5 (R : RS) (i : Nat) (x : Int32) (j : Nat) : (wz R i x).1 5 j = R.1 5 j := pu_wn_k R.1 (k := 0) (k' := 5) i x j (by decide)
theorem w55 (R : RS) (i : Nat) (x : Int32) (j : Nat) : (w5 R i x).1 5 j = if j = i then x else R.1 5 j := by
  show (wn R.1 5 i x) 5 j = _
  rw [pu_wn]
  simp
theorem wz_wr {R : RS} {i : Nat} {x : Int32} (h : i < 2 ^ 31) : setR R (wr R.1 0 (nI i) x) = wz R i x := by unfold wz; rw [pu_wr h]
theorem w5_wr {R : RS} {i : Nat} {x : Int32} (h : i < 2 ^ 31) : setR R (wr R.1 5 (nI i) x) = w5 R i x := by unfold w5; rw [pu_wr h]
theorem RV.wz {v : VS} {R : RS} (h : RV v R) (g : GA v) {k j i : Nat} {x : Int32} (hi : zi k j = i) (hin : inR k j) (hk : k ≠ 22 ∨ 3 ≤ j) : RV (wn v k j x) (wz R i x) := by
  have e := VR.put h g (x := x) hin hk
  rw [hi] at e
  intro k' j' hr
  have := e k' j' hr
  show (wn R.1 0 i x) 0 (zi k' j') = _
  rw [← this, pu_wn]
  simp [upd]
theorem RV.w5 {v : VS} {R : RS} (h : RV v R) (i : Nat) (x : Int32) : RV v (w5 R i x) := fun k j hr => by
  rw [← h k j hr]
  exact pu_wn_k R.1 (k := 5) (k' := 0) i x _ (by decide)
theorem RV.to {v w : VS} {R : RS} (h : RV v R) (hs : w 22 0 = v 22 0 ∧ w 22 1 = v 22 1 ∧ w 22 2 = v 22 2) (he : ∀ k j, relv v k j → w k j = v k j) : RV w R := VR.congr h hs he
/-- reads -/
theorem rz_h {v : VS} {R : RS} (h : RV v R) {k j i : Nat} (hk : k < 8) (hj : j < hsz v) (hi : 8 * j + k = i) : R.1 0 i = v k j := by
  rw [← h k j (by unfold relv; omega), ← hi]
  unfold zi
  rw [if_pos hk]
theorem rz_l {v : VS} {R : RS} (h : RV v R) {k j i : Nat} (hk : 10 ≤ k ∧ k < 13) (hj : j < lsz v) (hi : 80 + 3 * j + (k - 10) = i) : R.1 0 i = v k j := by
  rw [← h k j (by unfold relv; omega), ← hi]
  unfold zi
  rw [if_neg (by omega), if_pos hk.2]
theorem rz_b {v : VS} {R : RS} (h : RV v R) {k j i : Nat} (hk : 13 ≤ k ∧ k < 17) (hj : j < 2) (hi : 116 + 4 * j + (k - 13) = i) : R.1 0 i = v k j := by
  rw [← h k j (by unfold relv; omega), ← hi]
  unfold zi
  rw [if_neg (by omega), if_neg (by omega), if_pos hk.2]
theorem rz_17 {v : VS} {R : RS} (h : RV v R) {j i : Nat} (hj : j < 4) (hi : 177 + j = i) : R.1 0 i = v 17 j := by rw [← h 17 j (by unfold relv; omega), ← hi]; rfl
theorem rz_18 {v : VS} {R : RS} (h : RV v R) {j i : Nat} (hj : j < 8) (hi : 181 + j = i) : R.1 0 i = v 18 j := by rw [← h 18 j (by unfold relv; omega), ← hi]; rfl
theorem rz_19 {v : VS} {R : RS} (h : RV v R) {j i : Nat} (hj : j < 3) (hi : 189 + j = i) : R.1 0 i = v 19 j := by rw [← h 19 j (by unfold relv; omega), ← hi]; rfl
theorem rz_20 {v : VS} {R : RS} (h : RV v R) {j i : Nat} (hj : j < 3) (hi : 192 + j = i) : R.1 0 i = v 20 j := by rw [← h 20 j (by unfold relv; omega), ← hi]; rfl
theorem rz_21 {v : VS} {R : RS} (h : RV v R) {j i : Nat} (hj : j < qsz v) (hi : 124 + j = i) : R.1 0 i = v 21 j := by rw [← h 21 j (by unfold relv; omega), ← hi]; rfl
theorem rz_172 {v : VS} {R : RS} (h : RV v R) (g : GA v) : R.1 0 172 = nI (hsz v) := by rw [← g.1, ← h 22 0 (by unfold relv; omega)]; rfl
theorem rz_173 {v : VS} {R : RS} (h : RV v R) (g : GA v) : R.1 0 173 = nI (lsz v) := by rw [← g.2.2.1, ← h 22 1 (by unfold relv; omega)]; rfl
theorem rz_174 {v : VS} {R : RS} (h : RV v R) (g : GA v) : R.1 0 174 = nI (hrz v) := by rw [← g.2.2.2.2.2.2.2.1, ← h 22 3 (by unfold relv; omega)]; rfl
theorem rz_175 {v : VS} {R : RS} (h : RV v R) (g : GA v) : R.1 0 175 = nI (qsz v) := by rw [← g.2.2.2.2.1, ← h 22 2 (by unfold relv; omega)]; rfl
theorem rz_176 {v : VS} {R : RS} (h : RV v R) : R.1 0 176 = v 22 4 := by rw [← h 22 4 (by unfold relv; omega)]; rfl
/-- small functions -/
theorem sr_of {v : VS} {R : RS} (h : RV v R) (g : GA v) {k j : Nat} (hk : k < 8) (hj : j < hsz v) : f_X7_of R (nI j) (nI k) = some (v k j) := by
  have := g.2.1
  simp (disch := omega) only [f_X7_of, pu_bnd, pu_some, pu_let, pu_inb, pu_rd, pu_wr, nI_1, nI_leI, nI_ltI, nI_eq, pu_lit, nI_add, pk_mul]
  rw [rz_h h hk hj rfl]
theorem sr_add {v : VS} {R : RS} (h : RV v R) (g : GA v) {k j : Nat} (hk : k < 8) (hj : j < hsz v) (x : Int32) : f_X7_add R (nI j) (nI k) x = some (wz R (8 * j + k) (v k j + x)) := by
  have := g.2.1
  simp (disch := omega) only [f_X7_add, pu_bnd, pu_some, pu_let, pu_inb, pu_rd, pu_wr, nI_1, nI_leI, nI_ltI, nI_eq, pu_lit, nI_add, pk_mul]
  rw [rz_h h hk hj rfl]
  rfl
theorem sr_loanOf {v : VS} {R : RS} (h : RV v R) (g : GA v) {k j : Nat} (hk : k < 3) (hj : j < lsz v) : f_X7_loanOf R (nI j) (nI k) = some (v (10 + k) j) := by
  have := g.2.2.2.1
  simp (disch := omega) only [f_X7_loanOf, pu_bnd, pu_some, pu_let, pu_inb, pu_rd, pu_wr, nI_1, nI_leI, nI_ltI, nI_eq, pu_lit, nI_add, pk_mul]
  rw [rz_l h (k := 10 + k) (by omega) hj (by omega)]
theorem sr_cell {v : VS} {R : RS} (h : RV v R) {k j : Nat} (hk : k < 4) (hj : j < 2) : f_X7_cell R (nI j) (nI k) = some (v (13 + k) j) := by
  simp (disch := omega) only [f_X7_cell, pu_bnd, pu_some, pu_let, pu_inb, pu_rd, pu_wr, nI_1, nI_leI, nI_ltI, nI_eq, pu_lit, nI_add, pk_mul]
  rw [rz_b h (k := 13 + k) (by omega) hj (by omega)]
theorem sr_setting1 {v : VS} {R : RS} (h : RV v R) {j : Nat} (hj : j < 4) : f_X7_setting1 R (nI j) = some (v 17 j) := by
  simp (disch := omega) only [f_X7_setting1, pu_bnd, pu_some, pu_let, pu_inb, pu_rd, pu_wr, nI_1, nI_leI, nI_ltI, nI_eq, pu_lit, nI_add, pk_mul]
  rw [rz_17 h hj rfl]
theorem sr_canDraw {v : VS} {R : RS} (h : RV v R) (g : GA v) {j : Nat} (hj : j < hsz v) : f_X7_canDraw R (nI j) = some (cdr (v 4 j) (v 1 j) (v 3 j) (v 17 0)) := by
  have e33 : ∀ x, f_X7_canDraw_33 R (nI j) x = some (if v 3 j = 0 then 0 else jmax 0 x) := fun x => by
    unfold f_X7_canDraw_33
    rw [show (3 : Int32) = nI 3 from rfl, sr_of h g (by omega : 3 < 8) hj, pu_some, jmax0]
    by_cases h3 : v 3 j = 0
    · rw [if_pos h3, if_pos h3]
    · rw [if_neg h3, if_neg h3]
      by_cases h0 : 0 ≤ x
      · rw [if_pos h0, if_pos h0]
      · rw [if_neg h0, if_neg h0]
  unfold f_X7_canDraw cdr
  simp only [pu_lit, sr_of h g (by omega : 4 < 8) hj, sr_of h g (by omega : 1 < 8) hj, sr_setting1 h (by omega : 0 < 4), pu_some, pu_let, e33]
  rw [jmin_ge]
  by_cases h1 : v 4 j + v 17 0 ≤ v 1 j
  · rw [if_pos h1, if_pos h1]
  · rw [if_neg h1, if_neg h1]
theorem sr_canGive {v : VS} {R : RS} (h : RV v R) {j : Nat} (hj : j < 2) : f_X7_canGive R (nI j) = some (cgv v j) := by
  unfold f_X7_canGive cgv
  simp only [pu_lit, sr_cell h (by omega : 3 < 4) hj, sr_cell h (by omega : 1 < 4) hj, pu_some]
  rw [jmin_ge]
  by_cases h1 : v (13 + 1) j ≤ v (13 + 3) j
  · rw [if_pos h1, if_pos h1]
  · rw [if_neg h1, if_neg h1]
theorem sr_supplyAt {v : VS} {R : RS} (h : RV v R) (g : GA v) {a : Nat} (hh : a < 2 ^ 31) : f_X7_supplyAt R (nI a) = some (sup v a) := by
  have h1 := g.2.2.2.2.2.1
  have h2 := g.2.2.2.2.2.2.1
  have hz : nz (nI (qsz v)) = true := pu_nz (by omega) (by omega)
  have hm : a - a / qsz v * qsz v = a % qsz v := by
    have := Nat.div_add_mod a (qsz v)
    rw [Nat.mul_comm] at this
    omega
  have hlt : a % qsz v < qsz v := Nat.mod_lt _ (by omega)
  have hle : a / qsz v * qsz v ≤ a := Nat.div_mul_le_self _ _
  have e : nI a - nI a / nI (qsz v) * nI (qsz v) = nI (a % qsz v) := by
    rw [pk_div hh (by omega) (by omega), pk_mul, pk_sub hle, hm]
  unfold f_X7_supplyAt
  simp (disch := omega) only [pu_lit, pu_inb, pu_bnd, pu_rd, rz_175 h g, hz, e, nI_add]
  rw [rz_21 h hlt rfl]
  rfl
