/-! PURE: words of the programs, numbers, places -/
theorem pu_bnd {α : Type} (x : Option α) : bnd true x = x := rfl
theorem pu_some {α β : Type} (a : α) (f : α → Option β) : bnd2 (some a) f = f a := rfl
theorem pu_let {α β : Type} (e : α) (f : α → β) : letv e f = f e := rfl
theorem pu_inb {i N : Nat} (h : i < N) (hN : N < 2 ^ 31) : inb (nI i) N = true := by
  unfold inb
  rw [nI_toInt (by omega)]
  simp
  omega
theorem pu_rd {v : VS} {k i : Nat} (h : i < 2 ^ 31) : rd v k (nI i) = v k i := by unfold rd; rw [nI_clamp h]
theorem pu_wr {v : VS} {k i : Nat} {x : Int32} (h : i < 2 ^ 31) : wr v k (nI i) x = wn v k i x := by unfold wr; rw [nI_clamp h]
theorem pu_wn (v : VS) (k j : Nat) (x : Int32) (k' j' : Nat) : wn v k j x k' j' = if k' = k ∧ j' = j then x else v k' j' := by
  unfold wn va_up upd
  by_cases h : k' = k
  · subst h
    by_cases h2 : j' = j <;> simp [h2]
  · simp [h]
theorem pu_wn_s (v : VS) (k j : Nat) (x : Int32) : wn v k j x k j = x := by rw [pu_wn]; simp
theorem pu_wn_k (v : VS) {k k' : Nat} (j : Nat) (x : Int32) (j' : Nat) (h : k' ≠ k) : wn v k j x k' j' = v k' j' := by rw [pu_wn, if_neg (fun z => h z.1)]
theorem pu_wn_j (v : VS) (k : Nat) {j j' : Nat} (x : Int32) (k' : Nat) (h : j' ≠ j) : wn v k j x k' j' = v k' j' := by rw [pu_wn, if_neg (fun z => h z.2)]
theorem pu_nz {n : Nat} (h0 : 0 < n) (h : n < 2 ^ 31) : nz (nI n) = true := by unfold nz; exact decide_eq_true (nI_ne0 h0 h)
theorem vs_ext {v w : VS} (h : ∀ k j, v k j = w k j) : v = w := by funext k j; exact h k j
def hsz (v : VS) : Nat := (v 22 0).toNatClampNeg
def lsz (v : VS) : Nat := (v 22 1).toNatClampNeg
def qsz (v : VS) : Nat := (v 22 2).toNatClampNeg
def hrz (v : VS) : Nat := (v 22 3).toNatClampNeg
/-- the reference's place of a village's number -/
def zi (k j : Nat) : Nat :=
  if k < 8 then 8 * j + k else if k < 13 then 80 + 3 * j + (k - 10) else if k < 17 then 116 + 4 * j + (k - 13) else if k = 17 then 177 + j else if k = 18 then 181 + j else if k = 19 then 189 + j else if k = 20 then 192 + j else if k = 21 then 124 + j else if j = 0 then 172 else if j = 1 then 173 else if j = 2 then 175 else if j = 3 then 174 else 176
def inR (k j : Nat) : Prop := (k < 8 ∧ j < 10) ∨ (10 ≤ k ∧ k < 13 ∧ j < 12) ∨ (13 ≤ k ∧ k < 17 ∧ j < 2) ∨ (k = 17 ∧ j < 4) ∨ (k = 18 ∧ j < 8) ∨ (k = 19 ∧ j < 3) ∨ (k = 20 ∧ j < 3) ∨ (k = 21 ∧ j < 48) ∨ (k = 22 ∧ j < 5)
/-- the relevant places of a village -/
def relv (v : VS) (k j : Nat) : Prop := (k < 8 ∧ j < hsz v) ∨ (10 ≤ k ∧ k < 13 ∧ j < lsz v) ∨ (13 ≤ k ∧ k < 17 ∧ j < 2) ∨ (k = 17 ∧ j < 4) ∨ (k = 18 ∧ j < 8) ∨ (k = 19 ∧ j < 3) ∨ (k = 20 ∧ j < 3) ∨ (k = 21 ∧ j < qsz v) ∨ (k = 22 ∧ j < 5)
theorem zi_lt {k j : Nat} (h : inR k j) : zi k j < 195 := by
  unfold zi inR at *
  repeat' split
  all_goals omega
def zinv (i : Nat) : Nat × Nat :=
  if i < 80 then (i % 8, i / 8) else if i < 116 then (10 + (i - 80) % 3, (i - 80) / 3) else if i < 124 then (13 + (i - 116) % 4, (i - 116) / 4) else if i < 172 then (21, i - 124) else if i = 172 then (22, 0) else if i = 173 then (22, 1) else if i = 174 then (22, 3) else if i = 175 then (22, 2) else if i = 176 then (22, 4) else if i < 181 then (17, i - 177) else if i < 189 then (18, i - 181) else if i < 192 then (19, i - 189) else (20, i - 192)
def inRb (k j : Nat) : Bool := (decide (k < 8) && decide (j < 10)) || (decide (10 ≤ k) && decide (k < 13) && decide (j < 12)) || (decide (13 ≤ k) && decide (k < 17) && decide (j < 2)) || (decide (k = 17) && decide (j < 4)) || (decide (k = 18) && decide (j < 8)) || (decide (k = 19) && decide (j < 3)) || (decide (k = 20) && decide (j < 3)) || (decide (k = 21) && decide (j < 48)) || (decide (k = 22) && decide (j < 5))
set_option maxRecDepth 100000 in
theorem zinv_zi0 : ∀ k, k < 23 → ∀ j, j < 48 → inRb k j = true → zinv (zi k j) = (k, j) := by decide +kernel
theorem zinv_zi {k j : Nat} (h : inR k j) : zinv (zi k j) = (k, j) := by
  refine zinv_zi0 k (by unfold inR at h; omega) j (by unfold inR at h; omega) ?_
  unfold inR at h
  simp only [inRb, Bool.or_eq_true, Bool.and_eq_true, decide_eq_true_eq]
  omega
theorem zi_inj {k j k' j' : Nat} (h : inR k j) (h' : inR k' j') (e : zi k j = zi k' j') : k = k' ∧ j = j' := by
  have e1 := zinv_zi h
  rw [e, zinv_zi h'] at e1
  cases e1
  exact ⟨rfl, rfl⟩
def VR (v : VS) (z : Nat → Int32) : Prop := ∀ k j, relv v k j → z (zi k j) = v k j
/-- sizes -/
def GA (v : VS) : Prop := v 22 0 = nI (hsz v) ∧ hsz v ≤ 10 ∧ v 22 1 = nI (lsz v) ∧ lsz v ≤ 12 ∧ v 22 2 = nI (qsz v) ∧ 1 ≤ qsz v ∧ qsz v ≤ 48 ∧ v 22 3 = nI (hrz v) ∧ hrz v < 2 ^ 30 ∧ (v 22 4 = nI 1 ∨ v 22 4 = nI 2)
def GH (v : VS) : Prop := ∀ h, h < hsz v → (∃ f, f < 3 ∧ v 0 h = nI f) ∧ (∃ d, d ≤ 50 ∧ v 1 h = nI d) ∧ (∃ d, d ≤ 1000 ∧ v 2 h = nI d) ∧ (∃ c, c < 2 ∧ v 3 h = nI c) ∧ (∃ g, g ≤ 50 ∧ v 5 h = nI g) ∧ -50 ≤ (v 4 h).toInt
def GL (v : VS) : Prop := ∀ k, k < lsz v → ∃ a b o, a < hsz v ∧ b < hsz v ∧ a ≠ b ∧ 1 ≤ o ∧ o ≤ 200 ∧ v 10 k = nI a ∧ v 11 k = nI b ∧ v 12 k = nI o
def GB (v : VS) : Prop := ∀ b, b < 2 → ∃ c r e g, c ≤ 500 ∧ r ≤ 100 ∧ 50 ≤ e ∧ e ≤ 100 ∧ g ≤ c ∧ v 13 b = nI c ∧ v 14 b = nI r ∧ v 15 b = nI e ∧ v 16 b = nI g
def GS (v : VS) : Prop := (∃ x, x ≤ 50 ∧ v 17 0 = nI x) ∧ ∀ k, k < 4 → ∃ x, x ≤ 100 ∧ v 17 k = nI x
def GT (v : VS) : Prop := v 19 0 = nI 0 ∧ ∀ f, f < 3 → ∃ x, x < 2 ∧ v 20 f = nI x
def GQ (v : VS) : Prop := ∀ k, k < qsz v → ∃ x, x ≤ 500 ∧ v 21 k = nI x
def G (v : VS) : Prop := GA v ∧ GH v ∧ GL v ∧ GB v ∧ GS v ∧ GT v ∧ GQ v
theorem relv_inR {v : VS} (h : GA v) {k j : Nat} (hr : relv v k j) : inR k j := by
  obtain ⟨_, h1, _, h2, _, _, h3, _⟩ := h
  unfold relv at hr
  unfold inR
  omega
theorem relv_congr {v w : VS} (h : w 22 0 = v 22 0 ∧ w 22 1 = v 22 1 ∧ w 22 2 = v 22 2) {k j : Nat} : relv w k j ↔ relv v k j := by
  unfold relv hsz lsz qsz
  rw [h.1, h.2.1, h.2.2]
theorem VR.congr {v w : VS} {z : Nat → Int32} (h : VR v z) (hs : w 22 0 = v 22 0 ∧ w 22 1 = v 22 1 ∧ w 22 2 = v 22 2) (he : ∀ k j, relv v k j → w k j = v k j) : VR w z := fun k j hr => by
  have hr' := (relv_congr hs).mp hr
  rw [he k j hr', h k j hr']
/-- a write on both sides -/
theorem VR.put {v : VS} {z : Nat → Int32} (h : VR v z) (g : GA v) {k j : Nat} {x : Int32} (hin : inR k j) (hk : k ≠ 22 ∨ 3 ≤ j) : VR (wn v k j x) (upd z (zi k j) x) := by
  have hs : (wn v k j x) 22 0 = v 22 0 ∧ (wn v k j x) 22 1 = v 22 1 ∧ (wn v k j x) 22 2 = v 22 2 := by
    refine ⟨?_, ?_, ?_⟩ <;> (rw [pu_wn, if_neg]; rintro ⟨h1, h2⟩; omega)
  intro k' j' hr
  have hr' := (relv_congr hs).mp hr
  have hi' := relv_inR g hr'
  rw [pu_wn]
  by_cases he : k' = k ∧ j' = j
  · rw [if_pos he, he.1, he.2]
    simp [upd]
  · rw [if_neg he]
    have hne : zi k' j' ≠ zi k j := fun e => he (zi_inj hi' hin e)
    simp only [upd, if_neg hne]
    exact h k' j' hr'
theorem pu_lit (n : Nat) : (OfNat.ofNat n : Int32) = nI n := rfl
theorem fuel_gt {n : Nat} (h : n < 100000) : n < fuel := h
