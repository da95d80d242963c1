/-! the class's side, as proved for the whole claim -/
theorem pu_bnd {α : Type} (x : Option α) : bnd true x = x := rfl
theorem pu_some {α β : Type} (a : α) (f : α → Option β) : bnd2 (some a) f = f a := rfl
theorem pu_let {α β : Type} (e : α) (f : α → β) : letv e f = f e := rfl
theorem pu_inb {i N : Nat} (h : i < N) (hN : N < 2 ^ 31) : inb (nI i) N = true := by
  unfold inb
  rw [nI_toInt (by omega)]
  simp
  omega
theorem pu_rd {v : VS} {k i : Nat} (h : i < 2 ^ 31) : rd v k (nI i) = v k i := by unfold rd; rw [nI_clamp h]
theorem pu_wr {v : VS} {k i : Nat} {x : Int32} (h : i < 2 ^ 31) : wr v k (nI i) x = wn v k i x := by unfold wr; rw [nI_clamp h]
theorem pu_wn (v : VS) (k j : Nat) (x : Int32) (k' j' : Nat) : wn v k j x k' j' = if k' = k ∧ j' = j then x else v k' j' := by
  unfold wn va_up upd
  by_cases h : k' = k
  · subst h
    by_cases h2 : j' = j <;> simp [h2]
  · simp [h]
theorem pu_wn_s (v : VS) (k j : Nat) (x : Int32) : wn v k j x k j = x := by rw [pu_wn]; simp
theorem pu_wn_k (v : VS) {k k' : Nat} (j : Nat) (x : Int32) (j' : Nat) (h : k' ≠ k) : wn v k j x k' j' = v k' j' := by rw [pu_wn, if_neg (fun z => h z.1)]
theorem pu_wn_j (v : VS) (k : Nat) {j j' : Nat} (x : Int32) (k' : Nat) (h : j' ≠ j) : wn v k j x k' j' = v k' j' := by rw [pu_wn, if_neg (fun z => h z.2)]
theorem pu_nz {n : Nat} (h0 : 0 < n) (h : n < 2 ^ 31) : nz (nI n) = true := by unfold nz; exact decide_eq_true (nI_ne0 h0 h)
theorem vs_ext {v w : VS} (h : ∀ k j, v k j = w k j) : v = w := by funext k j; exact h k j
def hsz (v : VS) : Nat := (v 22 0).toNatClampNeg
def lsz (v : VS) : Nat := (v 22 1).toNatClampNeg
def qsz (v : VS) : Nat := (v 22 2).toNatClampNeg
def hrz (v : VS) : Nat := (v 22 3).toNatClampNeg
/-- the reference's place of a village's number -/
def zi (k j : Nat) : Nat :=
  if k < 8 then 8 * j + k else if k < 13 then 80 + 3 * j + (k - 10) else if k < 17 then 116 + 4 * j + (k - 13) else if k = 17 then 177 + j else if k = 18 then 181 + j else if k = 19 then 189 + j else if k = 20 then 192 + j else if k = 21 then 124 + j else if j = 0 then 172 else if j = 1 then 173 else if j = 2 then 175 else if j = 3 then 174 else 176
def inR (k j : Nat) : Prop := (k < 8 ∧ j < 10) ∨ (10 ≤ k ∧ k < 13 ∧ j < 12) ∨ (13 ≤ k ∧ k < 17 ∧ j < 2) ∨ (k = 17 ∧ j < 4) ∨ (k = 18 ∧ j < 8) ∨ (k = 19 ∧ j < 3) ∨ (k = 20 ∧ j < 3) ∨ (k = 21 ∧ j < 48) ∨ (k = 22 ∧ j < 5)
/-- the relevant places of a village -/
def relv (v : VS) (k j : Nat) : Prop := (k < 8 ∧ j < hsz v) ∨ (10 ≤ k ∧ k < 13 ∧ j < lsz v) ∨ (13 ≤ k ∧ k < 17 ∧ j < 2) ∨ (k = 17 ∧ j < 4) ∨ (k = 18 ∧ j < 8) ∨ (k = 19 ∧ j < 3) ∨ (k = 20 ∧ j < 3) ∨ (k = 21 ∧ j < qsz v) ∨ (k = 22 ∧ j < 5)
def VR (v : VS) (z : Nat → Int32) : Prop := ∀ k j, relv v k j → z (zi k j) = v k j
/-- sizes -/
def GA (v : VS) : Prop := v 22 0 = nI (hsz v) ∧ hsz v ≤ 10 ∧ v 22 1 = nI (lsz v) ∧ lsz v ≤ 12 ∧ v 22 2 = nI (qsz v) ∧ 1 ≤ qsz v ∧ qsz v ≤ 48 ∧ v 22 3 = nI (hrz v) ∧ hrz v < 2 ^ 30 ∧ (v 22 4 = nI 1 ∨ v 22 4 = nI 2)
def GH (v : VS) : Prop := ∀ h, h < hsz v → (∃ f, f < 3 ∧ v 0 h = nI f) ∧ (∃ d, d ≤ 50 ∧ v 1 h = nI d) ∧ (∃ d, d ≤ 1000 ∧ v 2 h = nI d) ∧ (∃ c, c < 2 ∧ v 3 h = nI c) ∧ (∃ g, g ≤ 50 ∧ v 5 h = nI g) ∧ -50 ≤ (v 4 h).toInt
def GL (v : VS) : Prop := ∀ k, k < lsz v → ∃ a b o, a < hsz v ∧ b < hsz v ∧ a ≠ b ∧ 1 ≤ o ∧ o ≤ 200 ∧ v 10 k = nI a ∧ v 11 k = nI b ∧ v 12 k = nI o
def GB (v : VS) : Prop := ∀ b, b < 2 → ∃ c r e g, c ≤ 500 ∧ r ≤ 100 ∧ 50 ≤ e ∧ e ≤ 100 ∧ g ≤ c ∧ v 13 b = nI c ∧ v 14 b = nI r ∧ v 15 b = nI e ∧ v 16 b = nI g
def GS (v : VS) : Prop := (∃ x, x ≤ 50 ∧ v 17 0 = nI x) ∧ ∀ k, k < 4 → ∃ x, x ≤ 100 ∧ v 17 k = nI x
def GT (v : VS) : Prop := v 19 0 = nI 0 ∧ ∀ f, f < 3 → ∃ x, x < 2 ∧ v 20 f = nI x
def GQ (v : VS) : Prop := ∀ k, k < qsz v → ∃ x, x ≤ 500 ∧ v 21 k = nI x
def G (v : VS) : Prop := GA v ∧ GH v ∧ GL v ∧ GB v ∧ GS v ∧ GT v ∧ GQ v
theorem relv_congr {v w : VS} (h : w 22 0 = v 22 0 ∧ w 22 1 = v 22 1 ∧ w 22 2 = v 22 2) {k j : Nat} : relv w k j ↔ relv v k j := by
  unfold relv hsz lsz qsz
  rw [h.1, h.2.1, h.2.2]
theorem VR.congr {v w : VS} {z : Nat → Int32} (h : VR v z) (hs : w 22 0 = v 22 0 ∧ w 22 1 = v 22 1 ∧ w 22 2 = v 22 2) (he : ∀ k j, relv v k j → w k j = v k j) : VR w z := fun k j hr => by
  have hr' := (relv_congr hs).mp hr
  rw [he k j hr', h k j hr']
theorem pu_lit (n : Nat) : (OfNat.ofNat n : Int32) = nI n := rfl
theorem fuel_gt {n : Nat} (h : n < 100000) : n < fuel := h

theorem pu_lts (j i : Nat) : (j < i + 1) = (j < i ∨ j = i) := propext (by omega)
def smF (f : Nat → Int32) : Nat → Nat → Int32 → Int32
  | _, 0, acc => acc
  | i, d + 1, acc => smF f (i + 1) d (acc + f i)
theorem smF_congr {f g : Nat → Int32} : ∀ (d i : Nat) (acc : Int32), (∀ j, i ≤ j → j < i + d → f j = g j) → smF f i d acc = smF g i d acc := by
  intro d
  induction d with
  | zero => intro i acc h; rfl
  | succ d ih =>
    intro i acc h
    show smF f (i + 1) d (acc + f i) = smF g (i + 1) d (acc + g i)
    rw [h i (Nat.le_refl _) (by omega)]
    exact ih (i + 1) _ (fun j h1 h2 => h j (by omega) (by omega))
theorem sp_sum0 {v : VS} (g : GA v) {k : Nat} (hk : hsz v ≤ vlen k) : ∀ (d i n : Nat) (acc : Int32), i + d = hsz v → d < n → vlen k < 2 ^ 31 → f_X2_sum_4 k v n acc (nI i) = some (smF (v k) i d acc) := by
  have h10 := g.2.1
  intro d
  induction d with
  | zero =>
    intro i n acc hi hn hv
    obtain ⟨n, rfl⟩ : ∃ m, n = m + 1 := ⟨n - 1, by omega⟩
    have h1 : hsz v ≤ i := by omega
    simp (disch := omega) only [f_X2_sum_4, g.1, pu_bnd, pu_some, pu_let, pu_inb, pu_rd, pu_wr, nI_1, nI_leI, nI_ltI, nI_eq, pu_lit, nI_add, pk_mul, h1, if_true]
    rfl
  | succ d ih =>
    intro i n acc hi hn hv
    obtain ⟨n, rfl⟩ : ∃ m, n = m + 1 := ⟨n - 1, by omega⟩
    have h1 : ¬ hsz v ≤ i := by omega
    simp (disch := omega) only [f_X2_sum_4, g.1, pu_bnd, pu_some, pu_let, pu_inb, pu_rd, pu_wr, nI_1, nI_leI, nI_ltI, nI_eq, pu_lit, nI_add, pk_mul, h1, if_false]
    exact ih (i + 1) n _ (by omega) (by omega) hv
theorem sp_sum {v : VS} (g : GA v) {k : Nat} (hk : k < 10) : f_X2_sum k v = some (smF (v k) 0 (hsz v) 0) := by
  have hl : vlen k = 10 := by
    match k, hk with
    | 0, _ => rfl
    | 1, _ => rfl
    | 2, _ => rfl
    | 3, _ => rfl
    | 4, _ => rfl
    | 5, _ => rfl
    | 6, _ => rfl
    | 7, _ => rfl
    | 8, _ => rfl
    | 9, _ => rfl
    | k + 10, h => exact absurd h (by omega)
  have := g.2.1
  unfold f_X2_sum
  exact sp_sum0 g (by omega) (hsz v) 0 fuel 0 (by omega) (fuel_gt (by omega)) (by omega)
/-- a sum over the houses of a feeder -/
def ofF (v : VS) (fd : Int32) (f : Nat → Int32) : Nat → Int32 := fun j => if v 0 j = fd then f j else 0
theorem sp_sumFrom0 {v : VS} (g : GA v) {k : Nat} {fd : Int32} (hk : hsz v ≤ vlen k) (hv : vlen k < 2 ^ 31) : ∀ (d i n : Nat) (acc : Int32), i + d = hsz v → d < n → f_X2_sumFrom_5 k v fd n acc (nI i) = some (smF (ofF v fd (v k)) i d acc) := by
  have h10 := g.2.1
  intro d
  induction d with
  | zero =>
    intro i n acc hi hn
    obtain ⟨n, rfl⟩ : ∃ m, n = m + 1 := ⟨n - 1, by omega⟩
    have h1 : hsz v ≤ i := by omega
    simp (disch := omega) only [f_X2_sumFrom_5, g.1, pu_bnd, pu_some, pu_let, pu_inb, pu_rd, pu_wr, nI_1, nI_leI, nI_ltI, nI_eq, pu_lit, nI_add, pk_mul, h1, if_true]
    rfl
  | succ d ih =>
    intro i n acc hi hn
    obtain ⟨n, rfl⟩ : ∃ m, n = m + 1 := ⟨n - 1, by omega⟩
    have h1 : ¬ hsz v ≤ i := by omega
    have e := ih (i + 1) n (acc + ofF v fd (v k) i) (by omega) (by omega)
    show _ = some (smF _ (i + 1) d (acc + ofF v fd (v k) i))
    by_cases hc : v 0 i = fd
    · simp (disch := omega) only [f_X2_sumFrom_5, f_X2_sumFrom_34, g.1, pu_bnd, pu_some, pu_let, pu_inb, pu_rd, pu_wr, nI_1, nI_leI, nI_ltI, nI_eq, pu_lit, nI_add, pk_mul, h1, if_false, hc, if_true]
      rw [← e, ofF, if_pos hc]
    · simp (disch := omega) only [f_X2_sumFrom_5, f_X2_sumFrom_34, g.1, pu_bnd, pu_some, pu_let, pu_inb, pu_rd, pu_wr, nI_1, nI_leI, nI_ltI, nI_eq, pu_lit, nI_add, pk_mul, h1, if_false, hc]
      rw [← e, ofF, if_neg hc]
      rfl
theorem vlen10 {k : Nat} (hk : k < 10) : vlen k = 10 := by
    match k, hk with
    | 0, _ => rfl
    | 1, _ => rfl
    | 2, _ => rfl
    | 3, _ => rfl
    | 4, _ => rfl
    | 5, _ => rfl
    | 6, _ => rfl
    | 7, _ => rfl
    | 8, _ => rfl
    | 9, _ => rfl
    | k + 10, h => exact absurd h (by omega)
theorem sp_sumFrom {v : VS} (g : GA v) {k : Nat} (hk : k < 10) (fd : Int32) : f_X2_sumFrom k v fd = some (smF (ofF v fd (v k)) 0 (hsz v) 0) := by
  have := g.2.1
  unfold f_X2_sumFrom
  exact sp_sumFrom0 g (by rw [vlen10 hk]; omega) (by rw [vlen10 hk]; decide) (hsz v) 0 fuel 0 (by omega) (fuel_gt (by omega))
/-- what a house can draw -/
def cdr (cr dm cn od : Int32) : Int32 := if cn = 0 then 0 else jmax 0 (jmin dm (cr + od))
theorem sp_canDraw {v : VS} {h : Nat} (hh : h < 10) (od : Int32) : f_X2_canDraw v (nI h) od = some (cdr (v 4 h) (v 1 h) (v 3 h) od) := by
  unfold cdr
  by_cases hc : v 3 h = 0
  · simp (disch := omega) only [f_X2_canDraw, pu_bnd, pu_inb, pu_rd, hc, if_true]
  · simp (disch := omega) only [f_X2_canDraw, pu_bnd, pu_inb, pu_rd, hc, if_false]
def wS (v : VS) (c : Nat → Int32) (i : Nat) : VS := fun k j => if (k = 8 ∨ k = 9) ∧ j < i then c j else v k j
theorem wS_step (v : VS) (c : Nat → Int32) (i : Nat) : wn (wn (wS v c i) 8 i (c i)) 9 i (c i) = wS v c (i + 1) := by
  refine vs_ext fun k j => ?_
  simp only [pu_wn, wS, pu_lts]
  by_cases h8 : k = 8 <;> by_cases h9 : k = 9 <;> by_cases hj : j = i <;> by_cases hl : j < i <;> simp [h8, h9, hj, hl] <;> omega
theorem sp_wantAll0 {v : VS} (g : GA v) (od : Int32) : ∀ (d i n : Nat), i + d = hsz v → d < n → f_X2_wantAll_2 od n (nI i) (wS v (fun j => cdr (v 4 j) (v 1 j) (v 3 j) od) i) = some (wS v (fun j => cdr (v 4 j) (v 1 j) (v 3 j) od) (hsz v)) := by
  have h10 := g.2.1
  intro d
  induction d with
  | zero =>
    intro i n hi hn
    obtain ⟨n, rfl⟩ : ∃ m, n = m + 1 := ⟨n - 1, by omega⟩
    obtain rfl : i = hsz v := by omega
    have hz : wS v (fun j => cdr (v 4 j) (v 1 j) (v 3 j) od) (hsz v) 22 0 = nI (hsz v) := g.1
    simp (disch := omega) only [f_X2_wantAll_2, hz, nI_leI, Nat.le_refl, if_true]
  | succ d ih =>
    intro i n hi hn
    obtain ⟨n, rfl⟩ : ∃ m, n = m + 1 := ⟨n - 1, by omega⟩
    have h1 : ¬ hsz v ≤ i := by omega
    have hz : wS v (fun j => cdr (v 4 j) (v 1 j) (v 3 j) od) i 22 0 = nI (hsz v) := g.1
    simp (disch := omega) only [f_X2_wantAll_2, hz, sp_canDraw, pu_bnd, pu_some, pu_let, pu_inb, pu_rd, pu_wr, nI_1, nI_leI, nI_ltI, nI_eq, pu_lit, nI_add, pk_mul, h1, if_false]
    rw [← ih (i + 1) n (by omega) (by omega), ← wS_step]
    rw [pu_wn_s]
    rfl
theorem sp_wantAll {v : VS} (g : GA v) (od : Int32) : f_X2_wantAll v od = some (wS v (fun j => cdr (v 4 j) (v 1 j) (v 3 j) od) (hsz v)) := by
  have := g.2.1
  unfold f_X2_wantAll
  have e := sp_wantAll0 g od (hsz v) 0 fuel (by omega) (fuel_gt (by omega))
  have e0 : wS v (fun j => cdr (v 4 j) (v 1 j) (v 3 j) od) 0 = v := vs_ext fun k j => by simp [wS]
  rw [e0] at e
  exact e
def nS (v : VS) (fd : Int32) (i : Nat) : VS := fun k j => if k = 9 ∧ j < i ∧ v 0 j = fd then 0 else v k j
theorem sp_wantNothing0 {v : VS} (g : GA v) (fd : Int32) : ∀ (d i n : Nat), i + d = hsz v → d < n → f_X2_wantNothing_2 fd n (nI i) (nS v fd i) = some (nS v fd (hsz v)) := by
  have h10 := g.2.1
  intro d
  induction d with
  | zero =>
    intro i n hi hn
    obtain ⟨n, rfl⟩ : ∃ m, n = m + 1 := ⟨n - 1, by omega⟩
    obtain rfl : i = hsz v := by omega
    have hz : nS v fd (hsz v) 22 0 = nI (hsz v) := g.1
    simp (disch := omega) only [f_X2_wantNothing_2, hz, nI_leI, Nat.le_refl, if_true]
  | succ d ih =>
    intro i n hi hn
    obtain ⟨n, rfl⟩ : ∃ m, n = m + 1 := ⟨n - 1, by omega⟩
    have h1 : ¬ hsz v ≤ i := by omega
    have hz : nS v fd i 22 0 = nI (hsz v) := g.1
    have h0 : nS v fd i 0 i = v 0 i := rfl
    have e := ih (i + 1) n (by omega) (by omega)
    by_cases hc : v 0 i = fd
    · simp (disch := omega) only [f_X2_wantNothing_2, f_X2_wantNothing_27, hz, h0, pu_bnd, pu_some, pu_let, pu_inb, pu_rd, pu_wr, nI_1, nI_leI, nI_ltI, nI_eq, pu_lit, nI_add, pk_mul, h1, if_false, hc, if_true]
      rw [← e]
      congr 1
      refine vs_ext fun k j => ?_
      simp only [pu_wn, nS, pu_lts]
      by_cases hj : j = i
      · subst hj
        by_cases h9 : k = 9 <;> simp [h9, hc]
        rfl
      · simp [hj]
    · simp (disch := omega) only [f_X2_wantNothing_2, f_X2_wantNothing_27, hz, h0, pu_bnd, pu_some, pu_let, pu_inb, pu_rd, pu_wr, nI_1, nI_leI, nI_ltI, nI_eq, pu_lit, nI_add, pk_mul, h1, if_false, hc]
      rw [← e]
      congr 1
      refine vs_ext fun k j => ?_
      simp only [nS, pu_lts]
      by_cases hj : j = i
      · subst hj
        simp [hc]
      · simp [hj]
theorem sp_wantNothing {v : VS} (g : GA v) (fd : Int32) : f_X2_wantNothing v fd = some (nS v fd (hsz v)) := by
  have := g.2.1
  unfold f_X2_wantNothing
  have e := sp_wantNothing0 g fd (hsz v) 0 fuel (by omega) (fuel_gt (by omega))
  have e0 : nS v fd 0 = v := vs_ext fun k j => by simp [nS]
  rw [e0] at e
  exact e
/-- the reason of a house -/
def rsn (got dm cn could : Int32) (late : Bool) : Int32 := if got = dm then 0 else if cn = 0 then 1 else if dm ≤ could then (if late = true then 3 else 4) else 2
def rcv (v : VS) (h : Nat) (p : Int32) (late : Bool) : VS := wn (wn (wn (wn v 5 h p) 7 h (v 7 h + p)) 4 h (v 4 h - p)) 6 h (rsn p (v 1 h) (v 3 h) (v 8 h) late)
theorem sp_receive {v : VS} {h : Nat} (hh : h < 10) (p : Int32) (late : Bool) : f_X2_receive v (nI h) p (if late = true then 1 else 0) = some (rcv v h p late) := by
  have e5 : ∀ w : VS, (wn (wn (wn w 5 h p) 7 h (w 7 h + p)) 4 h (w 4 h - p)) 5 h = p := fun w => by rw [pu_wn_k _ _ _ _ (by decide), pu_wn_k _ _ _ _ (by decide), pu_wn_s]
  have e1 : ∀ w : VS, (wn (wn (wn w 5 h p) 7 h (w 7 h + p)) 4 h (w 4 h - p)) 1 h = w 1 h := fun w => by rw [pu_wn_k _ _ _ _ (by decide), pu_wn_k _ _ _ _ (by decide), pu_wn_k _ _ _ _ (by decide)]
  have e3 : ∀ w : VS, (wn (wn (wn w 5 h p) 7 h (w 7 h + p)) 4 h (w 4 h - p)) 3 h = w 3 h := fun w => by rw [pu_wn_k _ _ _ _ (by decide), pu_wn_k _ _ _ _ (by decide), pu_wn_k _ _ _ _ (by decide)]
  have e8 : ∀ w : VS, (wn (wn (wn w 5 h p) 7 h (w 7 h + p)) 4 h (w 4 h - p)) 8 h = w 8 h := fun w => by rw [pu_wn_k _ _ _ _ (by decide), pu_wn_k _ _ _ _ (by decide), pu_wn_k _ _ _ _ (by decide)]
  have f7 : ∀ w : VS, (wn w 5 h p) 7 h = w 7 h := fun w => pu_wn_k _ _ _ _ (by decide)
  have f4 : ∀ w : VS, (wn (wn w 5 h p) 7 h (w 7 h + p)) 4 h = w 4 h := fun w => by rw [pu_wn_k _ _ _ _ (by decide), pu_wn_k _ _ _ _ (by decide)]
  unfold f_X2_receive
  simp (disch := omega) only [pu_bnd, pu_inb, pu_rd, pu_wr, pu_let, f7, f4, f_X2_reasonOf, e5, e1, e3, e8]
  unfold rcv rsn
  by_cases c1 : p = v 1 h
  · simp only [c1, if_true, pu_some, pu_bnd, pu_let]
  · by_cases c2 : v 3 h = 0
    · simp only [c1, c2, if_true, if_false, pu_some, pu_bnd, pu_let]
    · by_cases c3 : v 1 h ≤ v 8 h
      · cases late <;> simp [c1, c2, c3, pu_some, pu_let]
      · simp only [c1, c2, c3, if_false, pu_some, pu_bnd, pu_let]

def cgv (v : VS) (b : Nat) : Int32 := jmin (v 16 b) (v 14 b)
theorem sp_canGive {v : VS} {b : Nat} (hb : b < 2) : f_X0_canGive v (nI b) = some (cgv v b) := by
  simp (disch := omega) only [f_X0_canGive, pu_bnd, pu_inb, pu_rd, cgv]
theorem sp_canGiveAll (v : VS) : f_X0_canGiveAll v = some (cgv v 0 + cgv v 1) := by
  simp (disch := omega) only [f_X0_canGiveAll, pu_lit, sp_canGive, pu_some]
def gvS (v : VS) (p : Int32) : VS :=
  wn (wn v 16 0 (v 16 0 - jmin p (cgv v 0))) 16 1 (v 16 1 - jmin (p - jmin p (cgv v 0)) (cgv v 1))
theorem sp_give (v : VS) (p : Int32) : f_X0_give v p = some (gvS v p) := by
  unfold f_X0_give
  obtain ⟨n, hn⟩ : ∃ n, fuel = n + 1 + 1 + 1 := ⟨99997, rfl⟩
  rw [hn]
  have e : ∀ x, cgv (wn v 16 0 x) 1 = cgv v 1 := fun x => by unfold cgv; rw [pu_wn_j _ _ _ _ (by decide), pu_wn_k _ _ _ _ (by decide)]
  have e1 : ∀ x, (wn v 16 0 x) 16 1 = v 16 1 := fun x => by rw [pu_wn_j _ _ _ _ (by decide)]
  simp (disch := omega) only [f_X0_give_4, pu_bnd, pu_some, pu_let, pu_inb, pu_rd, pu_wr, nI_1, nI_leI, nI_ltI, nI_eq, pu_lit, nI_add, pk_mul, sp_canGive, Nat.reduceLeDiff, Nat.reduceAdd, if_true, if_false, e, e1]
  rfl
def tk0 (v : VS) (b : Nat) (x : Int32) : Int32 :=
  jmin (if v 15 b ≤ 0 then 0 else ((v 13 b - v 16 b) * 100 + 99) / v 15 b) (jmin (v 14 b) x)
theorem sp_canTake {v : VS} {b : Nat} (hb : b < 2) (x : Int32) : f_X0_canTake v (nI b) x = some (tk0 v b x) := by
  unfold tk0
  by_cases h : v 15 b ≤ 0
  · simp (disch := omega) only [f_X0_canTake, f_X0_canTake_40, pu_bnd, pu_inb, pu_rd, pu_let, h, if_true]
  · have hz : nz (v 15 b) = true := by
      unfold nz
      refine decide_eq_true fun e => h ?_
      rw [e]
      decide
    simp (disch := omega) only [f_X0_canTake, f_X0_canTake_40, pu_bnd, pu_inb, pu_rd, pu_let, h, if_false, hz]
theorem sp_takeIn {v : VS} {b : Nat} (hb : b < 2) (x : Int32) : f_X0_takeIn v (nI b) x = some (x * v 15 b / 100, wn v 16 b (v 16 b + x * v 15 b / 100)) := by
  simp (disch := omega) only [f_X0_takeIn, pu_bnd, pu_inb, pu_rd, pu_wr, pu_let]
def stP (v : VS) (b : Nat) (x : Int32) : VS :=
  wn (wn v 16 b (v 16 b + tk0 v b x * v 15 b / 100)) 18 2 (v 18 2 + (tk0 v b x - tk0 v b x * v 15 b / 100))
def stS (v : VS) (x : Int32) : VS :=
  wn (stP (stP v 0 x) 1 (x - tk0 v 0 x)) 18 3 ((stP (stP v 0 x) 1 (x - tk0 v 0 x)) 18 3 + (x - tk0 v 0 x - tk0 (stP v 0 x) 1 (x - tk0 v 0 x)))
theorem sp_store (v : VS) (x : Int32) : f_X5_store v x = some (stS v x) := by
  unfold f_X5_store
  obtain ⟨n, hn⟩ : ∃ n, fuel = n + 1 + 1 + 1 := ⟨99997, rfl⟩
  rw [hn]
  simp (disch := omega) only [f_X5_store_4, pu_bnd, pu_some, pu_let, pu_inb, pu_rd, pu_wr, nI_1, nI_leI, nI_ltI, nI_eq, pu_lit, nI_add, pk_mul, sp_canTake, sp_takeIn, Nat.reduceLeDiff, Nat.reduceAdd, if_true, if_false]
  rfl
/-- the turns of shedding -/
def rs0 (v : VS) : VS := wn (wn (wn v 20 0 0) 20 1 0) 20 2 0
def trn (v : VS) : Nat := (v 22 4).toNatClampNeg
def shW (v : VS) : VS := if smF (ofF v (v 22 4) (v 9)) 0 (hsz v) 0 ≤ 0 then v else wn (wn (nS v (v 22 4) (hsz v)) 20 (trn v) 1) 19 (trn v) (v 19 (trn v) + 1)
def shS (v : VS) : VS := wn (shW v) 22 4 (nI (3 - trn v))
def wsum (v : VS) : Int32 := smF (v 9) 0 (hsz v) 0
def sh2 (v : VS) (av : Int32) : VS := if wsum v ≤ av then v else if wsum (shS v) ≤ av then shS v else shS (shS v)
theorem GA.congr {v w : VS} (g : GA v) (h : ∀ j, j < 3 → w 22 j = v 22 j) (h3 : ∃ m, m < 2 ^ 30 ∧ w 22 3 = nI m) (h4 : w 22 4 = nI 1 ∨ w 22 4 = nI 2) : GA w := by
  obtain ⟨m, hm, e3⟩ := h3
  unfold GA hsz lsz qsz hrz at *
  rw [h 0 (by decide), h 1 (by decide), h 2 (by decide), e3, nI_clamp (by omega)]
  exact ⟨g.1, g.2.1, g.2.2.1, g.2.2.2.1, g.2.2.2.2.1, g.2.2.2.2.2.1, g.2.2.2.2.2.2.1, rfl, hm, h4⟩
theorem GA.congr' {v w : VS} (g : GA v) (h : ∀ j, w 22 j = v 22 j) : GA w := g.congr (fun j _ => h j) ⟨hrz v, g.2.2.2.2.2.2.2.2.1, by rw [h 3]; exact g.2.2.2.2.2.2.2.1⟩ (by rw [h 4]; exact g.2.2.2.2.2.2.2.2.2)
theorem hsz_congr {v w : VS} (h : w 22 0 = v 22 0) : hsz w = hsz v := by unfold hsz; rw [h]
theorem trn_of {v : VS} (g : GA v) : (trn v = 1 ∨ trn v = 2) ∧ v 22 4 = nI (trn v) := by
  rcases g.2.2.2.2.2.2.2.2.2 with h | h <;> (unfold trn; rw [h, nI_clamp (by omega)]; simp)
theorem shW22 (v : VS) (j : Nat) : shW v 22 j = v 22 j := by
  unfold shW
  split
  · rfl
  · rw [pu_wn_k _ _ _ _ (by decide), pu_wn_k _ _ _ _ (by decide)]
    unfold nS
    rw [if_neg (fun z => absurd z.1 (by decide))]
theorem shS_GA {v : VS} (g : GA v) : GA (shS v) := by
  have h := trn_of g
  refine g.congr (fun j hj => ?_) ⟨hrz v, g.2.2.2.2.2.2.2.2.1, ?_⟩ ?_
  · unfold shS; rw [pu_wn_j _ _ _ _ (by omega), shW22]
  · unfold shS; rw [pu_wn_j _ _ _ _ (by omega), shW22]; exact g.2.2.2.2.2.2.2.1
  · unfold shS; rw [pu_wn_s]
    rcases h.1 with e | e <;> rw [e]
    · exact Or.inr rfl
    · exact Or.inl rfl
theorem shS_hsz {v : VS} (g : GA v) : hsz (shS v) = hsz v := hsz_congr (by unfold shS; rw [pu_wn_j _ _ _ _ (by omega), shW22])
theorem sp_shed1 {v : VS} (g : GA v) (av : Int32) (n x : Nat) (hx : x < 2) : f_X5_shed_22 av (n + 1) (nI x) v = if wsum v ≤ av then some v else f_X5_shed_22 av n (nI (x + 1)) (shS v) := by
  have h := trn_of g
  have ht : trn v < 3 := by omega
  have h2 : ¬ 2 ≤ x := by omega
  have h9 := sp_sum g (k := 9) (by decide)
  have hF := sp_sumFrom g (k := 9) (by decide) (v 22 4)
  have hN := sp_wantNothing g (v 22 4)
  simp (disch := omega) only [f_X5_shed_22, pu_bnd, pu_some, pu_let, pu_inb, pu_rd, pu_wr, nI_1, nI_leI, nI_ltI, nI_eq, pu_lit, nI_add, pk_mul, h2, if_false, h9, hF, hN]
  show (if wsum v ≤ av then some v else if smF (ofF v (v 22 4) (v 9)) 0 (hsz v) 0 ≤ 0 then _ else _) = _
  by_cases hw : wsum v ≤ av
  · rw [if_pos hw, if_pos hw]
  · rw [if_neg hw, if_neg hw]
    have k3 : ∀ w : VS, w 22 4 = v 22 4 → f_X5_shed_100 (f_X5_shed_22 av n) w av (nI x) = f_X5_shed_22 av n (nI (x + 1)) (wn w 22 4 (nI (3 - trn v))) := fun w hw => by
      unfold f_X5_shed_100 f_X5_shed_114
      rw [hw, h.2]
      rcases h.1 with e | e <;> rw [e] <;> simp (disch := omega) only [pu_let, pu_lit, nI_add, nI_eq, Nat.reduceSub, Nat.reduceEqDiff, if_true, if_false]
    by_cases hs : smF (ofF v (v 22 4) (v 9)) 0 (hsz v) 0 ≤ 0
    · rw [if_pos hs, k3 v rfl]
      unfold shS shW
      rw [if_pos hs]
    · rw [if_neg hs]
      have hn4 : nS v (v 22 4) (hsz v) 22 4 = nI (trn v) := by
        unfold nS
        rw [if_neg (fun z => absurd z.1 (by decide)), h.2]
      have hn19 : nS v (v 22 4) (hsz v) 19 (trn v) = v 19 (trn v) := by
        unfold nS
        rw [if_neg (fun z => absurd z.1 (by decide))]
      have q4 : ∀ x, (wn (nS v (v 22 4) (hsz v)) 20 (trn v) x) 22 4 = nI (trn v) := fun x => by rw [pu_wn_k _ _ _ _ (by decide), hn4]
      have q19 : ∀ x, (wn (nS v (v 22 4) (hsz v)) 20 (trn v) x) 19 (trn v) = v 19 (trn v) := fun x => by rw [pu_wn_k _ _ _ _ (by decide), hn19]
      simp (disch := omega) only [hn4, q4, q19, pu_inb, pu_bnd, pu_wr, pu_rd, pu_let]
      rw [k3 _ (by rw [pu_wn_k _ _ _ _ (by decide), q4, h.2])]
      unfold shS shW
      rw [if_neg hs]
      rfl
theorem sp_shed {v : VS} (g : GA v) (av : Int32) : f_X5_shed v av = some (sh2 (rs0 v) av) := by
  unfold f_X5_shed
  obtain ⟨n, hn⟩ : ∃ n, fuel = n + 1 + 1 + 1 + 1 := ⟨99996, rfl⟩
  have e : f_X5_shed_2 av fuel 0 v = f_X5_shed_22 av fuel 0 (rs0 v) := by
    rw [show f_X5_shed_2 av fuel 0 v = f_X5_shed_2 av (n + 1 + 1 + 1 + 1) 0 v by rw [hn]]
    simp (disch := omega) only [f_X5_shed_2, pu_bnd, pu_some, pu_let, pu_inb, pu_rd, pu_wr, nI_1, nI_leI, nI_ltI, nI_eq, pu_lit, nI_add, pk_mul, Nat.reduceLeDiff, Nat.reduceAdd, if_true, if_false]
    rfl
  rw [e, hn]
  have g0 : GA (rs0 v) := g.congr' fun j => by
    unfold rs0
    rw [pu_wn_k _ _ _ _ (by decide), pu_wn_k _ _ _ _ (by decide), pu_wn_k _ _ _ _ (by decide)]
  have e1 := sp_shed1 g0 av (n + 1 + 1 + 1) 0 (by decide)
  have e2 := sp_shed1 (shS_GA g0) av (n + 1 + 1) 1 (by decide)
  have e3 : ∀ w, f_X5_shed_22 av (n + 1 + 1) (nI (1 + 1)) w = some w := fun w => by
    simp (disch := omega) only [f_X5_shed_22, pu_bnd, pu_some, pu_let, pu_inb, pu_rd, pu_wr, nI_1, nI_leI, nI_ltI, nI_eq, pu_lit, nI_add, pk_mul, Nat.reduceLeDiff, Nat.reduceAdd, if_true]
  rw [e3] at e2
  rw [show (0 : Int32) = nI 0 from rfl, e1, e2]
  unfold sh2
  by_cases h1 : wsum (rs0 v) ≤ av
  · rw [if_pos h1, if_pos h1]
  · rw [if_neg h1, if_neg h1]
    by_cases h2 : wsum (shS (rs0 v)) ≤ av
    · rw [if_pos h2, if_pos h2]
    · rw [if_neg h2, if_neg h2]
def pt (v : VS) (w l : Int32) : Int32 := if l < w then (if l * 100 < w * v 17 3 then 0 else l) else w
theorem sp_partOf (v : VS) (w l : Int32) : f_X5_partOf v w l = some (pt v w l) := by
  unfold f_X5_partOf pt
  simp (disch := omega) only [pu_bnd, pu_some, pu_let, pu_inb, pu_rd, pu_wr, nI_1, nI_leI, nI_ltI, nI_eq, pu_lit, nI_add, pk_mul]
  by_cases h : l < w
  · by_cases h2 : l * nI 100 < w * v 17 3 <;> simp only [h, h2, if_true, if_false]
  · simp only [h, if_false]
def fe (v : VS) (j : Nat) : Nat := (v 0 j).toNatClampNeg
def late (v : VS) (j : Nat) : Bool := decide (v 20 (fe v j) = 1)
def SV (v : VS) (P : Nat → Bool) (g : Nat → Int32) : VS := fun k j => if P j = true then (if k = 5 then g j else if k = 7 then v 7 j + g j else if k = 4 then v 4 j - g j else if k = 6 then rsn (g j) (v 1 j) (v 3 j) (v 8 j) (late v j) else v k j) else v k j
def PP (v : VS) (f i j : Nat) : Bool := decide (j < hsz v ∧ (fe v j < f ∨ (fe v j = f ∧ j < i)))
def sv1 (v : VS) (f : Nat) : Nat → Nat → Int32 × (Nat → Int32) → Int32 × (Nat → Int32)
  | _, 0, s => s
  | i, d + 1, s => sv1 v f (i + 1) d (if fe v i = f then (s.1 - pt v (v 9 i) s.1, upd s.2 i (pt v (v 9 i) s.1)) else s)
def svAll (v : VS) (l : Int32) : Int32 × (Nat → Int32) := sv1 v 2 0 (hsz v) (sv1 v 1 0 (hsz v) (sv1 v 0 0 (hsz v) (l, fun _ => 0)))
theorem SV_same {v : VS} {P : Nat → Bool} {g : Nat → Int32} {k j : Nat} (h : P j = false ∨ (k ≠ 5 ∧ k ≠ 7 ∧ k ≠ 4 ∧ k ≠ 6)) : SV v P g k j = v k j := by
  unfold SV
  rcases h with h | ⟨h1, h2, h3, h4⟩
  · rw [h]
    rfl
  · rw [if_neg h1, if_neg h2, if_neg h3, if_neg h4]
    split <;> rfl
theorem SV_step (v : VS) (P P' : Nat → Bool) (g : Nat → Int32) (i : Nat) (p : Int32) (hP : P i = false) (hP' : ∀ j, P' j = (P j || decide (j = i))) : rcv (SV v P g) i p (late v i) = SV v P' (upd g i p) := by
  refine vs_ext fun k j => ?_
  unfold rcv
  simp only [pu_wn]
  rw [SV_same (k := 7) (j := i) (Or.inl hP), SV_same (k := 4) (j := i) (Or.inl hP), SV_same (k := 1) (j := i) (Or.inl hP), SV_same (k := 3) (j := i) (Or.inl hP), SV_same (k := 8) (j := i) (Or.inl hP)]
  by_cases hj : j = i
  · subst hj
    rw [SV_same (k := k) (j := j) (Or.inl hP)]
    unfold SV
    have hp : P' j = true := by rw [hP']; simp
    rw [if_pos hp]
    have hu : upd g j p j = p := by simp [upd]
    rw [hu]
    by_cases h6 : k = 6
    · subst h6; simp
    · by_cases h4 : k = 4
      · subst h4; simp
      · by_cases h7 : k = 7
        · subst h7; simp
        · simp [h4, h6, h7]
  · have hp : P' j = P j := by rw [hP']; simp [hj]
    have hu : upd g i p j = g j := by simp [upd, hj]
    unfold SV
    rw [hp, hu]
    simp [hj]
theorem SV_congrP (v : VS) {P P' : Nat → Bool} (g : Nat → Int32) (h : ∀ j, P j = P' j) : SV v P g = SV v P' g := by
  rw [show P = P' from funext h]
def GF (v : VS) : Prop := ∀ j, j < hsz v → fe v j < 3 ∧ v 0 j = nI (fe v j)
theorem sp_serve1 {v : VS} (g : GA v) (gf : GF v) (K : Int32 → Int32 → VS → Option (Int32 × VS)) (x1 : Int32) {f : Nat} (hf : f < 3) : ∀ (d i n : Nat) (s : Int32 × (Nat → Int32)), i + d = hsz v → d < n →
    f_X5_serve_12 K x1 (nI f) n s.1 (nI i) (SV v (PP v f i) s.2) = K (sv1 v f i d s).1 (nI (f + 1)) (SV v (PP v f (hsz v)) (sv1 v f i d s).2) := by
  have h10 := g.2.1
  have h22 : ∀ (P : Nat → Bool) (w : Nat → Int32), SV v P w 22 0 = nI (hsz v) := fun P w => by rw [SV_same (Or.inr (by decide))]; exact g.1
  intro d
  induction d with
  | zero =>
    intro i n s hi hn
    obtain ⟨n, rfl⟩ : ∃ m, n = m + 1 := ⟨n - 1, by omega⟩
    obtain rfl : i = hsz v := by omega
    simp (disch := omega) only [f_X5_serve_12, h22, pu_bnd, pu_some, pu_let, pu_inb, pu_rd, pu_wr, nI_1, nI_leI, nI_ltI, nI_eq, pu_lit, nI_add, pk_mul, Nat.le_refl, if_true]
    rfl
  | succ d ih =>
    intro i n s hi hn
    obtain ⟨n, rfl⟩ : ∃ m, n = m + 1 := ⟨n - 1, by omega⟩
    have h1 : ¬ hsz v ≤ i := by omega
    have h0 : SV v (PP v f i) s.2 0 i = nI (fe v i) := by rw [SV_same (Or.inr (by decide))]; exact (gf i (by omega)).2
    have hfe := (gf i (by omega)).1
    have h9 : SV v (PP v f i) s.2 9 i = v 9 i := SV_same (Or.inr (by decide))
    have h17 : ∀ w l, pt (SV v (PP v f i) s.2) w l = pt v w l := fun w l => by
      unfold pt
      rw [SV_same (Or.inr (by decide))]
    have h20 : SV v (PP v f i) s.2 20 f = v 20 f := SV_same (Or.inr (by decide))
    simp (disch := omega) only [f_X5_serve_12, h22, h0, pu_bnd, pu_some, pu_let, pu_inb, pu_rd, pu_wr, nI_1, nI_leI, nI_ltI, nI_eq, pu_lit, nI_add, pk_mul, h1, if_false, sp_partOf, h9, h17, h20]
    show _ = K (sv1 v f (i + 1) d _).1 _ (SV v _ (sv1 v f (i + 1) d _).2)
    by_cases hc : fe v i = f
    · rw [if_pos hc, if_pos hc]
      have e := ih (i + 1) n (s.1 - pt v (v 9 i) s.1, upd s.2 i (pt v (v 9 i) s.1)) (by omega) (by omega)
      rw [← e]
      have hst := SV_step v (PP v f i) (PP v f (i + 1)) s.2 i (pt v (v 9 i) s.1) (by unfold PP; simp; omega) (fun j => by
        unfold PP
        rw [← Bool.decide_or]
        refine decide_eq_decide.mpr ?_
        constructor
        · intro h; by_cases hj : j = i
          · exact Or.inr hj
          · exact Or.inl (by omega)
        · rintro (h | h)
          · omega
          · subst h; omega)
      have hl : late v i = decide (v 20 f = 1) := by unfold late; rw [hc]
      rw [hl] at hst
      unfold f_X5_serve_78 f_X5_serve_86
      by_cases ht : v 20 f = 1
      · rw [if_pos (show v 20 f = nI 1 from ht)]
        rw [decide_eq_true ht] at hst
        have er := sp_receive (v := SV v (PP v f i) s.2) (h := i) (by omega) (pt v (v 9 i) s.1) true
        rw [if_pos rfl] at er
        rw [show (nI 1 : Int32) = 1 from rfl, er, hst]
        simp only [pu_let, pu_some, nI_1]
      · rw [if_neg (show ¬ v 20 f = nI 1 from ht)]
        rw [decide_eq_false ht] at hst
        have er := sp_receive (v := SV v (PP v f i) s.2) (h := i) (by omega) (pt v (v 9 i) s.1) false
        rw [if_neg (by decide)] at er
        rw [show (nI 0 : Int32) = 0 from rfl, er, hst]
        simp only [pu_let, pu_some, nI_1]
    · rw [if_neg hc, if_neg hc]
      have e := ih (i + 1) n s (by omega) (by omega)
      rw [← e]
      unfold f_X5_serve_86
      rw [SV_congrP v s.2 (P := PP v f i) (P' := PP v f (i + 1)) (fun j => by
        unfold PP
        refine decide_eq_decide.mpr ?_
        constructor
        · intro h; omega
        · intro h
          by_cases hj : j = i
          · subst hj; omega
          · omega)]
      simp only [pu_let, nI_1]
theorem sp_serve {v : VS} (g : GA v) (gf : GF v) (av : Int32) : f_X5_serve v av = some (av - (svAll v av).1, SV v (fun j => decide (j < hsz v)) (svAll v av).2) := by
  have h10 := g.2.1
  unfold f_X5_serve
  obtain ⟨n, hn⟩ : ∃ n, fuel = n + 1 + 1 + 1 + 1 := ⟨99996, rfl⟩
  rw [show f_X5_serve_4 av fuel av 0 v = f_X5_serve_4 av (n + 1 + 1 + 1 + 1) av 0 v by rw [hn]]
  have e0 : SV v (PP v 0 0) (fun _ => 0) = v := vs_ext fun k j => SV_same (Or.inl (by unfold PP; simp))
  have en : ∀ f, f < 3 → ∀ w, SV v (PP v f (hsz v)) w = SV v (PP v (f + 1) 0) w := fun f hf w => SV_congrP v w fun j => by
    unfold PP
    refine decide_eq_decide.mpr ?_
    constructor <;> intro h <;> omega
  have st : ∀ f, f < 3 → ∀ (m : Nat) (s : Int32 × (Nat → Int32)), f_X5_serve_4 av (m + 1) s.1 (nI f) (SV v (PP v f 0) s.2) = f_X5_serve_4 av m (sv1 v f 0 (hsz v) s).1 (nI (f + 1)) (SV v (PP v (f + 1) 0) (sv1 v f 0 (hsz v) s).2) := fun f hf m s => by
    have h2 : ¬ 3 ≤ f := by omega
    simp (disch := omega) only [f_X5_serve_4, pu_bnd, pu_some, pu_let, pu_inb, pu_rd, pu_wr, nI_1, nI_leI, nI_ltI, nI_eq, pu_lit, nI_add, pk_mul, h2, if_false]
    rw [show nI 0 = nI 0 from rfl, sp_serve1 g gf _ av hf (hsz v) 0 fuel s (by omega) (fuel_gt (by omega)), en f hf]
  have s0 := st 0 (by decide) (n + 1 + 1 + 1) (av, fun _ => 0)
  rw [e0] at s0
  have s1 := st 1 (by decide) (n + 1 + 1) (sv1 v 0 0 (hsz v) (av, fun _ => 0))
  have s2 := st 2 (by decide) (n + 1) (sv1 v 1 0 (hsz v) (sv1 v 0 0 (hsz v) (av, fun _ => 0)))
  rw [show (0 : Int32) = nI 0 from rfl]
  refine s0.trans (s1.trans (s2.trans ?_))
  simp (disch := omega) only [f_X5_serve_4, pu_bnd, pu_some, pu_let, pu_inb, pu_rd, pu_wr, nI_1, nI_leI, nI_ltI, nI_eq, pu_lit, nI_add, pk_mul, Nat.reduceLeDiff, Nat.reduceAdd, if_true]
  rw [SV_congrP v _ (P := PP v 3 0) (P' := fun j => decide (j < hsz v)) (fun j => by
    unfold PP
    refine decide_eq_decide.mpr ?_
    constructor
    · intro h; omega
    · intro h; have := (gf j h).1; omega)]
  rfl
def sup (v : VS) (h : Nat) : Int32 := v 21 (h % qsz v)
theorem pu_xor (a b : Nat) : nI a ^^^ nI b = nI (a ^^^ b) := by
  unfold nI
  refine Int32.toBitVec_inj.mp ?_
  rw [Int32.toBitVec_xor]
  exact BitVec.ofNat_xor.symm
theorem sp_fmod {a b : Nat} (ha : a < 2 ^ 31) (h0 : 0 < b) (hb : b < 2 ^ 31) : f_J9_floorMod_7cf53 (nI a) (nI b) = some (nI (a % b)) := by
  have hz : nz (nI b) = true := pu_nz h0 hb
  have hx : a ^^^ b < 2 ^ 31 := Nat.xor_lt_two_pow ha hb
  unfold f_J9_floorMod_7cf53
  rw [hz, pu_bnd, pu_let, pu_xor, if_pos (nI_pos' hx), pk_rem ha h0 hb]
theorem sp_supplyOf {v : VS} (g : GA v) {h : Nat} (hh : h < 2 ^ 31) : f_X5_supplyOf v (nI h) = some (sup v h) := by
  have hq := g.2.2.2.2.1
  have h1 := g.2.2.2.2.2.1
  have h2 := g.2.2.2.2.2.2.1
  have hlt : h % qsz v < qsz v := Nat.mod_lt _ (by omega)
  have h0 : ¬ qsz v ≤ 0 := by omega
  unfold f_X5_supplyOf
  rw [hq, sp_fmod hh (by omega) (by omega), pu_some]
  simp (disch := omega) only [pu_lit, nI_leI, h0, if_false, pu_bnd, pu_inb, pu_rd]
  rfl
def avl (v : VS) : Int32 := sup v (hrz v) + (cgv v 0 + cgv v 1)
def v1S (v : VS) : VS := wS v (fun j => cdr (v 4 j) (v 1 j) (v 3 j) (v 17 0)) (hsz v)
def v2S (v : VS) : VS := sh2 (rs0 (v1S v)) (avl v)
def v3S (v : VS) : VS := SV (v2S v) (fun j => decide (j < hsz (v2S v))) (svAll (v2S v) (avl v)).2
def dlv (v : VS) : Int32 := avl v - (svAll (v2S v) (avl v)).1
def v4S (v : VS) : VS := wn (wn (v3S v) 18 0 (v3S v 18 0 + sup v (hrz v))) 18 1 (v3S v 18 1 + dlv v)
def v5S (v : VS) : VS := if dlv v ≤ sup v (hrz v) then stS (v4S v) (sup v (hrz v) - dlv v) else gvS (v4S v) (dlv v - sup v (hrz v))
def PH (v : VS) : VS := wn (v5S v) 22 3 (v5S v 22 3 + 1)
theorem sh2_same {v : VS} {av : Int32} {k j : Nat} (h : ∀ w : VS, w k j = v k j → shS w k j = v k j) : sh2 v av k j = v k j := by
  unfold sh2
  split
  · rfl
  · split
    · exact h v rfl
    · exact h _ (h v rfl)
theorem shS_same (v : VS) {k j : Nat} (h : k ≠ 9 ∧ k ≠ 20 ∧ k ≠ 19 ∧ ¬ (k = 22 ∧ j = 4)) : shS v k j = v k j := by
  unfold shS shW
  rw [pu_wn, if_neg h.2.2.2]
  split
  · rfl
  · rw [pu_wn_k _ _ _ _ h.2.2.1, pu_wn_k _ _ _ _ h.2.1]
    unfold nS
    rw [if_neg (fun z => h.1 z.1)]
theorem rs0_same (v : VS) {k j : Nat} (h : k ≠ 20) : rs0 v k j = v k j := by
  unfold rs0
  rw [pu_wn_k _ _ _ _ h, pu_wn_k _ _ _ _ h, pu_wn_k _ _ _ _ h]
theorem v1S_same (v : VS) {k j : Nat} (h : k ≠ 8 ∧ k ≠ 9) : v1S v k j = v k j := by
  unfold v1S wS
  rw [if_neg (fun z => by rcases z.1 with e | e; exact h.1 e; exact h.2 e)]
theorem v2S_same (v : VS) {k j : Nat} (h : k ≠ 8 ∧ k ≠ 9 ∧ k ≠ 20 ∧ k ≠ 19 ∧ ¬ (k = 22 ∧ j = 4)) : v2S v k j = v k j := by
  unfold v2S
  rw [sh2_same (fun w hw => by rw [shS_same w ⟨h.2.1, h.2.2.1, h.2.2.2.1, h.2.2.2.2⟩, hw]), rs0_same _ h.2.2.1, v1S_same _ ⟨h.1, h.2.1⟩]
theorem v1S_GA {v : VS} (g : GA v) : GA (v1S v) := g.congr' fun j => v1S_same v (by decide)
theorem rs0_GA {v : VS} (g : GA v) : GA (rs0 v) := g.congr' fun j => rs0_same v (by decide)
theorem sh2_GA {v : VS} (g : GA v) (av : Int32) : GA (sh2 v av) := by
  unfold sh2
  split
  · exact g
  · split
    · exact shS_GA g
    · exact shS_GA (shS_GA g)
theorem v2S_GA {v : VS} (g : GA v) : GA (v2S v) := sh2_GA (rs0_GA (v1S_GA g)) _
theorem v2S_hsz (v : VS) : hsz (v2S v) = hsz v := hsz_congr (v2S_same v (by decide))
theorem v2S_fe (v : VS) (j : Nat) : fe (v2S v) j = fe v j := by
  unfold fe
  rw [v2S_same v (by omega)]
theorem v2S_GF {v : VS} (gf : GF v) : GF (v2S v) := fun j hj => by
  rw [v2S_hsz] at hj
  rw [v2S_fe, v2S_same v (by omega)]
  exact gf j hj
theorem GF.of {v : VS} (g : GH v) : GF v := fun j hj => by
  obtain ⟨⟨f, hf, e⟩, _⟩ := g j hj
  unfold fe
  rw [e, nI_clamp (by omega)]
  exact ⟨hf, rfl⟩
theorem sp_passHour {v : VS} (g : GA v) (gf : GF v) : f_X5_passHour v = some (PH v) := by
  unfold f_X5_passHour
  have h3 := g.2.2.2.2.2.2.2.1
  have hh := g.2.2.2.2.2.2.2.2.1
  rw [h3, sp_supplyOf g (by omega), pu_some, sp_canGiveAll, pu_some]
  simp (disch := omega) only [pu_let, pu_lit, pu_inb, pu_bnd, pu_rd]
  have e1 : f_X5_shed (wS v (fun j => cdr (v 4 j) (v 1 j) (v 3 j) (v 17 0)) (hsz v)) (sup v (hrz v) + (cgv v 0 + cgv v 1)) = some (v2S v) := sp_shed (v1S_GA g) (avl v)
  have e2 : f_X5_serve (v2S v) (sup v (hrz v) + (cgv v 0 + cgv v 1)) = some (dlv v, v3S v) := sp_serve (v2S_GA g) (v2S_GF gf) (avl v)
  rw [sp_wantAll g, pu_some, e1, pu_some, e2, pu_some]
  simp (disch := omega) only [pu_wr]
  show (if dlv v ≤ sup v (hrz v) then bnd2 (f_X5_store (v4S v) (sup v (hrz v) - dlv v)) _ else bnd2 (f_X0_give (v4S v) (dlv v - sup v (hrz v))) _) = _
  unfold PH v5S
  split
  · rw [sp_store]; rfl
  · rw [sp_give]; rfl

