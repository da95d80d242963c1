/-! the class's small programs: what they answer -/
theorem pu_lts (j i : Nat) : (j < i + 1) = (j < i ∨ j = i) := propext (by omega)
def smF (f : Nat → Int32) : Nat → Nat → Int32 → Int32
  | _, 0, acc => acc
  | i, d + 1, acc => smF f (i + 1) d (acc + f i)
theorem smF_congr {f g : Nat → Int32} : ∀ (d i : Nat) (acc : Int32), (∀ j, i ≤ j → j < i + d → f j = g j) → smF f i d acc = smF g i d acc := by
  intro d
  induction d with
  | zero => intro i acc h; rfl
  | succ d ih =>
    intro i acc h
    show smF f (i + 1) d (acc + f i) = smF g (i + 1) d (acc + g i)
    rw [h i (Nat.le_refl _) (by omega)]
    exact ih (i + 1) _ (fun j h1 h2 => h j (by omega) (by omega))
theorem sp_sum0 {v : VS} (g : GA v) {k : Nat} (hk : hsz v ≤ vlen k) : ∀ (d i n : Nat) (acc : Int32), i + d = hsz v → d < n → vlen k < 2 ^ 31 → f_X2_sum_4 k v n acc (nI i) = some (smF (v k) i d acc) := by
  have h10 := g.2.1
  intro d
  induction d with
  | zero =>
    intro i n acc hi hn hv
    obtain ⟨n, rfl⟩ : ∃ m, n = m + 1 := ⟨n - 1, by omega⟩
    have h1 : hsz v ≤ i := by omega
    simp (disch := omega) only [f_X2_sum_4, g.1, pu_bnd, pu_some, pu_let, pu_inb, pu_rd, pu_wr, nI_1, nI_leI, nI_ltI, nI_eq, pu_lit, nI_add, pk_mul, h1, if_true]
    rfl
  | succ d ih =>
    intro i n acc hi hn hv
    obtain ⟨n, rfl⟩ : ∃ m, n = m + 1 := ⟨n - 1, by omega⟩
    have h1 : ¬ hsz v ≤ i := by omega
    simp (disch := omega) only [f_X2_sum_4, g.1, pu_bnd, pu_some, pu_let, pu_inb, pu_rd, pu_wr, nI_1, nI_leI, nI_ltI, nI_eq, pu_lit, nI_add, pk_mul, h1, if_false]
    exact ih (i + 1) n _ (by omega) (by omega) hv
theorem sp_sum {v : VS} (g : GA v) {k : Nat} (hk : k < 10) : f_X2_sum k v = some (smF (v k) 0 (hsz v) 0) := by
  have hl : vlen k = 10 := by
    match k, hk with
    | 0, _ => rfl
    | 1, _ => rfl
    | 2, _ => rfl
    | 3, _ => rfl
    | 4, _ => rfl
    | 5, _ => rfl
    | 6, _ => rfl
    | 7, _ => rfl
    | 8, _ => rfl
    | 9, _ => rfl
    | k + 10, h => exact absurd h (by omega)
  have := g.2.1
  unfold f_X2_sum
  exact sp_sum0 g (by omega) (hsz v) 0 fuel 0 (by omega) (fuel_gt (by omega)) (by omega)
/-- a sum over the houses of a feeder -/
def ofF (v : VS) (fd : Int32) (f : Nat → Int32) : Nat → Int32 := fun j => if v 0 j = fd then f j else 0
theorem sp_sumFrom0 {v : VS} (g : GA v) {k : Nat} {fd : Int32} (hk : hsz v ≤ vlen k) (hv : vlen k < 2 ^ 31) : ∀ (d i n : Nat) (acc : Int32), i + d = hsz v → d < n → f_X2_sumFrom_5 k v fd n acc (nI i) = some (smF (ofF v fd (v k)) i d acc) := by
  have h10 := g.2.1
  intro d
  induction d with
  | zero =>
    intro i n acc hi hn
    obtain ⟨n, rfl⟩ : ∃ m, n = m + 1 := ⟨n - 1, by omega⟩
    have h1 : hsz v ≤ i := by omega
    simp (disch := omega) only [f_X2_sumFrom_5, g.1, pu_bnd, pu_some, pu_let, pu_inb, pu_rd, pu_wr, nI_1, nI_leI, nI_ltI, nI_eq, pu_lit, nI_add, pk_mul, h1, if_true]
    rfl
  | succ d ih =>
    intro i n acc hi hn
    obtain ⟨n, rfl⟩ : ∃ m, n = m + 1 := ⟨n - 1, by omega⟩
    have h1 : ¬ hsz v ≤ i := by omega
    have e := ih (i + 1) n (acc + ofF v fd (v k) i) (by omega) (by omega)
    show _ = some (smF _ (i + 1) d (acc + ofF v fd (v k) i))
    by_cases hc : v 0 i = fd
    · simp (disch := omega) only [f_X2_sumFrom_5, f_X2_sumFrom_34, g.1, pu_bnd, pu_some, pu_let, pu_inb, pu_rd, pu_wr, nI_1, nI_leI, nI_ltI, nI_eq, pu_lit, nI_add, pk_mul, h1, if_false, hc, if_true]
      rw [← e, ofF, if_pos hc]
    · simp (disch := omega) only [f_X2_sumFrom_5, f_X2_sumFrom_34, g.1, pu_bnd, pu_some, pu_let, pu_inb, pu_rd, pu_wr, nI_1, nI_leI, nI_ltI, nI_eq, pu_lit, nI_add, pk_mul, h1, if_false, hc]
      rw [← e, ofF, if_neg hc]
      rfl
theorem vlen10 {k : Nat} (hk : k < 10) : vlen k = 10 := by
    match k, hk with
    | 0, _ => rfl
    | 1, _ => rfl
    | 2, _ => rfl
    | 3, _ => rfl
    | 4, _ => rfl
    | 5, _ => rfl
    | 6, _ => rfl
    | 7, _ => rfl
    | 8, _ => rfl
    | 9, _ => rfl
    | k + 10, h => exact absurd h (by omega)
theorem sp_sumFrom {v : VS} (g : GA v) {k : Nat} (hk : k < 10) (fd : Int32) : f_X2_sumFrom k v fd = some (smF (ofF v fd (v k)) 0 (hsz v) 0) := by
  have := g.2.1
  unfold f_X2_sumFrom
  exact sp_sumFrom0 g (by rw [vlen10 hk]; omega) (by rw [vlen10 hk]; decide) (hsz v) 0 fuel 0 (by omega) (fuel_gt (by omega))
/-- what a house can draw -/
def cdr (cr dm cn od : Int32) : Int32 := if cn = 0 then 0 else jmax 0 (jmin dm (cr + od))
theorem sp_canDraw {v : VS} {h : Nat} (hh : h < 10) (od : Int32) : f_X2_canDraw v (nI h) od = some (cdr (v 4 h) (v 1 h) (v 3 h) od) := by
  unfold cdr
  by_cases hc : v 3 h = 0
  · simp (disch := omega) only [f_X2_canDraw, pu_bnd, pu_inb, pu_rd, hc, if_true]
  · simp (disch := omega) only [f_X2_canDraw, pu_bnd, pu_inb, pu_rd, hc, if_false]
def wS (v : VS) (c : Nat → Int32) (i : Nat) : VS := fun k j => if (k = 8 ∨ k = 9) ∧ j < i then c j else v k j
theorem wS_step (v : VS) (c : Nat → Int32) (i : Nat) : wn (wn (wS v c i) 8 i (c i)) 9 i (c i) = wS v c (i + 1) := by
  refine vs_ext fun k j => ?_
  simp only [pu_wn, wS, pu_lts]
  by_cases h8 : k = 8 <;> by_cases h9 : k = 9 <;> by_cases hj : j = i <;> by_cases hl : j < i <;> simp [h8, h9, hj, hl] <;> omega
theorem sp_wantAll0 {v : VS} (g : GA v) (od : Int32) : ∀ (d i n : Nat), i + d = hsz v → d < n → f_X2_wantAll_2 od n (nI i) (wS v (fun j => cdr (v 4 j) (v 1 j) (v 3 j) od) i) = some (wS v (fun j => cdr (v 4 j) (v 1 j) (v 3 j) od) (hsz v)) := by
  have h10 := g.2.1
  intro d
  induction d with
  | zero =>
    intro i n hi hn
    obtain ⟨n, rfl⟩ : ∃ m, n = m + 1 := ⟨n - 1, by omega⟩
    obtain rfl : i = hsz v := by omega
    have hz : wS v (fun j => cdr (v 4 j) (v 1 j) (v 3 j) od) (hsz v) 22 0 = nI (hsz v) := g.1
    simp (disch := omega) only [f_X2_wantAll_2, hz, nI_leI, Nat.le_refl, if_true]
  | succ d ih =>
    intro i n hi hn
    obtain ⟨n, rfl⟩ : ∃ m, n = m + 1 := ⟨n - 1, by omega⟩
    have h1 : ¬ hsz v ≤ i := by omega
    have hz : wS v (fun j => cdr (v 4 j) (v 1 j) (v 3 j) od) i 22 0 = nI (hsz v) := g.1
    simp (disch := omega) only [f_X2_wantAll_2, hz, sp_canDraw, pu_bnd, pu_some, pu_let, pu_inb, pu_rd, pu_wr, nI_1, nI_leI, nI_ltI, nI_eq, pu_lit, nI_add, pk_mul, h1, if_false]
    rw [← ih (i + 1) n (by omega) (by omega), ← wS_step]
    rw [pu_wn_s]
    rfl
theorem sp_wantAll {v : VS} (g : GA v) (od : Int32) : f_X2_wantAll v od = some (wS v (fun j => cdr (v 4 j) (v 1 j) (v 3 j) od) (hsz v)) := by
  have := g.2.1
  unfold f_X2_wantAll
  have e := sp_wantAll0 g od (hsz v) 0 fuel (by omega) (fuel_gt (by omega))
  have e0 : wS v (fun j => cdr (v 4 j) (v 1 j) (v 3 j) od) 0 = v := vs_ext fun k j => by simp [wS]
  rw [e0] at e
  exact e
def nS (v : VS) (fd : Int32) (i : Nat) : VS := fun k j => if k = 9 ∧ j < i ∧ v 0 j = fd then 0 else v k j
theorem sp_wantNothing0 {v : VS} (g : GA v) (fd : Int32) : ∀ (d i n : Nat), i + d = hsz v → d < n → f_X2_wantNothing_2 fd n (nI i) (nS v fd i) = some (nS v fd (hsz v)) := by
  have h10 := g.2.1
  intro d
  induction d with
  | zero =>
    intro i n hi hn
    obtain ⟨n, rfl⟩ : ∃ m, n = m + 1 := ⟨n - 1, by omega⟩
    obtain rfl : i = hsz v := by omega
    have hz : nS v fd (hsz v) 22 0 = nI (hsz v) := g.1
    simp (disch := omega) only [f_X2_wantNothing_2, hz, nI_leI, Nat.le_refl, if_true]
  | succ d ih =>
    intro i n hi hn
    obtain ⟨n, rfl⟩ : ∃ m, n = m + 1 := ⟨n - 1, by omega⟩
    have h1 : ¬ hsz v ≤ i := by omega
    have hz : nS v fd i 22 0 = nI (hsz v) := g.1
    have h0 : nS v fd i 0 i = v 0 i := rfl
    have e := ih (i + 1) n (by omega) (by omega)
    by_cases hc : v 0 i = fd
    · simp (disch := omega) only [f_X2_wantNothing_2, f_X2_wantNothing_27, hz, h0, pu_bnd, pu_some, pu_let, pu_inb, pu_rd, pu_wr, nI_1, nI_leI, nI_ltI, nI_eq, pu_lit, nI_add, pk_mul, h1, if_false, hc, if_true]
      rw [← e]
      congr 1
      refine vs_ext fun k j => ?_
      simp only [pu_wn, nS, pu_lts]
      by_cases hj : j = i
      · subst hj
        by_cases h9 : k = 9 <;> simp [h9, hc]
        rfl
      · simp [hj]
    · simp (disch := omega) only [f_X2_wantNothing_2, f_X2_wantNothing_27, hz, h0, pu_bnd, pu_some, pu_let, pu_inb, pu_rd, pu_wr, nI_1, nI_leI, nI_ltI, nI_eq, pu_lit, nI_add, pk_mul, h1, if_false, hc]
      rw [← e]
      congr 1
      refine vs_ext fun k j => ?_
      simp only [nS, pu_lts]
      by_cases hj : j = i
      · subst hj
        simp [hc]
      · simp [hj]
theorem sp_wantNothing {v : VS} (g : GA v) (fd : Int32) : f_X2_wantNothing v fd = some (nS v fd (hsz v)) := by
  have := g.2.1
  unfold f_X2_wantNothing
  have e := sp_wantNothing0 g fd (hsz v) 0 fuel (by omega) (fuel_gt (by omega))
  have e0 : nS v fd 0 = v := vs_ext fun k j => by simp [nS]
  rw [e0] at e
  exact e
/-- the reason of a house -/
def rsn (got dm cn could : Int32) (late : Bool) : Int32 := if got = dm then 0 else if cn = 0 then 1 else if dm ≤ could then (if late = true then 3 else 4) else 2
def rcv (v : VS) (h : Nat) (p : Int32) (late : Bool) : VS := wn (wn (wn (wn v 5 h p) 7 h (v 7 h + p)) 4 h (v 4 h - p)) 6 h (rsn p (v 1 h) (v 3 h) (v 8 h) late)
theorem sp_receive {v : VS} {h : Nat} (hh : h < 10) (p : Int32) (late : Bool) : f_X2_receive v (nI h) p (if late = true then 1 else 0) = some (rcv v h p late) := by
  have e5 : ∀ w : VS, (wn (wn (wn w 5 h p) 7 h (w 7 h + p)) 4 h (w 4 h - p)) 5 h = p := fun w => by rw [pu_wn_k _ _ _ _ (by decide), pu_wn_k _ _ _ _ (by decide), pu_wn_s]
  have e1 : ∀ w : VS, (wn (wn (wn w 5 h p) 7 h (w 7 h + p)) 4 h (w 4 h - p)) 1 h = w 1 h := fun w => by rw [pu_wn_k _ _ _ _ (by decide), pu_wn_k _ _ _ _ (by decide), pu_wn_k _ _ _ _ (by decide)]
  have e3 : ∀ w : VS, (wn (wn (wn w 5 h p) 7 h (w 7 h + p)) 4 h (w 4 h - p)) 3 h = w 3 h := fun w => by rw [pu_wn_k _ _ _ _ (by decide), pu_wn_k _ _ _ _ (by decide), pu_wn_k _ _ _ _ (by decide)]
  have e8 : ∀ w : VS, (wn (wn (wn w 5 h p) 7 h (w 7 h + p)) 4 h (w 4 h - p)) 8 h = w 8 h := fun w => by rw [pu_wn_k _ _ _ _ (by decide), pu_wn_k _ _ _ _ (by decide), pu_wn_k _ _ _ _ (by decide)]
  have f7 : ∀ w : VS, (wn w 5 h p) 7 h = w 7 h := fun w => pu_wn_k _ _ _ _ (by decide)
  have f4 : ∀ w : VS, (wn (wn w 5 h p) 7 h (w 7 h + p)) 4 h = w 4 h := fun w => by rw [pu_wn_k _ _ _ _ (by decide), pu_wn_k _ _ _ _ (by decide)]
  unfold f_X2_receive
  simp (disch := omega) only [pu_bnd, pu_inb, pu_rd, pu_wr, pu_let, f7, f4, f_X2_reasonOf, e5, e1, e3, e8]
  unfold rcv rsn
  by_cases c1 : p = v 1 h
  · simp only [c1, if_true, pu_some, pu_bnd, pu_let]
  · by_cases c2 : v 3 h = 0
    · simp only [c1, c2, if_true, if_false, pu_some, pu_bnd, pu_let]
    · by_cases c3 : v 1 h ≤ v 8 h
      · cases late <;> simp [c1, c2, c3, pu_some, pu_let]
      · simp only [c1, c2, c3, if_false, pu_some, pu_bnd, pu_let]
