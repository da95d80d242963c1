/-! the text: items -/
def w7 (R : RS) (i : Nat) (x : Int32) : RS := setR R (wn R.1 7 i x)
theorem w77 (R : RS) (i : Nat) (x : Int32) (j : Nat) : (w7 R i x).1 7 j = if j = i then x else R.1 7 j := by
  show wn R.1 7 i x 7 j = _
  rw [pu_wn]
  simp
theorem w7k (R : RS) (i : Nat) (x : Int32) {k : Nat} (hk : k ≠ 7) : (w7 R i x).1 k = R.1 k := funext fun j => pu_wn_k _ _ _ _ hk
def Fx (v v' : VS) : Prop := ∀ k j, k ≠ 1 → ¬ (k = 2 ∧ 1 ≤ j ∧ j ≤ 3) → v' k j = v k j
def Fy (R R' : RS) : Prop := R'.2 = R.2 ∧ (∀ k, k ≠ 6 → k ≠ 7 → R'.1 k = R.1 k) ∧ ∀ j, j < 3 → R'.1 7 j = R.1 7 j
theorem Fx.rfl' (v : VS) : Fx v v := fun _ _ _ _ => rfl
theorem Fy.rfl' (R : RS) : Fy R R := ⟨rfl, fun _ _ _ => rfl, fun _ _ => rfl⟩
theorem Fx.trans {u v w : VS} (h : Fx u v) (h' : Fx v w) : Fx u w := fun k j h1 h2 => (h' k j h1 h2).trans (h k j h1 h2)
theorem Fy.trans {R R' R'' : RS} (h : Fy R R') (h' : Fy R' R'') : Fy R R'' := ⟨h'.1.trans h.1, fun k h1 h2 => (h'.2.1 k h1 h2).trans (h.2.1 k h1 h2), fun j hj => (h'.2.2 j hj).trans (h.2.2 j hj)⟩
theorem Fx.w2 (v : VS) {j : Nat} (h1 : 1 ≤ j) (h3 : j ≤ 3) (x : Int32) : Fx v (wn v 2 j x) := fun k j' hk hj => by rw [pu_wn, if_neg (by omega)]
theorem Fy.w7 (R : RS) {j : Nat} (h3 : 3 ≤ j) (x : Int32) : Fy R (w7 R j x) := ⟨rfl, fun k _ h7 => w7k R j x h7, fun i hi => by rw [w77, if_neg (by omega)]⟩
theorem sp_end {v : VS} {s T val : Nat} (h21 : v 2 1 = nI s) (h22 : v 2 2 = nI val) (hT : s + T ≤ 48) : ∃ w, f_X3_endItem_19 v (nI T) (nI s) (nI 48) = some (0, w) ∧ w 2 1 = nI (s + T) ∧ (∀ j, w 1 j = if s ≤ j ∧ j < s + T then nI val else v 1 j) ∧ ∀ k j, k ≠ 1 → ¬ (k = 2 ∧ j = 1) → w k j = v k j := by
  have lp : ∀ (d x n : Nat) (u : VS), x + d = s + T → d < n → s ≤ x → (∀ j, u 1 j = if s ≤ j ∧ j < x then nI val else v 1 j) → (∀ k j, k ≠ 1 → u k j = v k j) →
      ∃ w, f_X3_endItem_29 (nI (s + T)) n (nI x) u = some (0, w) ∧ w 2 1 = nI (s + T) ∧ (∀ j, w 1 j = if s ≤ j ∧ j < s + T then nI val else v 1 j) ∧ ∀ k j, k ≠ 1 → ¬ (k = 2 ∧ j = 1) → w k j = v k j := by
    intro d
    induction d with
    | zero =>
      intro x n u hx hn hs u1 u2
      obtain ⟨n, rfl⟩ : ∃ m, n = m + 1 := ⟨n - 1, by omega⟩
      obtain rfl : x = s + T := by omega
      refine ⟨wn u 2 1 (nI (s + T)), ?_, pu_wn_s _ _ _ _, fun j => by rw [pu_wn_k _ _ _ _ (by decide), u1], fun k j h1 h2 => by rw [pu_wn, if_neg h2, u2 k j h1]⟩
      simp (disch := omega) only [f_X3_endItem_29, nI_leI, Nat.le_refl, if_true, pu_let]
    | succ d ih =>
      intro x n u hx hn hs u1 u2
      obtain ⟨n, rfl⟩ : ∃ m, n = m + 1 := ⟨n - 1, by omega⟩
      have h2 : ¬ s + T ≤ x := by omega
      obtain ⟨w, a1, a2⟩ := ih (x + 1) n (wn u 1 x (nI val)) (by omega) (by omega) (by omega) (fun j => by
        rw [pu_wn]
        by_cases c : j = x
        · rw [if_pos ⟨rfl, c⟩, if_pos (by omega)]
        · rw [if_neg (fun z => c z.2), u1]
          by_cases c2 : s ≤ j ∧ j < x
          · rw [if_pos c2, if_pos (by omega)]
          · rw [if_neg c2, if_neg (by omega)]) (fun k j hk => by rw [pu_wn_k _ _ _ _ hk, u2 k j hk])
      refine ⟨w, ?_, a2⟩
      rw [← a1]
      have e22 : u 2 2 = nI val := by rw [u2 2 2 (by decide), h22]
      simp (disch := omega) only [f_X3_endItem_29, nI_leI, h2, if_false, pu_let, pu_inb, pu_bnd, pu_wr, nI_1, e22]
  obtain ⟨w, w1, w2⟩ := lp T s fuel v (by omega) (fuel_gt (by omega)) (Nat.le_refl _) (fun j => by rw [if_neg (by omega)]) (fun _ _ _ => rfl)
  refine ⟨w, ?_, w2⟩
  unfold f_X3_endItem_19
  rw [nI_add, jmin_nI (by decide) (by omega), Nat.min_eq_right hT, pu_let, pu_let, h21]
  exact w1
theorem sr_begin (R : RS) : f_X7_beginItem R = some (w7 (w7 (w7 (w7 R 4 0) 5 0) 6 1) 7 (-1)) := rfl
theorem sr_end {R : RS} {s T val : Nat} (h3 : R.1 7 3 = nI s) (h4 : R.1 7 4 = nI val) (h6 : R.1 7 6 = nI T) (hT : s + T ≤ 48) : ∃ R', f_X7_endItem R = some R' ∧ R'.1 7 3 = nI (s + T) ∧ R'.1 7 4 = 0 ∧ R'.1 7 5 = 0 ∧ R'.1 7 6 = 1 ∧ R'.1 7 7 = -1 ∧ (∀ j, R'.1 6 j = if s ≤ j ∧ j < s + T then nI val else R.1 6 j) ∧ Fy R R' := by
  have lp : ∀ (d x n : Nat) (Q : RS), x + d = T → d < n → Q.1 7 3 = nI (s + x) → Q.1 7 4 = nI val → Q.1 7 6 = nI T → (∀ j, Q.1 6 j = if s ≤ j ∧ j < s + x then nI val else R.1 6 j) → Fy R Q →
      ∃ R', f_X7_endItem_2 n (nI x) Q = some R' ∧ R'.1 7 3 = nI (s + T) ∧ R'.1 7 4 = 0 ∧ R'.1 7 5 = 0 ∧ R'.1 7 6 = 1 ∧ R'.1 7 7 = -1 ∧ (∀ j, R'.1 6 j = if s ≤ j ∧ j < s + T then nI val else R.1 6 j) ∧ Fy R R' := by
    intro d
    induction d with
    | zero =>
      intro x n Q hx hn q3 q4 q6 q5 qf
      obtain ⟨n, rfl⟩ : ∃ m, n = m + 1 := ⟨n - 1, by omega⟩
      obtain rfl : x = T := by omega
      refine ⟨w7 (w7 (w7 (w7 Q 4 0) 5 0) 6 1) 7 (-1), ?_, ?_, ?_, ?_, ?_, ?_, ?_, (((qf.trans (Fy.w7 _ (by decide) _)).trans (Fy.w7 _ (by decide) _)).trans (Fy.w7 _ (by decide) _)).trans (Fy.w7 _ (by decide) _)⟩
      · show (if Q.1 7 6 ≤ nI x then bnd2 (f_X7_beginItem Q) fun r_1 => some r_1 else _) = _
        rw [if_pos (by rw [q6]; exact (nI_leI (by omega) (by omega)).mpr (Nat.le_refl _)), sr_begin, pu_some]
      · simp only [w77]; simp [q3]
      · simp only [w77]; simp
      · simp only [w77]; simp
      · simp only [w77]; simp
      · simp only [w77]; simp
      · intro j
        rw [w7k _ _ _ (by decide), w7k _ _ _ (by decide), w7k _ _ _ (by decide), w7k _ _ _ (by decide), q5]
    | succ d ih =>
      intro x n Q hx hn q3 q4 q6 q5 qf
      obtain ⟨n, rfl⟩ : ∃ m, n = m + 1 := ⟨n - 1, by omega⟩
      have h2 : ¬ T ≤ x := by omega
      have hk : ∀ k, k ≠ 6 → (setR Q (wn Q.1 6 (s + x) (nI val))).1 k = Q.1 k := fun k hk => funext fun j => pu_wn_k _ _ _ _ hk
      have qf1 : Fy Q (setR Q (wn Q.1 6 (s + x) (nI val))) := ⟨rfl, fun k h6 _ => hk k h6, fun j _ => by rw [hk 7 (by decide)]⟩
      obtain ⟨R', a1, a2⟩ := ih (x + 1) n (w7 (setR Q (wn Q.1 6 (s + x) (nI val))) 3 (nI (s + x + 1))) (by omega) (by omega) (by rw [w77, if_pos rfl, Nat.add_assoc]) (by rw [w77, if_neg (by decide), hk 7 (by decide), q4]) (by rw [w77, if_neg (by decide), hk 7 (by decide), q6]) (fun j => by
        rw [w7k _ _ _ (by decide)]
        show wn Q.1 6 (s + x) (nI val) 6 j = _
        rw [pu_wn]
        by_cases c : j = s + x
        · rw [if_pos ⟨rfl, c⟩, if_pos (by omega)]
        · rw [if_neg (fun z => c z.2), q5]
          by_cases c2 : s ≤ j ∧ j < s + x
          · rw [if_pos c2, if_pos (by omega)]
          · rw [if_neg c2, if_neg (by omega)]) ((qf.trans qf1).trans (Fy.w7 (setR Q (wn Q.1 6 (s + x) (nI val))) (j := 3) (by decide) (nI (s + x + 1))))
      refine ⟨R', ?_, a2⟩
      rw [← a1]
      have e3 : (setR Q (wn Q.1 6 (s + x) (nI val))).1 7 3 = nI (s + x) := by rw [hk 7 (by decide), q3]
      show (if Q.1 7 6 ≤ nI x then _ else bnd (inb (Q.1 7 3) 48) _) = _
      rw [if_neg (by rw [q6]; exact fun z => h2 ((nI_leI (by omega) (by omega)).mp z)), q3, pu_inb (by omega) (by decide), pu_bnd, pu_wr (by omega), q4, pu_let, e3, nI_1, pu_let, pu_let, nI_1]
      rfl
  exact lp T 0 fuel R (by omega) (fuel_gt (by omega)) h3 h4 h6 (fun j => by rw [if_neg (by omega)]) (Fy.rfl' R)
/-- where the two readers stand: before a number, in a number, behind the star, in the times -/
def Zr (st s val t i : Nat) (v : VS) (R : RS) : Prop :=
  s ≤ 48 ∧ v 2 1 = nI s ∧ R.1 7 3 = nI s ∧ (∀ j, j < s → ∃ x, x ≤ 500 ∧ v 1 j = nI x ∧ R.1 6 j = nI x) ∧
  ((st = 0 ∧ s < 48 ∧ R.1 7 4 = nI 0 ∧ R.1 7 5 = nI 0 ∧ R.1 7 6 = nI 1 ∧ R.1 7 7 = -1) ∨
   (st = 1 ∧ s < 48 ∧ val ≤ 500 ∧ v 2 2 = nI val ∧ R.1 7 4 = nI val ∧ (∃ d, 1 ≤ d ∧ d ≤ i ∧ R.1 7 5 = nI d) ∧ R.1 7 6 = nI 1 ∧ R.1 7 7 = -1) ∨
   (st = 2 ∧ s + 2 ≤ 48 ∧ val ≤ 500 ∧ v 2 2 = nI val ∧ R.1 7 4 = nI val ∧ (∃ d, 1 ≤ d ∧ d ≤ i ∧ R.1 7 5 = nI d) ∧ R.1 7 6 = nI 0 ∧ R.1 7 7 = nI 0) ∨
   (st = 3 ∧ val ≤ 500 ∧ v 2 2 = nI val ∧ R.1 7 4 = nI val ∧ (∃ d, 1 ≤ d ∧ d ≤ i ∧ R.1 7 5 = nI d) ∧ 1 ≤ t ∧ s + t ≤ 48 ∧ (t = 1 → s + 10 ≤ 48) ∧ v 2 3 = nI t ∧ R.1 7 6 = nI t ∧ ∃ c, 1 ≤ c ∧ c ≤ i ∧ R.1 7 7 = nI c))
/-- an item ends on both sides -/
theorem end_both {s T val i : Nat} {v : VS} {R : RS} (h21 : v 2 1 = nI s) (h22 : v 2 2 = nI val) (hv : val ≤ 500) (hT : s + T ≤ 48) (h3 : R.1 7 3 = nI s) (h4 : R.1 7 4 = nI val) (h6 : R.1 7 6 = nI T) (hl : ∀ j, j < s → ∃ x, x ≤ 500 ∧ v 1 j = nI x ∧ R.1 6 j = nI x) :
    ∃ w R', f_X3_endItem_19 v (nI T) (nI s) (nI 48) = some (0, w) ∧ f_X7_endItem R = some R' ∧ Fx v w ∧ Fy R R' ∧ w 2 1 = nI (s + T) ∧ R'.1 7 3 = nI (s + T) ∧ (∀ j, j < s + T → ∃ x, x ≤ 500 ∧ w 1 j = nI x ∧ R'.1 6 j = nI x) ∧ (s + T < 48 → Zr 0 (s + T) 0 0 i w R') := by
  obtain ⟨w, w1, w2, w3, w4⟩ := sp_end h21 h22 hT
  obtain ⟨R', r1, r2, r3, r4, r5, r6, r7, r8⟩ := sr_end h3 h4 h6 hT
  have hL : ∀ j, j < s + T → ∃ x, x ≤ 500 ∧ w 1 j = nI x ∧ R'.1 6 j = nI x := fun j hj => by
    rw [w3, r7]
    by_cases c : s ≤ j ∧ j < s + T
    · rw [if_pos c, if_pos c]; exact ⟨val, hv, rfl, rfl⟩
    · rw [if_neg c, if_neg c]; exact hl j (by omega)
  exact ⟨w, R', w1, r1, fun k j k1 k2 => w4 k j k1 (by omega), r8, w2, r2, hL, fun h => ⟨by omega, w2, r2, hL, Or.inl ⟨rfl, h, r3, r4, r5, r6⟩⟩⟩
