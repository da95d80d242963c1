/-! a house goes: the others move down -/
theorem sp_involve {v : VS} (g : GA v) (p : Int32) : (f_X4_involve v p = some 0 ∧ ∀ j, j < lsz v → v 10 j ≠ p ∧ v 11 j ≠ p) ∨ (f_X4_involve v p = some 1 ∧ ∃ j, j < lsz v ∧ (v 10 j = p ∨ v 11 j = p)) := by
  have h12 := g.2.2.2.1
  have lp : ∀ (d i n : Nat), i + d = lsz v → d < n → (f_X4_involve_2 v p n (nI i) = some 0 ∧ ∀ j, i ≤ j → j < lsz v → v 10 j ≠ p ∧ v 11 j ≠ p) ∨ (f_X4_involve_2 v p n (nI i) = some 1 ∧ ∃ j, j < lsz v ∧ (v 10 j = p ∨ v 11 j = p)) := by
    intro d
    induction d with
    | zero =>
      intro i n hi hn
      obtain ⟨n, rfl⟩ : ∃ m, n = m + 1 := ⟨n - 1, by omega⟩
      have h1 : lsz v ≤ i := by omega
      refine Or.inl ⟨?_, fun j h2 h3 => by omega⟩
      simp (disch := omega) only [f_X4_involve_2, g.2.2.1, pu_bnd, pu_some, pu_let, pu_inb, pu_rd, pu_wr, nI_1, nI_leI, nI_ltI, nI_eq, pu_lit, nI_add, pk_mul, h1, if_true]
    | succ d ih =>
      intro i n hi hn
      obtain ⟨n, rfl⟩ : ∃ m, n = m + 1 := ⟨n - 1, by omega⟩
      have h1 : ¬ lsz v ≤ i := by omega
      by_cases c1 : v 10 i = p
      · refine Or.inr ⟨?_, i, by omega, Or.inl c1⟩
        simp (disch := omega) only [f_X4_involve_2, g.2.2.1, pu_bnd, pu_some, pu_let, pu_inb, pu_rd, pu_wr, nI_1, nI_leI, nI_ltI, nI_eq, pu_lit, nI_add, pk_mul, h1, if_false, c1, if_true]
      · by_cases c2 : v 11 i = p
        · refine Or.inr ⟨?_, i, by omega, Or.inr c2⟩
          simp (disch := omega) only [f_X4_involve_2, g.2.2.1, pu_bnd, pu_some, pu_let, pu_inb, pu_rd, pu_wr, nI_1, nI_leI, nI_ltI, nI_eq, pu_lit, nI_add, pk_mul, h1, if_false, c1, c2, if_true]
        · have e : f_X4_involve_2 v p (n + 1) (nI i) = f_X4_involve_2 v p n (nI (i + 1)) := by
            simp (disch := omega) only [f_X4_involve_2, g.2.2.1, pu_bnd, pu_some, pu_let, pu_inb, pu_rd, pu_wr, nI_1, nI_leI, nI_ltI, nI_eq, pu_lit, nI_add, pk_mul, h1, if_false, c1, c2]
          rw [e]
          rcases ih (i + 1) n (by omega) (by omega) with ⟨e1, e2⟩ | e1
          · refine Or.inl ⟨e1, fun j h2 h3 => ?_⟩
            by_cases hj : j = i
            · rw [hj]; exact ⟨c1, c2⟩
            · exact e2 j (by omega) h3
          · exact Or.inr e1
  rcases lp (lsz v) 0 fuel (by omega) (fuel_gt (by omega)) with ⟨e1, e2⟩ | e1
  · exact Or.inl ⟨e1, fun j hj => e2 j (Nat.zero_le _) hj⟩
  · exact Or.inr e1
theorem owF_nat {v : VS} (gl : GL v) {k : Nat} (p : Int32) {j : Nat} (hj : j < lsz v) : ∃ w, w ≤ 200 ∧ owF v k p j = nI w ∧ (w = 0 → v k j ≠ p) := by
  obtain ⟨a, b, o, h1, h2, h3, h4, h5, h6, h7, h8⟩ := gl j hj
  unfold owF
  by_cases c : v k j = p
  · exact ⟨o, h5, by rw [if_pos c, h8], fun z => by omega⟩
  · exact ⟨0, by omega, by rw [if_neg c]; rfl, fun _ => c⟩
/-- what a house owes or is owed is nothing just when no loan names it -/
theorem owed_0 {v : VS} (g : GA v) (gl : GL v) {k : Nat} (p : Int32) : ∃ S, S ≤ 2400 ∧ smF (owF v k p) 0 (lsz v) 0 = nI S ∧ (S = 0 ↔ ∀ j, j < lsz v → v k j ≠ p) := by
  have h12 := g.2.2.2.1
  obtain ⟨S, e1, e2, e3⟩ := smF_nat (f := owF v k p) (m := 200) (lsz v) 0 0 (fun j _ hj => by
    obtain ⟨w, q1, q2, _⟩ := owF_nat gl (k := k) p (j := j) (by omega)
    exact ⟨w, q1, q2⟩)
  rw [Nat.zero_add] at e1
  refine ⟨S, by omega, e1, fun h0 j hj => ?_, fun h0 => ?_⟩
  · obtain ⟨w, q1, q2, q3⟩ := owF_nat gl (k := k) p hj
    have q4 := e3 h0 j (Nat.zero_le _) (by omega)
    rw [q2] at q4
    exact q3 (nI_inj0 (by omega) (by omega) q4)
  · have hz : smF (owF v k p) 0 (lsz v) (nI 0) = smF (fun _ => 0) 0 (lsz v) (nI 0) := smF_congr _ _ _ (fun j _ hj => by unfold owF; rw [if_neg (h0 j (by omega))])
    have hz2 : ∀ (d i : Nat), smF (fun _ => (0 : Int32)) i d (nI 0) = nI 0 := by
      intro d
      induction d with
      | zero => intro i; rfl
      | succ d ih => intro i; exact ih (i + 1)
    rw [hz, hz2] at e1
    exact (nI_inj0 (by omega) (by omega) e1).symm
def ren (p : Nat) (x : Int32) : Int32 := if x ≤ nI p then x else x - 1
theorem ren_nI {p a : Nat} (hp : p < 10) (ha : a < 10) (h : a ≠ p) : ren p (nI a) = nI (if a < p then a else a - 1) := by
  unfold ren
  by_cases c : a < p
  · rw [if_pos c, if_pos ((nI_leI (by omega) (by omega)).mpr (by omega))]
  · rw [if_neg c, if_neg (fun z => by have := (nI_leI (by omega) (by omega)).mp z; omega)]
    obtain ⟨q, rfl⟩ : ∃ q, a = q + 1 := ⟨a - 1, by omega⟩
    exact nI_pred q
theorem sp_rm2 {v : VS} {m p : Nat} (h22 : v 22 0 = nI m) (hm : m ≤ 10) (hp : p < m) : ∃ w, f_X2_remove v (nI p) = some w ∧ ∀ k j, w k j = if k = 22 ∧ j = 0 then nI (m - 1) else if k < 8 ∧ p ≤ j ∧ j < m - 1 then v k (j + 1) else v k j := by
  have lp : ∀ (d x n : Nat) (u : VS), x + d = m - 1 → d < n → p ≤ x → (∀ k j, u k j = if k = 22 ∧ j = 0 then nI (m - 1) else if k < 8 ∧ p ≤ j ∧ j < x then v k (j + 1) else v k j) →
      ∃ w, f_X2_remove_12 n (nI x) u = some w ∧ ∀ k j, w k j = if k = 22 ∧ j = 0 then nI (m - 1) else if k < 8 ∧ p ≤ j ∧ j < m - 1 then v k (j + 1) else v k j := by
    intro d
    induction d with
    | zero =>
      intro x n u hx hn hpx hu
      obtain ⟨n, rfl⟩ : ∃ m, n = m + 1 := ⟨n - 1, by omega⟩
      obtain rfl : x = m - 1 := by omega
      have u1 : u 22 0 = nI (m - 1) := by rw [hu, if_pos ⟨rfl, rfl⟩]
      exact ⟨u, by simp (disch := omega) only [f_X2_remove_12, u1, nI_leI, Nat.le_refl, if_true], hu⟩
    | succ d ih =>
      intro x n u hx hn hpx hu
      obtain ⟨n, rfl⟩ : ∃ m, n = m + 1 := ⟨n - 1, by omega⟩
      have h2 : ¬ m - 1 ≤ x := by omega
      have u1 : u 22 0 = nI (m - 1) := by rw [hu, if_pos ⟨rfl, rfl⟩]
      generalize hW : wn (wn (wn (wn (wn (wn (wn (wn u 0 x (u 0 (x + 1))) 1 x (u 1 (x + 1))) 2 x (u 2 (x + 1))) 3 x (u 3 (x + 1))) 4 x (u 4 (x + 1))) 5 x (u 5 (x + 1))) 6 x (u 6 (x + 1))) 7 x (u 7 (x + 1)) = W
      have hWk : ∀ k j, W k j = if k < 8 ∧ j = x then u k (x + 1) else u k j := fun k j => by
        rw [← hW]
        simp only [pu_wn]
        by_cases hj : j = x
        · by_cases hk : k < 8
          · have : k = 0 ∨ k = 1 ∨ k = 2 ∨ k = 3 ∨ k = 4 ∨ k = 5 ∨ k = 6 ∨ k = 7 := by omega
            rcases this with e | e | e | e | e | e | e | e <;> subst e <;> simp [hj]
          · simp only [hj, and_true]
            rw [if_neg (by omega), if_neg (by omega), if_neg (by omega), if_neg (by omega), if_neg (by omega), if_neg (by omega), if_neg (by omega), if_neg (by omega), if_neg hk]
        · simp [hj]
      obtain ⟨w, a1, a2⟩ := ih (x + 1) n W (by omega) (by omega) (by omega) (fun k j => by
        rw [hWk]
        by_cases c : k < 8 ∧ j = x
        · rw [if_pos c, hu, if_neg (by omega), if_neg (by omega), if_neg (by omega), if_pos (by omega), c.2]
        · rw [if_neg c, hu]
          by_cases c2 : k = 22 ∧ j = 0
          · rw [if_pos c2, if_pos c2]
          · rw [if_neg c2, if_neg c2]
            by_cases c3 : k < 8 ∧ p ≤ j ∧ j < x
            · rw [if_pos c3, if_pos (by omega)]
            · rw [if_neg c3, if_neg (by omega)])
      refine ⟨w, ?_, a2⟩
      rw [← a1]
      have e1 : ∀ (y : Int32), (wn u 0 x y) 1 (x + 1) = u 1 (x + 1) := fun y => pu_wn_k _ _ _ _ (by decide)
      have ee : ∀ (z : VS) (k : Nat) (y : Int32) (k' : Nat), (wn z k x y) k' (x + 1) = z k' (x + 1) := fun z k y k' => pu_wn_j _ _ _ _ (by omega)
      simp (disch := omega) only [f_X2_remove_12, u1, pu_bnd, pu_some, pu_let, pu_inb, pu_rd, pu_wr, nI_1, nI_leI, nI_ltI, nI_eq, pu_lit, nI_add, pk_mul, h2, if_false, ee, hW]
  obtain ⟨w, a1, a2⟩ := lp (m - 1 - p) p fuel (wn v 22 0 (nI (m - 1))) (by omega) (fuel_gt (by omega)) (Nat.le_refl _) (fun k j => by
    rw [pu_wn]
    by_cases c : k = 22 ∧ j = 0
    · rw [if_pos c, if_pos c]
    · rw [if_neg c, if_neg c, if_neg (by omega)])
  refine ⟨w, ?_, a2⟩
  rw [← a1]
  unfold f_X2_remove
  obtain ⟨q, rfl⟩ : ∃ q, m = q + 1 := ⟨m - 1, by omega⟩
  rw [h22, nI_pred, pu_let, Nat.add_sub_cancel]
theorem sp_renumber {v : VS} {p L : Nat} (h22 : v 22 1 = nI L) (hL : L ≤ 12) : ∃ w, f_X4_renumber v (nI p) = some w ∧ ∀ k j, w k j = if (k = 10 ∨ k = 11) ∧ j < L then ren p (v k j) else v k j := by
  have lp : ∀ (d x n : Nat) (u : VS), x + d = L → d < n → (∀ k j, u k j = if (k = 10 ∨ k = 11) ∧ j < x then ren p (v k j) else v k j) →
      ∃ w, f_X4_renumber_2 (nI p) n (nI x) u = some w ∧ ∀ k j, w k j = if (k = 10 ∨ k = 11) ∧ j < L then ren p (v k j) else v k j := by
    intro d
    induction d with
    | zero =>
      intro x n u hx hn hu
      obtain ⟨n, rfl⟩ : ∃ m, n = m + 1 := ⟨n - 1, by omega⟩
      obtain rfl : x = L := by omega
      have u1 : u 22 1 = nI x := by rw [hu, if_neg (by omega), h22]
      exact ⟨u, by simp (disch := omega) only [f_X4_renumber_2, u1, nI_leI, Nat.le_refl, if_true], hu⟩
    | succ d ih =>
      intro x n u hx hn hu
      obtain ⟨n, rfl⟩ : ∃ m, n = m + 1 := ⟨n - 1, by omega⟩
      have h2 : ¬ L ≤ x := by omega
      have u1 : u 22 1 = nI L := by rw [hu, if_neg (by omega), h22]
      obtain ⟨w, a1, a2⟩ := ih (x + 1) n (wn (wn u 10 x (ren p (u 10 x))) 11 x (ren p (u 11 x))) (by omega) (by omega) (fun k j => by
        rw [pu_wn, pu_wn]
        by_cases c1 : k = 11 ∧ j = x
        · rw [if_pos c1, if_pos (by omega), hu, if_neg (by omega), c1.1, c1.2]
        · rw [if_neg c1]
          by_cases c2 : k = 10 ∧ j = x
          · rw [if_pos c2, if_pos (by omega), hu, if_neg (by omega), c2.1, c2.2]
          · rw [if_neg c2, hu]
            by_cases c3 : (k = 10 ∨ k = 11) ∧ j < x
            · rw [if_pos c3, if_pos (by omega)]
            · rw [if_neg c3, if_neg (by omega)])
      refine ⟨w, ?_, a2⟩
      rw [← a1]
      have s1 : f_X4_renumber_2 (nI p) (n + 1) (nI x) u = f_X4_renumber_32 (f_X4_renumber_2 (nI p) n) u (nI p) (nI x) (u 10 x - ren p (u 10 x)) (u 10 x) (nI x) := by
        unfold ren
        by_cases c : u 10 x ≤ nI p
        · simp (disch := omega) only [f_X4_renumber_2, u1, pu_bnd, pu_some, pu_let, pu_inb, pu_rd, nI_leI, h2, if_false, c, if_true, Int32.sub_self]
        · have : u 10 x - (u 10 x - 1) = 1 := by
            generalize u 10 x = y
            grind
          simp (disch := omega) only [f_X4_renumber_2, u1, pu_bnd, pu_some, pu_let, pu_inb, pu_rd, nI_leI, h2, if_false, c, this]
      have hss : ∀ a b : Int32, a - (a - b) = b := fun a b => by grind
      have e11 : (wn u 10 x (ren p (u 10 x))) 11 x = u 11 x := pu_wn_k _ _ _ _ (by decide)
      have s2 : ∀ Z : VS, f_X4_renumber_32 (f_X4_renumber_2 (nI p) n) u (nI p) (nI x) (u 10 x - ren p (u 10 x)) (u 10 x) (nI x) = f_X4_renumber_56 (f_X4_renumber_2 (nI p) n) (wn u 10 x (ren p (u 10 x))) (nI p) (nI x) (u 11 x - ren p (u 11 x)) (u 11 x) (nI x) := fun _ => by
        unfold f_X4_renumber_32
        simp (disch := omega) only [pu_bnd, pu_some, pu_let, pu_inb, pu_wr, pu_rd, hss, e11]
        by_cases c : u 11 x ≤ nI p
        · have : ren p (u 11 x) = u 11 x := if_pos c
          rw [if_pos c, this, Int32.sub_self]
        · have : ren p (u 11 x) = u 11 x - 1 := if_neg c
          rw [if_neg c, this, hss]
      rw [s1, s2 u]
      unfold f_X4_renumber_56
      simp (disch := omega) only [pu_bnd, pu_some, pu_let, pu_inb, pu_wr, hss, nI_1, nI_add]
  exact lp L 0 fuel v (by omega) (fuel_gt (by omega)) (fun k j => by rw [if_neg (by omega)])
