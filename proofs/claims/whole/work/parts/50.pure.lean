/-! the reference's loans: those paid go -/
def LC (R : RS) (j : Nat) : Int32 × Int32 × Int32 := (R.1 0 (80 + 3 * j), R.1 0 (80 + 3 * j + 1), R.1 0 (80 + 3 * j + 2))
theorem sr_loanRaw (R : RS) {j k : Nat} (hj : j < 12) (hk : k < 3) : f_X7_loanOf R (nI j) (nI k) = some (R.1 0 (80 + 3 * j + k)) := by
  simp (disch := omega) only [f_X7_loanOf, pu_bnd, pu_some, pu_let, pu_inb, pu_rd, pu_wr, nI_1, nI_leI, nI_ltI, nI_eq, pu_lit, nI_add, pk_mul]
def cpL (Q : RS) (x1 x2 : Nat) : RS := wz (wz (wz Q (80 + 3 * x1 + 0) (Q.1 0 (80 + 3 * x2 + 0))) (80 + 3 * x1 + 1) (Q.1 0 (80 + 3 * x2 + 1))) (80 + 3 * x1 + 2) (Q.1 0 (80 + 3 * x2 + 2))
theorem sr_dp27 (K : Int32 → Int32 → RS → Option RS) {x1 x2 : Nat} (h1 : x1 ≤ x2) (h2 : x2 < 12) (Q : RS) : f_X7_dropPaid_27 K (nI x1) (nI x2) fuel 0 Q = K (nI (x1 + 1)) (nI (x2 + 1)) (cpL Q x1 x2) := by
  obtain ⟨n, hn⟩ : ∃ n, fuel = n + 1 + 1 + 1 + 1 := ⟨99996, rfl⟩
  rw [show f_X7_dropPaid_27 K (nI x1) (nI x2) fuel 0 Q = f_X7_dropPaid_27 K (nI x1) (nI x2) (n + 1 + 1 + 1 + 1) (nI 0) Q by rw [hn]; rfl]
  have st : ∀ (k m : Nat) (Z : RS), k < 3 → f_X7_dropPaid_27 K (nI x1) (nI x2) (m + 1) (nI k) Z = f_X7_dropPaid_27 K (nI x1) (nI x2) m (nI (k + 1)) (wz Z (80 + 3 * x1 + k) (Z.1 0 (80 + 3 * x2 + k))) := fun k m Z hk => by
    have h3 : ¬ 3 ≤ k := by omega
    have hl := sr_loanRaw Z h2 hk
    simp (disch := omega) only [f_X7_dropPaid_27, pu_bnd, pu_some, pu_let, pu_inb, pu_rd, pu_wr, nI_1, nI_leI, nI_ltI, nI_eq, pu_lit, nI_add, pk_mul, h3, if_false, hl]
    rfl
  rw [st 0 _ _ (by decide), st 1 _ _ (by decide), st 2 _ _ (by decide)]
  have e1 : (wz Q (80 + 3 * x1 + 0) (Q.1 0 (80 + 3 * x2 + 0))).1 0 (80 + 3 * x2 + 1) = Q.1 0 (80 + 3 * x2 + 1) := by rw [wz0, if_neg (by omega)]
  have e2 : (wz (wz Q (80 + 3 * x1 + 0) (Q.1 0 (80 + 3 * x2 + 0))) (80 + 3 * x1 + 1) (Q.1 0 (80 + 3 * x2 + 1))).1 0 (80 + 3 * x2 + 2) = Q.1 0 (80 + 3 * x2 + 2) := by rw [wz0, if_neg (by omega), wz0, if_neg (by omega)]
  rw [e1, e2]
  simp (disch := omega) only [f_X7_dropPaid_27, f_X7_dropPaid_60, pu_bnd, pu_some, pu_let, pu_inb, pu_rd, pu_wr, nI_1, nI_leI, nI_ltI, nI_eq, pu_lit, nI_add, pk_mul, Nat.reduceLeDiff, Nat.reduceAdd, if_true]
  rfl
theorem LC_cpL (Q : RS) (x1 x2 j : Nat) : LC (cpL Q x1 x2) j = if j = x1 then LC Q x2 else LC Q j := by
  unfold LC cpL
  simp only [wz0]
  by_cases h : j = x1
  · subst h
    simp
  · rw [if_neg h, if_neg (by omega), if_neg (by omega), if_neg (by omega), if_neg (by omega), if_neg (by omega), if_neg (by omega), if_neg (by omega), if_neg (by omega), if_neg (by omega)]
theorem cpL_out (Q : RS) {x1 : Nat} (x2 : Nat) {i : Nat} (hx : x1 < 12) (h : i < 80 ∨ 116 ≤ i) : (cpL Q x1 x2).1 0 i = Q.1 0 i := by
  unfold cpL
  rw [wz0, if_neg (by omega), wz0, if_neg (by omega), wz0, if_neg (by omega)]
theorem sr_dropPaid {R : RS} {l : List (Int32 × Int32 × Int32)} (hl : l.length ≤ 12) (h173 : R.1 0 173 = nI l.length) (hL : ∀ j, j < l.length → l[j]? = some (LC R j)) :
    ∃ R', f_X7_dropPaid R = some R' ∧ R'.1 0 173 = nI (l.filter pd).length ∧ (∀ j, j < (l.filter pd).length → (l.filter pd)[j]? = some (LC R' j)) ∧ (∀ i, (i < 80 ∨ 116 ≤ i) → i ≠ 173 → R'.1 0 i = R.1 0 i) ∧ Fr R R' := by
  have lp : ∀ (d x2 n : Nat) (Q : RS), x2 + d = l.length → d < n → Q.1 0 173 = nI l.length → (∀ j, j < ((l.take x2).filter pd).length → ((l.take x2).filter pd)[j]? = some (LC Q j)) → (∀ j, x2 ≤ j → j < l.length → l[j]? = some (LC Q j)) → (∀ i, (i < 80 ∨ 116 ≤ i) → Q.1 0 i = R.1 0 i) → Fr R Q →
      ∃ R', f_X7_dropPaid_4 n (nI ((l.take x2).filter pd).length) (nI x2) Q = some R' ∧ R'.1 0 173 = nI (l.filter pd).length ∧ (∀ j, j < (l.filter pd).length → (l.filter pd)[j]? = some (LC R' j)) ∧ (∀ i, (i < 80 ∨ 116 ≤ i) → i ≠ 173 → R'.1 0 i = R.1 0 i) ∧ Fr R R' := by
    intro d
    induction d with
    | zero =>
      intro x2 n Q hx hn q1 q2 q3 q4 q5
      obtain ⟨n, rfl⟩ : ∃ m, n = m + 1 := ⟨n - 1, by omega⟩
      obtain rfl : x2 = l.length := by omega
      rw [List.take_length] at q2 ⊢
      refine ⟨wz Q 173 (nI (l.filter pd).length), ?_, by rw [wz0, if_pos rfl], fun j hj => ?_, fun i hi h1 => ?_, q5.trans (wz_Fr _ _ _)⟩
      · simp (disch := omega) only [f_X7_dropPaid_4, pu_bnd, pu_some, pu_let, pu_inb, pu_rd, pu_wr, nI_1, nI_leI, nI_ltI, nI_eq, pu_lit, nI_add, pk_mul, q1, Nat.le_refl, if_true]
        rfl
      · rw [q2 j hj]
        have : (l.filter pd).length ≤ l.length := List.length_filter_le _ _
        unfold LC
        rw [wz0, if_neg (by omega), wz0, if_neg (by omega), wz0, if_neg (by omega)]
      · rw [wz0, if_neg h1, q4 i hi]
    | succ d ih =>
      intro x2 n Q hx hn q1 q2 q3 q4 q5
      obtain ⟨n, rfl⟩ : ∃ m, n = m + 1 := ⟨n - 1, by omega⟩
      have h2 : ¬ l.length ≤ x2 := by omega
      have hx2 : x2 < l.length := by omega
      have hle : ((l.take x2).filter pd).length ≤ x2 := Nat.le_trans (List.length_filter_le _ _) (by rw [List.length_take]; omega)
      have e1 : l.take (x2 + 1) = l.take x2 ++ [l[x2]] := by rw [List.take_succ_eq_append_getElem hx2]
      have hx := q3 x2 (Nat.le_refl _) hx2
      rw [List.getElem?_eq_getElem hx2] at hx
      have hx' := Option.some.inj hx
      have hlo := sr_loanRaw Q (j := x2) (k := 2) (by omega) (by decide)
      have h12 : Q.1 0 (80 + 3 * x2 + 2) = (l[x2]).2.2 := by rw [hx']; rfl
      rw [h12] at hlo
      by_cases hp : (l[x2]).2.2 ≤ nI 0
      · have hnp : pd l[x2] = false := by
          unfold pd
          refine decide_eq_false fun z => ?_
          rw [Int32.lt_iff_toInt_lt] at z
          rw [Int32.le_iff_toInt_le] at hp
          have e0 : (0 : Int32).toInt = (nI 0).toInt := rfl
          omega
        have ef : (l.take (x2 + 1)).filter pd = (l.take x2).filter pd := by
          rw [e1, List.filter_append, List.filter_cons_of_neg (by rw [hnp]; decide), List.filter_nil, List.append_nil]
        have e := ih (x2 + 1) n Q (by omega) (by omega) q1 (by rw [ef]; exact q2) (fun j h3 h4 => q3 j (by omega) h4) q4 q5
        rw [ef] at e
        obtain ⟨R', a1, a2⟩ := e
        refine ⟨R', ?_, a2⟩
        rw [← a1]
        simp (disch := omega) only [f_X7_dropPaid_4, f_X7_dropPaid_60, pu_bnd, pu_some, pu_let, pu_inb, pu_rd, pu_wr, nI_1, nI_leI, nI_ltI, nI_eq, pu_lit, nI_add, pk_mul, q1, h2, if_false, hlo, hp, if_true]
      · have hpp : pd l[x2] = true := by
          unfold pd
          refine decide_eq_true ?_
          rw [Int32.lt_iff_toInt_lt]
          rw [Int32.le_iff_toInt_le] at hp
          have e0 : (0 : Int32).toInt = (nI 0).toInt := rfl
          omega
        have ef : (l.take (x2 + 1)).filter pd = (l.take x2).filter pd ++ [l[x2]] := by
          rw [e1, List.filter_append, List.filter_cons_of_pos hpp, List.filter_nil]
        have efl : ((l.take (x2 + 1)).filter pd).length = ((l.take x2).filter pd).length + 1 := by rw [ef, List.length_append]; rfl
        have e := ih (x2 + 1) n (cpL Q ((l.take x2).filter pd).length x2) (by omega) (by omega) (by rw [cpL_out Q x2 (by omega) (by omega)]; exact q1) (fun j hj => by
          rw [efl] at hj
          rw [LC_cpL, ef]
          by_cases hj2 : j = ((l.take x2).filter pd).length
          · rw [if_pos hj2, hj2, List.getElem?_append_right (Nat.le_refl _), Nat.sub_self, ← hx']
            rfl
          · rw [if_neg hj2, List.getElem?_append_left (by omega)]
            exact q2 j (by omega)) (fun j h3 h4 => by
          rw [LC_cpL, if_neg (by omega)]
          exact q3 j (by omega) h4) (fun i hi => by
          rw [cpL_out Q x2 (by omega) hi]
          exact q4 i hi) (q5.trans (((wz_Fr _ _ _).trans (wz_Fr _ _ _)).trans (wz_Fr _ _ _)))
        obtain ⟨R', a1, a2⟩ := e
        refine ⟨R', ?_, a2⟩
        rw [← a1, efl]
        have hd := sr_dp27 (f_X7_dropPaid_4 n) hle (by omega) Q
        simp (disch := omega) only [f_X7_dropPaid_4, pv_bnd, pv_some, pv_let, pu_inb, pu_rd, pv_lit, nI_leI, q1, h2, if_false, hlo, hp]
        rw [← hd, nI_0]
  exact lp l.length 0 fuel R (by omega) (fuel_gt (by omega)) h173 (fun j hj => by simp at hj) (fun j _ hj => hL j hj) (fun _ _ => rfl) (Fr.rfl' R)
