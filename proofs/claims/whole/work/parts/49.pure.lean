/-! loans: those paid go -/
def pd (x : Int32 × Int32 × Int32) : Bool := decide (0 < x.2.2)
theorem SameL.trans {u v w : VS} (h : SameL u v) (h' : SameL v w) : SameL u w := fun r j h1 h2 => (h' r j h1 h2).trans (h r j h1 h2)
theorem sp_removePaid0 {l : List (Int32 × Int32 × Int32)} (hl : l.length ≤ 12) : ∀ (d n : Nat) (u : VS), d ≤ l.length → d < n → Lst u (l.take d ++ (l.drop d).filter pd) → ∃ w, f_X4_removePaid_7 n (nI d - 1) u = some w ∧ Lst w (l.filter pd) ∧ SameL u w := by
  intro d
  induction d with
  | zero =>
    intro n u hd hn hu
    obtain ⟨n, rfl⟩ : ∃ m, n = m + 1 := ⟨n - 1, by omega⟩
    refine ⟨u, ?_, by simpa using hu, fun _ _ _ _ => rfl⟩
    show (if nI 0 - 1 < 0 then some u else _) = _
    rw [if_pos (by decide)]
  | succ d ih =>
    intro n u hd hn hu
    obtain ⟨n, rfl⟩ : ∃ m, n = m + 1 := ⟨n - 1, by omega⟩
    have hd' : d < l.length := by omega
    have e1 : l.take (d + 1) = l.take d ++ [l[d]] := by rw [List.take_succ_eq_append_getElem hd']
    have e2 : l.drop d = l[d] :: l.drop (d + 1) := List.drop_eq_getElem_cons hd'
    have hlen : (l.take d).length = d := by rw [List.length_take]; omega
    have hF : ((l.drop (d + 1)).filter pd).length ≤ l.length - (d + 1) := by
      refine Nat.le_trans (List.length_filter_le _ _) ?_
      rw [List.length_drop]
      exact Nat.le_refl _
    have hll : (l.take (d + 1) ++ (l.drop (d + 1)).filter pd).length ≤ 12 ∧ d < (l.take (d + 1) ++ (l.drop (d + 1)).filter pd).length := by
      rw [List.length_append, List.length_take]
      omega
    have hget := hu.2 d hll.2
    have hat : (l.take (d + 1) ++ (l.drop (d + 1)).filter pd)[d]? = some l[d] := by
      rw [e1, List.append_assoc, List.getElem?_append_right (by omega), hlen, Nat.sub_self]
      rfl
    rw [hat] at hget
    have h12 : u 12 d = (l[d]).2.2 := by rw [Option.some.inj hget]
    have hst : f_X4_removePaid_7 (n + 1) (nI (d + 1) - 1) u = if 0 < u 12 d then f_X4_removePaid_7 n (nI d - 1) u else bnd2 (f_X4_remove u (nI d)) fun r => f_X4_removePaid_7 n (nI d - 1) r := by
      rw [nI_pred]
      show (if nI d < 0 then some u else bnd (inb (nI d) 12) (if 0 < rd u 12 (nI d) then f_X4_removePaid_25 (f_X4_removePaid_7 n) u (nI d) else bnd2 (f_X4_remove u (nI d)) fun r_4 => f_X4_removePaid_25 (f_X4_removePaid_7 n) r_4 (nI d))) = _
      rw [if_neg (nI_pos (by omega)), pu_inb (by omega) (by decide), pu_bnd, pu_rd (by omega)]
      unfold f_X4_removePaid_25
      simp only [pv_let, ← Int32.sub_eq_add_neg]
    rw [hst, h12]
    by_cases hp : 0 < (l[d]).2.2
    · rw [if_pos hp]
      refine ih n u (by omega) (by omega) ?_
      rw [e2, List.filter_cons_of_pos (by unfold pd; exact decide_eq_true hp)]
      rw [e1, List.append_assoc] at hu
      exact hu
    · rw [if_neg hp]
      obtain ⟨w, w1, w2, w3⟩ := sp_remove_l hu hll.1 hll.2
      rw [w1, pu_some]
      have he : (l.take (d + 1) ++ (l.drop (d + 1)).filter pd).eraseIdx d = l.take d ++ (l.drop d).filter pd := by
        rw [e1, List.append_assoc, List.eraseIdx_append_of_length_le (by omega), hlen, Nat.sub_self, e2, List.filter_cons_of_neg (by unfold pd; simpa using hp)]
        rfl
      rw [he] at w2
      obtain ⟨w', q1, q2, q3⟩ := ih n w (by omega) (by omega) w2
      exact ⟨w', q1, q2, w3.trans q3⟩
theorem sp_removePaid {v : VS} {l : List (Int32 × Int32 × Int32)} (h : Lst v l) (hl : l.length ≤ 12) : ∃ w, f_X4_removePaid v = some w ∧ Lst w (l.filter pd) ∧ SameL v w := by
  obtain ⟨w, w1, w2⟩ := sp_removePaid0 hl l.length fuel v (Nat.le_refl _) (fuel_gt (by omega)) (by simpa using h)
  refine ⟨w, ?_, w2⟩
  unfold f_X4_removePaid
  rw [h.1]
  exact w1
