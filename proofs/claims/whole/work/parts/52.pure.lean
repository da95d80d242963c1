/-! remitting -/
theorem pd_all {v : VS} {l : List (Int32 × Int32 × Int32)} (h : Lst v l) (hlen : l.length = lsz v) (gl : GL v) : ∀ y, y ∈ l → pd y = true := by
  intro y hy
  obtain ⟨j, hj, e⟩ := List.mem_iff_getElem.mp hy
  have q := h.2 j hj
  rw [List.getElem?_eq_getElem hj, e] at q
  obtain ⟨a, b, o, _, _, _, h1, h2, _, _, e3⟩ := gl j (by omega)
  rw [Option.some.inj q]
  unfold pd
  refine decide_eq_true ?_
  show 0 < v 12 j
  rw [e3]
  exact nI_lt (a := 0) (by omega) (by omega)
theorem op_remit : Op_remit Rel := by
  intro n S R a0 hn h
  unfold f_X6_remit f_X7_remit
  rcases is_loan h a0 with ⟨h1, h2⟩ | ⟨x, hx, rfl, h1, h2⟩
  · rw [h1, h2, pu_some, pu_some, ite00, ite00]; exact ⟨_, S, R, rfl, rfl, rel_mono h (by omega)⟩
  · rw [h1, h2, pu_some, pu_some, ite10, ite10]
    obtain ⟨S1, R1, b1, b2, b3, b4, _⟩ := rel_record h
    obtain ⟨⟨g, gn, hv⟩, _⟩ := id b3
    have hv' : RV (S1.1 0) R1 := hv
    rw [← b4] at hx
    have h12 := g.1.2.2.2.1
    obtain ⟨l, l1, l2⟩ := Lst_of (S1.1 0) g.1
    have hxl : x < l.length := by omega
    obtain ⟨w, w1, w2, w3⟩ := sp_remove_l l1 (by omega) hxl
    have hlo := sr_loanOf hv' g.1 (k := 2) (j := x) (by decide) hx
    have hLC : ∀ j, j < l.length → l[j]? = some (LC R1 j) := fun j hj => by
      rw [l1.2 j hj]
      unfold LC
      rw [rz_l hv' (k := 10) (j := j) (by decide) (by omega) (by omega), rz_l hv' (k := 11) (j := j) (by decide) (by omega) (by omega), rz_l hv' (k := 12) (j := j) (by decide) (by omega) (by omega)]
    have hset : ∀ j, j < (l.set x ((LC R1 x).1, (LC R1 x).2.1, 0)).length → (l.set x ((LC R1 x).1, (LC R1 x).2.1, 0))[j]? = some (LC (wz R1 (80 + 3 * x + 2) 0) j) := fun j hj => by
      rw [List.length_set] at hj
      rw [List.getElem?_set]
      unfold LC
      by_cases hjx : x = j
      · subst hjx
        rw [if_pos rfl, if_pos hj, wz0, if_neg (by omega), wz0, if_neg (by omega), wz0, if_pos rfl]
      · rw [if_neg hjx, hLC j hj]
        unfold LC
        rw [wz0, if_neg (by omega), wz0, if_neg (by omega), wz0, if_neg (by omega)]
    have hf : (l.set x ((LC R1 x).1, (LC R1 x).2.1, 0)).filter pd = l.eraseIdx x := set_filter hxl (show decide ((0 : Int32) < 0) = false by decide) (pd_all l1 l2 g.2.2.1)
    obtain ⟨R', r1, r2, r3, r4, r5⟩ := sr_dropPaid (R := wz R1 (80 + 3 * x + 2) 0) (l := l.set x ((LC R1 x).1, (LC R1 x).2.1, 0)) (by rw [List.length_set]; omega) (by rw [wz0, if_neg (by omega), rz_173 hv' g.1, List.length_set, l2]) hset
    rw [hf] at r2 r3
    have hel : (l.eraseIdx x).length = l.length - 1 := by rw [List.length_eraseIdx, if_pos hxl]
    refine ⟨S1.1 0 12 x, setV S1 0 w, R', ?_, ?_, op_fin b3 ?_ ?_ ?_ ((wz_Fr _ _ _).trans r5)⟩
    · rw [b1, pu_some]
      simp (disch := omega) only [pu_inb, pu_bnd, pu_rd, pu_let, w1, pu_some]
    · rw [b2, pu_some, show (2 : Int32) = nI 2 from rfl, hlo, pu_some]
      simp (disch := omega) only [pu_lit, pk_mul, nI_add, pu_inb, pu_bnd, pu_wr, pu_let]
      rw [show setR R1 (wn R1.1 0 (80 + 3 * x + 2) (nI 0)) = wz R1 (80 + 3 * x + 2) 0 from rfl, r1, pu_some]
    · refine SameL_G g w3 w2 (by omega) (fun j hj => ?_)
      rw [hel] at hj
      have q := w2.2 j (by omega)
      rw [List.getElem?_eraseIdx] at q
      by_cases c : j < x
      · rw [if_pos c, l1.2 j (by omega)] at q
        have q' := Option.some.inj q
        rw [Prod.mk.injEq, Prod.mk.injEq] at q'
        rw [← q'.1, ← q'.2.1, ← q'.2.2]
        exact g.2.2.1 j (by omega)
      · rw [if_neg c, l1.2 (j + 1) (by omega)] at q
        have q' := Option.some.inj q
        rw [Prod.mk.injEq, Prod.mk.injEq] at q'
        rw [← q'.1, ← q'.2.1, ← q'.2.2]
        exact g.2.2.1 (j + 1) (by omega)
    · exact GN_upd gn (w3 22 0 (by decide) (by decide)) (w3 22 3 (by decide) (by decide)) (fun j => w3 4 j (by omega) (by omega)) (by omega) (by omega)
    · exact Lst_RV hv' g.1 w3 w2 (by omega) r2 r3 (fun i hi h1 => by rw [r4 i hi h1, wz0, if_neg (by omega)])
