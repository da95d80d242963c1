/-! netting -/
theorem opp_or {v : VS} {R : RS} (h : RV v R) (g : GA v) {x : Nat} (hx : x < lsz v) : (f_X4_opposedTo v (nI x) = some (-1) ∧ f_X7_against R (nI x) = some (-1000001)) ∨ ∃ y, x < y ∧ y < lsz v ∧ f_X4_opposedTo v (nI x) = some (nI y) ∧ f_X7_against R (nI x) = some (nI y) := by
  have h12 := g.2.2.2.1
  have z3 := rz_173 h g
  have k0 := sr_loanOf h g (k := 0) (j := x) (by decide) hx
  have k1 := sr_loanOf h g (k := 1) (j := x) (by decide) hx
  have lp : ∀ (d i n : Nat), i + d = lsz v → d < n → x < i → (f_X4_opposedTo_10 v (nI x) n (nI i) = some (-1) ∧ f_X7_against_4 R (nI x) n (nI i) = some (-1000001)) ∨ ∃ y, x < y ∧ y < lsz v ∧ f_X4_opposedTo_10 v (nI x) n (nI i) = some (nI y) ∧ f_X7_against_4 R (nI x) n (nI i) = some (nI y) := by
    intro d
    induction d with
    | zero =>
      intro i n hi hn hxi
      obtain ⟨n, rfl⟩ : ∃ m, n = m + 1 := ⟨n - 1, by omega⟩
      have h1 : lsz v ≤ i := by omega
      refine Or.inl ⟨?_, ?_⟩
      · simp (disch := omega) only [f_X4_opposedTo_10, g.2.2.1, pu_bnd, nI_leI, h1, if_true]
      · show bnd (inb (173 : Int32) 198) (if rd R.1 0 (173 : Int32) ≤ nI i then _ else _) = _
        rw [if_pos (by rw [show (173 : Int32) = nI 173 from rfl, pu_rd (by decide), z3]; exact (nI_leI (by omega) (by omega)).mpr h1), show (173 : Int32) = nI 173 from rfl, pu_inb (by decide) (by decide), pu_bnd]
    | succ d ih =>
      intro i n hi hn hxi
      obtain ⟨n, rfl⟩ : ∃ m, n = m + 1 := ⟨n - 1, by omega⟩
      have h1 : ¬ lsz v ≤ i := by omega
      have l0 := sr_loanOf h g (k := 0) (j := i) (by decide) (by omega)
      have l1 := sr_loanOf h g (k := 1) (j := i) (by decide) (by omega)
      by_cases c1 : v 10 i = v 11 x
      · by_cases c2 : v 11 i = v 10 x
        · refine Or.inr ⟨i, hxi, by omega, ?_, ?_⟩
          · simp (disch := omega) only [f_X4_opposedTo_10, g.2.2.1, pu_bnd, pu_some, pu_let, pu_inb, pu_rd, pu_wr, nI_1, nI_leI, nI_ltI, nI_eq, pu_lit, nI_add, pk_mul, h1, if_false, c1, c2, if_true]
          · simp (disch := omega) only [f_X7_against_4, z3, pu_bnd, pu_some, pu_let, pu_inb, pu_rd, pu_wr, nI_1, nI_leI, nI_ltI, nI_eq, pu_lit, nI_add, pk_mul, h1, if_false, l0, l1, k0, k1, show (v (10 + 0) i = v (10 + 1) x) = True from eq_true c1, show (v (10 + 1) i = v (10 + 0) x) = True from eq_true c2, if_true]
        · have e1 : f_X4_opposedTo_10 v (nI x) (n + 1) (nI i) = f_X4_opposedTo_10 v (nI x) n (nI (i + 1)) := by
            simp (disch := omega) only [f_X4_opposedTo_10, f_X4_opposedTo_50, g.2.2.1, pu_bnd, pu_some, pu_let, pu_inb, pu_rd, pu_wr, nI_1, nI_leI, nI_ltI, nI_eq, pu_lit, nI_add, pk_mul, h1, if_false, c1, c2, if_true]
          have e2 : f_X7_against_4 R (nI x) (n + 1) (nI i) = f_X7_against_4 R (nI x) n (nI (i + 1)) := by
            simp (disch := omega) only [f_X7_against_4, f_X7_against_48, z3, pu_bnd, pu_some, pu_let, pu_inb, pu_rd, pu_wr, nI_1, nI_leI, nI_ltI, nI_eq, pu_lit, nI_add, pk_mul, h1, if_false, l0, l1, k0, k1, show (v (10 + 0) i = v (10 + 1) x) = True from eq_true c1, show (v (10 + 1) i = v (10 + 0) x) = False from eq_false c2, if_true]
          rw [e1, e2]
          exact ih (i + 1) n (by omega) (by omega) (by omega)
      · have e1 : f_X4_opposedTo_10 v (nI x) (n + 1) (nI i) = f_X4_opposedTo_10 v (nI x) n (nI (i + 1)) := by
          simp (disch := omega) only [f_X4_opposedTo_10, f_X4_opposedTo_50, g.2.2.1, pu_bnd, pu_some, pu_let, pu_inb, pu_rd, pu_wr, nI_1, nI_leI, nI_ltI, nI_eq, pu_lit, nI_add, pk_mul, h1, if_false, c1]
        have e2 : f_X7_against_4 R (nI x) (n + 1) (nI i) = f_X7_against_4 R (nI x) n (nI (i + 1)) := by
          simp (disch := omega) only [f_X7_against_4, f_X7_against_48, z3, pu_bnd, pu_some, pu_let, pu_inb, pu_rd, pu_wr, nI_1, nI_leI, nI_ltI, nI_eq, pu_lit, nI_add, pk_mul, h1, if_false, l0, k1, show (v (10 + 0) i = v (10 + 1) x) = False from eq_false c1]
        rw [e1, e2]
        exact ih (i + 1) n (by omega) (by omega) (by omega)
  have := lp (lsz v - (x + 1)) (x + 1) fuel (by omega) (fuel_gt (by omega)) (by omega)
  unfold f_X4_opposedTo f_X7_against
  rw [if_pos (nI_pos' (by omega)), pu_let, pu_let, nI_1]
  exact this
theorem fo_or {v : VS} {R : RS} (h : RV v R) (g : GA v) : (f_X4_firstOpposed v = some (-1) ∧ f_X7_netOnce R = some (0, R)) ∨ ∃ x y, x < y ∧ y < lsz v ∧ f_X4_firstOpposed v = some (nI x) ∧ f_X4_opposedTo v (nI x) = some (nI y) ∧ f_X7_netOnce R = f_X7_netOnce_56 R (nI x) (nI y) (jmin (v 12 x) (v 12 y)) := by
  have h12 := g.2.2.2.1
  have z3 := rz_173 h g
  have lp : ∀ (d i n : Nat), i + d = lsz v → d < n → (f_X4_firstOpposed_2 v n (nI i) = some (-1) ∧ f_X7_netOnce_2 R n (nI i) = some (0, R)) ∨ ∃ x y, x < y ∧ y < lsz v ∧ f_X4_firstOpposed_2 v n (nI i) = some (nI x) ∧ f_X4_opposedTo v (nI x) = some (nI y) ∧ f_X7_netOnce_2 R n (nI i) = f_X7_netOnce_56 R (nI x) (nI y) (jmin (v 12 x) (v 12 y)) := by
    intro d
    induction d with
    | zero =>
      intro i n hi hn
      obtain ⟨n, rfl⟩ : ∃ m, n = m + 1 := ⟨n - 1, by omega⟩
      have h1 : lsz v ≤ i := by omega
      refine Or.inl ⟨?_, ?_⟩
      · simp (disch := omega) only [f_X4_firstOpposed_2, g.2.2.1, pu_bnd, nI_leI, h1, if_true]
      · show bnd (inb (173 : Int32) 198) (if rd R.1 0 (173 : Int32) ≤ nI i then _ else _) = _
        rw [if_pos (by rw [show (173 : Int32) = nI 173 from rfl, pu_rd (by decide), z3]; exact (nI_leI (by omega) (by omega)).mpr h1), show (173 : Int32) = nI 173 from rfl, pu_inb (by decide) (by decide), pu_bnd]
    | succ d ih =>
      intro i n hi hn
      obtain ⟨n, rfl⟩ : ∃ m, n = m + 1 := ⟨n - 1, by omega⟩
      have h1 : ¬ lsz v ≤ i := by omega
      have hR : f_X7_netOnce_2 R (n + 1) (nI i) = (bnd2 (f_X7_against R (nI i)) fun r_2 => if r_2 = (-1000001 : Int32) then (letv (nI i + (1 : Int32)) fun x_3 => f_X7_netOnce_2 R n x_3) else (bnd2 (f_X7_loanOf R (nI i) (2 : Int32)) fun r_4 => bnd2 (f_X7_loanOf R r_2 (2 : Int32)) fun r_5 => if r_5 ≤ r_4 then (bnd2 (f_X7_loanOf R r_2 (2 : Int32)) fun r_6 => f_X7_netOnce_56 R (nI i) r_2 r_6) else (bnd2 (f_X7_loanOf R (nI i) (2 : Int32)) fun r_14 => f_X7_netOnce_56 R (nI i) r_2 r_14))) := by
        show bnd (inb (173 : Int32) 198) (if rd R.1 0 (173 : Int32) ≤ nI i then _ else _) = _
        rw [if_neg (by rw [show (173 : Int32) = nI 173 from rfl, pu_rd (by decide), z3]; exact fun z => h1 ((nI_leI (by omega) (by omega)).mp z)), show (173 : Int32) = nI 173 from rfl, pu_inb (by decide) (by decide), pu_bnd]
      have hC : f_X4_firstOpposed_2 v (n + 1) (nI i) = (bnd2 (f_X4_opposedTo v (nI i)) fun r_1 => if r_1 < (0 : Int32) then (letv (nI i + (1 : Int32)) fun x_2 => f_X4_firstOpposed_2 v n x_2) else (some (nI i))) := by
        show (if v 22 1 ≤ nI i then _ else _) = _
        rw [if_neg (by rw [g.2.2.1]; exact fun z => h1 ((nI_leI (by omega) (by omega)).mp z))]
      rcases opp_or h g (x := i) (by omega) with ⟨o1, o2⟩ | ⟨y, y1, y2, o1, o2⟩
      · rw [hR, hC, o1, o2, pu_some, pu_some, if_pos rfl, if_pos (by decide), pu_let, pu_let, nI_1]
        exact ih (i + 1) n (by omega) (by omega)
      · have l1 := sr_loanOf h g (k := 2) (j := i) (by decide) (by omega)
        have l2 := sr_loanOf h g (k := 2) (j := y) (by decide) (by omega)
        refine Or.inr ⟨i, y, y1, y2, ?_, o1, ?_⟩
        · rw [hC, o1, pu_some, if_neg (nI_pos (by omega))]
        · rw [hR, o2, pu_some, if_neg (by
            intro z
            have hp := nI_pos' (n := y) (by omega)
            rw [z] at hp
            revert hp
            decide), show (2 : Int32) = nI 2 from rfl, l1, pu_some, l2, pu_some, pu_some, pu_some, jmin_ge]
          by_cases c : v 12 y ≤ v 12 i
          · rw [if_pos c, if_pos (show v (10 + 2) y ≤ v (10 + 2) i from c)]
          · rw [if_neg c, if_neg (show ¬ v (10 + 2) y ≤ v (10 + 2) i from c)]
  exact lp (lsz v) 0 fuel (by omega) (fuel_gt (by omega))
theorem net_step {v : VS} {R : RS} (h : RV v R) (g : G v) {x y : Nat} (hxy : x < y) (hy : y < lsz v) : ∃ m w R', 1 ≤ m ∧ m ≤ 200 ∧ jmin (v 12 x) (v 12 y) = nI m ∧ f_X4_removePaid (wn (wn v 12 x (v 12 x - nI m)) 12 y (v 12 y - nI m)) = some w ∧ f_X7_netOnce_56 R (nI x) (nI y) (nI m) = some (nI m, R') ∧ G w ∧ lsz w < lsz v ∧ SameL v w ∧ RV w R' ∧ Fr R R' := by
  have h12 := g.1.2.2.2.1
  obtain ⟨a, b, o, q1, q2, q3, q4, q5, q6, q7, q8⟩ := g.2.2.1 x (by omega)
  obtain ⟨a', b', o', p1, p2, p3, p4, p5, p6, p7, p8⟩ := g.2.2.1 y hy
  have m1 : min o o' ≤ o := Nat.min_le_left _ _
  have m2 : min o o' ≤ o' := Nat.min_le_right _ _
  have m3 : min o o' = o ∨ min o o' = o' := by omega
  have m4 : 1 ≤ min o o' := by omega
  have ej : jmin (v 12 x) (v 12 y) = nI (min o o') := by rw [q8, p8, jmin_nI (by omega) (by omega)]
  rw [ej]
  clear ej
  generalize min o o' = m at *
  generalize hU : wn (wn v 12 x (nI (o - m))) 12 y (nI (o' - m)) = U
  have uk : ∀ k j, k ≠ 12 → U k j = v k j := fun k j hk => by rw [← hU, pu_wn_k _ _ _ _ hk, pu_wn_k _ _ _ _ hk]
  have u12 : ∀ j, U 12 j = if j = y then nI (o' - m) else if j = x then nI (o - m) else v 12 j := fun j => by
    rw [← hU, pu_wn, pu_wn]
    simp
  have gU : GA U := g.1.congr' fun j => uk 22 j (by decide)
  have hlU : lsz U = lsz v := by unfold lsz; rw [uk 22 1 (by decide)]
  have r1 := RV.wz h g.1 (k := 12) (j := x) (i := 80 + 3 * x + 2) (x := nI (o - m)) (by unfold zi; simp) (by unfold inR; omega) (Or.inl (by decide))
  have g1 : GA (wn v 12 x (nI (o - m))) := g.1.congr' fun j => pu_wn_k _ _ _ _ (by decide)
  have r2 := RV.wz r1 g1 (k := 12) (j := y) (i := 80 + 3 * y + 2) (x := nI (o' - m)) (by unfold zi; simp) (by unfold inR; omega) (Or.inl (by decide))
  rw [hU] at r2
  obtain ⟨l, l1, l2⟩ := Lst_of U gU
  obtain ⟨w, w1, w2, w3⟩ := sp_removePaid l1 (by omega)
  have zz := rz_173 r2 gU
  obtain ⟨R2, d1, d2, d3, d4, d5⟩ := sr_dropPaid (l := l) (by omega) (by rw [zz, l2]) (LC_RV r2 l1 l2)
  have hle : (l.filter pd).length ≤ l.length := List.length_filter_le _ _
  have sU : SameL v U := fun k j z1 z2 => uk k j (by omega)
  refine ⟨m, w, R2, m4, by omega, rfl, by rw [q8, p8, pk_sub m1, pk_sub m2, hU]; exact w1, ?_, ?_, ?_, sU.trans w3, Lst_RV r2 gU w3 w2 (by omega) d2 d3 d4, ((wz_Fr _ _ _).trans (wz_Fr _ _ _)).trans d5⟩
  · have z1 := rz_l h (k := 12) (j := x) (i := 80 + 3 * x + 2) (by decide) (by omega) (by omega)
    have z2 : (wz R (80 + 3 * x + 2) (nI (o - m))).1 0 (80 + 3 * y + 2) = nI o' := by
      rw [wz0, if_neg (by omega), rz_l h (k := 12) (j := y) (i := 80 + 3 * y + 2) (by decide) (by omega) (by omega), p8]
    unfold f_X7_netOnce_56
    simp (disch := omega) only [pu_bnd, pu_some, pu_let, pu_inb, pu_rd, pu_wr, pu_lit, nI_add, pk_mul, z1, q8, pk_sub m1]
    rw [show setR R (wn R.1 0 (80 + 3 * x + 2) (nI (o - m))) = wz R (80 + 3 * x + 2) (nI (o - m)) from rfl, z2, pk_sub m2, show setR (wz R (80 + 3 * x + 2) (nI (o - m))) (wn (wz R (80 + 3 * x + 2) (nI (o - m))).1 0 (80 + 3 * y + 2) (nI (o' - m))) = wz (wz R (80 + 3 * x + 2) (nI (o - m))) (80 + 3 * y + 2) (nI (o' - m)) from rfl, d1, pu_some]
  · refine SameL_G g (sU.trans w3) w2 (by omega) (fun j hj => ?_)
    have q := w2.2 j hj
    have hmem : (w 10 j, w 11 j, w 12 j) ∈ l.filter pd := List.mem_iff_getElem?.mpr ⟨j, q⟩
    obtain ⟨n1, n2⟩ := List.mem_filter.mp hmem
    obtain ⟨i, i1, i2⟩ := mem_Lst l1 n1
    rw [Prod.mk.injEq, Prod.mk.injEq] at i2
    obtain ⟨c, d, e, t1, t2, t3, t4, t5, t6, t7, t8⟩ := g.2.2.1 i (by omega)
    have ho : ∃ e', e' ≤ 200 ∧ U 12 i = nI e' := by
      rw [u12]
      split
      · exact ⟨_, by omega, rfl⟩
      · split
        · exact ⟨_, by omega, rfl⟩
        · exact ⟨e, t5, t8⟩
    obtain ⟨e', s1, s2⟩ := ho
    refine ⟨c, d, e', t1, t2, t3, ?_, s1, by rw [i2.1, uk 10 i (by decide)]; exact t6, by rw [i2.2.1, uk 11 i (by decide)]; exact t7, by rw [i2.2.2]; exact s2⟩
    unfold pd at n2
    have n3 := of_decide_eq_true n2
    rw [i2.2.2, s2] at n3
    by_cases z : 1 ≤ e'
    · exact z
    · exact absurd n3 (nI_nlt (a := 0) (by omega) (by omega))
  · rw [Lst_lsz w2 (by omega), ← hlU, ← l2]
    refine List.length_filter_lt_length_iff_exists.mpr ?_
    have hz : ∃ i, i < l.length ∧ U 12 i = nI 0 := by
      rcases m3 with e | e
      · refine ⟨x, by omega, ?_⟩
        rw [u12, if_neg (by omega), if_pos rfl, e, Nat.sub_self]
      · refine ⟨y, by omega, ?_⟩
        rw [u12, if_pos rfl, e, Nat.sub_self]
    obtain ⟨i, i1, i2⟩ := hz
    refine ⟨(U 10 i, U 11 i, U 12 i), List.mem_iff_getElem?.mpr ⟨i, l1.2 i i1⟩, ?_⟩
    unfold pd
    rw [i2]
    exact fun z => absurd (of_decide_eq_true z) (nI_nlt (a := 0) (b := 0) (by decide) (by decide))
theorem net_loop : ∀ (d i n n' : Nat) (tot : Int32) (v : VS) (R : RS), i + d = 12 → lsz v ≤ d → d < n → d < n' → G v → RV v R →
    ∃ tot' w R', f_X4_offset_4 n tot (nI i) v = some (tot', w) ∧ (bnd2 (f_X7_netOnce R) fun r => f_X7_net_11 n' tot r.1 r.2) = some (tot', R') ∧ G w ∧ SameL v w ∧ RV w R' ∧ Fr R R' := by
  intro d
  induction d with
  | zero =>
    intro i n n' tot v R hi hl hn hn' g h
    obtain ⟨n, rfl⟩ : ∃ m, n = m + 1 := ⟨n - 1, by omega⟩
    obtain ⟨n', rfl⟩ : ∃ m, n' = m + 1 := ⟨n' - 1, by omega⟩
    obtain rfl : i = 12 := by omega
    rcases fo_or h g.1 with ⟨f1, f2⟩ | ⟨x, y, q1, q2, _⟩
    · refine ⟨tot, v, R, ?_, ?_, g, fun _ _ _ _ => rfl, h, Fr.rfl' R⟩
      · show (if (12 : Int32) ≤ nI 12 then _ else _) = _
        rw [if_pos (by decide)]
      · rw [f2, pu_some]
        show (if (0 : Int32) ≤ 0 then _ else _) = _
        rw [if_pos (by decide)]
    · omega
  | succ d ih =>
    intro i n n' tot v R hi hl hn hn' g h
    obtain ⟨n, rfl⟩ : ∃ m, n = m + 1 := ⟨n - 1, by omega⟩
    obtain ⟨n', rfl⟩ : ∃ m, n' = m + 1 := ⟨n' - 1, by omega⟩
    have h12 := g.1.2.2.2.1
    have hc : ¬ (12 : Int32) ≤ nI i := fun z => by
      have := (nI_leI (a := 12) (by omega) (by omega)).mp z
      omega
    rcases fo_or h g.1 with ⟨f1, f2⟩ | ⟨x, y, q1, q2, f1, f2, f3⟩
    · refine ⟨tot, v, R, ?_, ?_, g, fun _ _ _ _ => rfl, h, Fr.rfl' R⟩
      · show (if (12 : Int32) ≤ nI i then _ else _) = _
        rw [if_neg hc, f1, pu_some, show f_X4_opposedTo v (-1) = some (-1) from rfl, pu_some, if_neg (by decide)]
      · rw [f2, pu_some]
        show (if (0 : Int32) ≤ 0 then _ else _) = _
        rw [if_pos (by decide)]
    · obtain ⟨m, w, R1, m1, m2, m3, s1, s2, s3, s4, s5, s6, s7⟩ := net_step h g q1 q2
      obtain ⟨tot', w', R', t1, t2, t3, t4, t5, t6⟩ := ih (i + 1) n n' (tot + nI m) w R1 (by omega) (by omega) (by omega) (by omega) s3 s6
      refine ⟨tot', w', R', ?_, ?_, t3, s5.trans t4, t5, s7.trans t6⟩
      · have e12 : (wn v 12 x (v 12 x - nI m)) 12 y = v 12 y := pu_wn_j _ _ _ _ (by omega)
        rw [← t1]
        show (if (12 : Int32) ≤ nI i then _ else _) = _
        rw [if_neg hc, f1, pu_some, f2, pu_some, if_pos (nI_pos' (by omega)), pu_inb (by omega : x < 12) (by decide), pu_inb (by omega : y < 12) (by decide), pu_bnd, pu_bnd, pu_let, pu_bnd, pu_bnd, pu_let, pu_rd (by omega), pu_rd (by omega), m3, pu_wr (by omega), pu_bnd, pu_bnd, pu_let, pu_wr (by omega), pu_rd (by omega), e12, pu_let, s1, pu_some, pu_let, nI_1]
      · rw [f3, m3, s2, pu_some, ← t2]
        show (if nI m ≤ (0 : Int32) then _ else _) = _
        rw [if_neg (nI_nle (by omega) (by omega)), pu_let]
theorem op_net : Op_net Rel := by
  intro n S R hn h
  unfold f_X6_net f_X7_net
  obtain ⟨S1, R1, b1, b2, b3, b4, _⟩ := rel_record h
  rw [b1, b2, pu_some, pu_some]
  obtain ⟨⟨g, gn, hv⟩, _⟩ := id b3
  have hv' : RV (S1.1 0) R1 := hv
  have h12 := g.1.2.2.2.1
  obtain ⟨tot, w, R', t1, t2, t3, t4, t5, t6⟩ := net_loop 12 0 fuel fuel 0 (S1.1 0) R1 (by omega) h12 (fuel_gt (by omega)) (fuel_gt (by omega)) g hv'
  refine ⟨tot, setV S1 0 w, R', ?_, t2, op_fin b3 t3 (GN_upd gn (t4 22 0 (by decide) (by decide)) (t4 22 3 (by decide) (by decide)) (fun j => t4 4 j (by omega) (by omega)) (by omega) (by omega)) t5 t6⟩
  unfold f_X4_offset
  rw [show (0 : Int32) = nI 0 from rfl] at t1 ⊢
  rw [t1, pu_some, pu_let]
