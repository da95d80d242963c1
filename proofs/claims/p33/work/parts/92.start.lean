set_option maxHeartbeats 4000000 in
set_option maxRecDepth 100000 in
/-- the static tables, as the Statement gives them -/
theorem stat_of {s : State} {b : Nat} (hts : ∀ w ∈ lw_tbl, w.before #[Value.ref b] s = true) (hgv : (Jvm.Cond.and given_1 narrow_1).before #[Value.ref b] s = true) : ∃ t : Nat → Nat, Stat t (fun q => s.heap.size ≤ q) s s.heap := by
    have htw : ∀ w ∈ lw_w, w.before #[Value.ref b] s = true := fun w h => hts w (lw_w_in w h)
    have hA0 : ∀ a : Nat, a < s.heap.size → ¬ (fun q => s.heap.size ≤ q) a := fun a h => Nat.not_le.mpr h
    have hs := flat_of_before _ hgv
    obtain ⟨t0, ht0, hT0⟩ := va_Tof (args := #[Value.ref b]) (s := s) (tm := .static "MeterPool" "HOUSE_MOST" "[I") (ty := .int) (N := 4) (f := fun j => .int (stHM j)) (A := fun q => s.heap.size ≤ q) (by decide) (hs _ (by decide +kernel)) (va_eqt (hs _ (by decide +kernel))) (fun j hj => by
        match j, hj with
        | 0, _ => exact va_eqt (hs _ (by decide +kernel))
        | 1, _ => exact va_eqt (hs _ (by decide +kernel))
        | 2, _ => exact va_eqt (hs _ (by decide +kernel))
        | 3, _ => exact va_eqt (hs _ (by decide +kernel))) hA0
    have hZ0 := va_Zref (A := fun q => s.heap.size ≤ q) (hts _ n2_51) (htw _ q1_1) ht0 hA0
    have hs := flat_of_before _ hgv
    obtain ⟨t1, ht1, hT1⟩ := va_Tof (args := #[Value.ref b]) (s := s) (tm := .static "MeterPool" "SETTING_MOST" "[I") (ty := .int) (N := 4) (f := fun j => .int (stSM j)) (A := fun q => s.heap.size ≤ q) (by decide) (hs _ (by decide +kernel)) (va_eqt (hs _ (by decide +kernel))) (fun j hj => by
        match j, hj with
        | 0, _ => exact va_eqt (hs _ (by decide +kernel))
        | 1, _ => exact va_eqt (hs _ (by decide +kernel))
        | 2, _ => exact va_eqt (hs _ (by decide +kernel))
        | 3, _ => exact va_eqt (hs _ (by decide +kernel))) hA0
    have hZ1 := va_Zref (A := fun q => s.heap.size ≤ q) (hts _ n2_68) (htw _ q1_1) ht1 hA0
    have hs := flat_of_before _ hgv
    obtain ⟨t2, ht2, hT2⟩ := va_Tof (args := #[Value.ref b]) (s := s) (tm := .static "MeterPool" "BATTERY_LEAST" "[I") (ty := .int) (N := 3) (f := fun j => .int (stBL j)) (A := fun q => s.heap.size ≤ q) (by decide) (hs _ (by decide +kernel)) (va_eqt (hs _ (by decide +kernel))) (fun j hj => by
        match j, hj with
        | 0, _ => exact va_eqt (hs _ (by decide +kernel))
        | 1, _ => exact va_eqt (hs _ (by decide +kernel))
        | 2, _ => exact va_eqt (hs _ (by decide +kernel))) hA0
    have hZ2 := va_Zref (A := fun q => s.heap.size ≤ q) (hts _ n2_77) (htw _ q1_1) ht2 hA0
    have hs := flat_of_before _ hgv
    obtain ⟨t3, ht3, hT3⟩ := va_Tof (args := #[Value.ref b]) (s := s) (tm := .static "MeterPool" "BATTERY_MOST" "[I") (ty := .int) (N := 3) (f := fun j => .int (stBM j)) (A := fun q => s.heap.size ≤ q) (by decide) (hs _ (by decide +kernel)) (va_eqt (hs _ (by decide +kernel))) (fun j hj => by
        match j, hj with
        | 0, _ => exact va_eqt (hs _ (by decide +kernel))
        | 1, _ => exact va_eqt (hs _ (by decide +kernel))
        | 2, _ => exact va_eqt (hs _ (by decide +kernel))) hA0
    have hZ3 := va_Zref (A := fun q => s.heap.size ≤ q) (hts _ n2_79) (htw _ q1_1) ht3 hA0
    exact ⟨fun k => if k = 0 then t0 else if k = 1 then t1 else if k = 2 then t2 else t3, ⟨hZ0, hT0⟩, ⟨hZ1, hT1⟩, ⟨hZ2, hT2⟩, ⟨hZ3, hT3⟩⟩
set_option maxHeartbeats 4000000 in
set_option maxRecDepth 100000 in
/-- THE LAW, from its entry, over its pure program -/
theorem whole_start_open (good : ∀ sc : Nat × (Nat → Int32), sc.1 ≤ 260 → ∃ Z, f_L_law sc (pool0, law0) = some (1, Z)) {p : Program} {e : Env} {s : State} {m : MethodId} {below : List Frame} {meth : Method} {c : Code} (l : Launch) {b L : Nat} {xs : Nat → Int32} (hL : L ≤ 260) (C0 : lw_At p s m meth c b L xs) : W p l e room_1 s m #[Value.ref b] below meth c s.heap [] 0 0 (lw_Z below #[Value.ref b] s) (entryFrame m ([Value.ref b] : List Value).toArray 13) := by
  obtain ⟨hx, hb, hr, hml, hown, hts, hX, hbl, hlocks, hgv⟩ := id C0
  have htw : ∀ w ∈ lw_w, w.before #[Value.ref b] s = true := fun w h => hts w (lw_w_in w h)
  have hA : ∀ q : Nat, s.heap.size ≤ q → (fun q : Nat => s.heap.size ≤ q) q := fun _ h => h
  have hbA : ¬ (fun q : Nat => s.heap.size ≤ q) b := Nat.not_le.mpr hbl
  obtain ⟨t, hSt⟩ := stat_of hts hgv
  obtain ⟨c0, i0, kn0⟩ := u_known (C := RX0) (T := TX0) (N := 4) (n := 4) htw inX0 (htw _ q1_99)
  obtain ⟨c1, i1, kn1⟩ := u_known (C := RX1) (T := TX1) (N := 2) (n := 2) htw inX1 (htw _ q1_162)
  obtain ⟨c2, i2, kn2⟩ := u_known (C := RX2) (T := TX2) (N := 11) (n := 11) htw inX2 (htw _ q1_25)
  obtain ⟨c3, i3, kn3⟩ := u_known (C := RX3) (T := TX3) (N := 6) (n := 6) htw inX3 (htw _ q1_179)
  obtain ⟨c4, i4, kn4⟩ := u_known (C := RX4) (T := TX4) (N := 4) (n := 4) htw inX4 (htw _ q1_75)
  obtain ⟨c5, i5, kn5⟩ := u_known (C := RX5) (T := TX5) (N := 11) (n := 11) htw inX5 (htw _ q1_19)
  obtain ⟨c6, i6, kn6⟩ := u_known (C := RX6) (T := TX6) (N := 6) (n := 6) htw inX6 (htw _ q1_11)
  obtain ⟨dC, dI, hKc⟩ : ∃ (dC : Nat → ClassId) (dI : Nat → Nat → Nat), ∀ (k : Nat) (q : vw_C), vwCl[k]? = some q → u_Kn s q.1 q.2.1 q.2.2 (dC k) (dI k) := by
    refine ⟨fun k => if k = 0 then c0 else if k = 1 then c1 else if k = 2 then c2 else if k = 3 then c3 else if k = 4 then c4 else if k = 5 then c5 else c6, fun k => if k = 0 then i0 else if k = 1 then i1 else if k = 2 then i2 else if k = 3 then i3 else if k = 4 then i4 else if k = 5 then i5 else i6, ?_⟩
    intro k q hq
    match k, hq with
    | 0, hq => cases hq; exact kn0
    | 1, hq => cases hq; exact kn1
    | 2, hq => cases hq; exact kn2
    | 3, hq => cases hq; exact kn3
    | 4, hq => cases hq; exact kn4
    | 5, hq => cases hq; exact kn5
    | 6, hq => cases hq; exact kn6
    | k + 7, hq => simp [vwCl] at hq
  obtain ⟨cI, kI, pI, eI1, eI2, eI3⟩ := Cond.arrayClass_spec (htw _ q1_73)
  obtain ⟨cZ, kZ, pZ, eZ1, eZ2, eZ3⟩ := Cond.arrayClass_spec (htw _ q1_199)
  obtain ⟨pV, cV, kV, eV1, eV2, eV3, eV4, eV5⟩ := Cond.arrayOver_spec (hts _ n1_168)
  have hK : va_K (dC, dI) vwCl (jtys cI cZ cV) s := by
    refine ⟨hKc, fun k q hq => ?_⟩
    match k, hq with
    | 0, hq => cases hq; exact ⟨fun n z => ⟨fun k h => (by cases h), kI, eI2, pI, eI3⟩, eI1⟩
    | 1, hq => cases hq; exact ⟨fun n z => ⟨fun k h => (by cases h), kZ, eZ2, pZ, eZ3⟩, eZ1⟩
    | 2, hq => cases hq; exact ⟨fun n z => ⟨fun k h => (by cases h), kV, eV3, pV, eV4⟩, kV, pV, eV3, eV4, eV1, eV5⟩
    | k + 3, hq => simp [jtys] at hq
  have hE : EW s := ⟨va_Nw.of rfl (hts _ n1_26), va_Nw.of rfl (hts _ n1_76), va_Nw.of rfl (hts _ n1_180), hts _ n1_168⟩
  obtain ⟨X, hXe⟩ : ∃ X : JX va_W, X = ((p, l, e, room_1, s), (m, #[Value.ref b], below, meth, c), (13, (dC, dI), cI, cZ, cV), (0, 0), ((fun q : Nat => s.heap.size ≤ q), lw_Z below #[Value.ref b] s, fun w => w)) := ⟨_, rfl⟩
  have h : OKw X RL cL_law room_1 := by rw [hXe]; exact ⟨⟨hx, hb, hml, hown, htw, hK, hA, rfl⟩, hE, rfl⟩
  have hnL : X.nL = 13 := by rw [hXe]
  obtain ⟨Z, hZ⟩ := good (L, xs) hL
  have main : J (XA X 0 0) 0 [(0, .ref b)] [] [] := by
    refine jc_ctor h (ix2 := 93) (n_X6_init X.l X.D X.cI X.cZ X.cV) inX6 tyX6_ok rfl (by intro j hj; have hh := hj; rcases (show j = 0 ∨ j = 1 ∨ j = 2 ∨ j = 3 ∨ j = 4 ∨ j = 5 by omega) with rfl | rfl | rfl | rfl | rfl | rfl <;> rfl) q1_10 q1_11 q1_1 (Or.inl q1_12) q1_13 q1_14 q1_1 rfl (by decide +kernel) 320 3014 rfl rfl (by decide) (by decide) ⟨Nat.le_of_ble_eq_true rfl, Nat.le_of_ble_eq_true rfl⟩ (Nat.le_of_ble_eq_true rfl) dL_law_0 dL_law_3 dL_law_4 (fun q1 w1 pw1 => ?_)
    obtain ⟨AD, rfl, ew1⟩ := pw1
    refine j_astore_n (h.ok (k := 320) (n := 3014) (by decide) (by decide)) hnL [(1, .ref (AD 12 7)), (0, .ref b)] rfl (by decide) rfl dL_law_7 ?_
    refine j_bipush (h.ok (k := 320) (n := 3014) (by decide) (Nat.le_of_ble_eq_true rfl)) (v := 20) (by decide) dL_law_8 ?_
    refine jc_newiW h 20 (by decide) (by decide) (by decide) (Nat.le_of_ble_eq_true rfl) (Nat.le_of_ble_eq_true rfl) dL_law_10 (fun z0 => ?_)
    refine j_astore_n (h.ok (k := 321) (n := 3034) (by decide) (Nat.le_of_ble_eq_true rfl)) hnL [(2, .ref z0), (1, .ref (AD 12 7)), (0, .ref b)] rfl (by decide) rfl dL_law_12 ?_
    refine j_bipush (h.ok (k := 321) (n := 3034) (by decide) (Nat.le_of_ble_eq_true rfl)) (v := 48) (by decide) dL_law_13 ?_
    refine jc_newiW h 48 (by decide) (by decide) (by decide) (Nat.le_of_ble_eq_true rfl) (Nat.le_of_ble_eq_true rfl) dL_law_15 (fun z1 => ?_)
    refine j_astore_n (h.ok (k := 322) (n := 3082) (by decide) (Nat.le_of_ble_eq_true rfl)) hnL [(3, .ref z1), (2, .ref z0), (1, .ref (AD 12 7)), (0, .ref b)] rfl (by decide) rfl dL_law_17 ?_
    refine j_bipush (h.ok (k := 322) (n := 3082) (by decide) (Nat.le_of_ble_eq_true rfl)) (v := 16) (by decide) dL_law_18 ?_
    refine jc_newiW h 16 (by decide) (by decide) (by decide) (Nat.le_of_ble_eq_true rfl) (Nat.le_of_ble_eq_true rfl) dL_law_20 (fun z2 => ?_)
    refine j_astore (h.ok (k := 323) (n := 3098) (by decide) (Nat.le_of_ble_eq_true rfl)) hnL [(4, .ref z2), (3, .ref z1), (2, .ref z0), (1, .ref (AD 12 7)), (0, .ref b)] (by decide) rfl dL_law_22 ?_
    refine j_bipush (h.ok (k := 323) (n := 3098) (by decide) (Nat.le_of_ble_eq_true rfl)) (v := 30) (by decide) dL_law_24 ?_
    refine jc_newiW h 30 (by decide) (by decide) (by decide) (Nat.le_of_ble_eq_true rfl) (Nat.le_of_ble_eq_true rfl) dL_law_26 (fun z3 => ?_)
    refine j_astore (h.ok (k := 324) (n := 3128) (by decide) (Nat.le_of_ble_eq_true rfl)) hnL [(5, .ref z3), (4, .ref z2), (3, .ref z1), (2, .ref z0), (1, .ref (AD 12 7)), (0, .ref b)] (by decide) rfl dL_law_28 ?_
    refine j_bipush (h.ok (k := 324) (n := 3128) (by decide) (Nat.le_of_ble_eq_true rfl)) (v := 8) (by decide) dL_law_30 ?_
    refine jc_newiW h 8 (by decide) (by decide) (by decide) (Nat.le_of_ble_eq_true rfl) (Nat.le_of_ble_eq_true rfl) dL_law_32 (fun z4 => ?_)
    refine j_astore (h.ok (k := 325) (n := 3136) (by decide) (Nat.le_of_ble_eq_true rfl)) hnL [(6, .ref z4), (5, .ref z3), (4, .ref z2), (3, .ref z1), (2, .ref z0), (1, .ref (AD 12 7)), (0, .ref b)] (by decide) rfl dL_law_34 ?_
    refine j_bipush (h.ok (k := 325) (n := 3136) (by decide) (Nat.le_of_ble_eq_true rfl)) (v := 12) (by decide) dL_law_36 ?_
    refine jc_newiW h 12 (by decide) (by decide) (by decide) (Nat.le_of_ble_eq_true rfl) (Nat.le_of_ble_eq_true rfl) dL_law_38 (fun z5 => ?_)
    refine j_astore (h.ok (k := 326) (n := 3148) (by decide) (Nat.le_of_ble_eq_true rfl)) hnL [(7, .ref z5), (6, .ref z4), (5, .ref z3), (4, .ref z2), (3, .ref z1), (2, .ref z0), (1, .ref (AD 12 7)), (0, .ref b)] (by decide) rfl dL_law_40 ?_
    obtain ⟨al, hal⟩ : ∃ al : Nat → Nat, al = fun k => match k with | 0 => z0 | 1 => z1 | 2 => z2 | 3 => z3 | 4 => z4 | _ => z5 := ⟨_, rfl⟩
    subst hXe
    obtain ⟨Y, hYe⟩ : ∃ Y : JX LQ, Y = ((p, l, e, room_1, s), (m, #[Value.ref b], below, meth, c), (13, (dC, dI), cI, cZ, cV), (326, 3148), ((fun q : Nat => s.heap.size ≤ q), lw_Z below #[Value.ref b] s, fun Z => poolW cI cZ cV AD Z.1 ++ lawW cI al Z.2)) := ⟨_, rfl⟩
    have okY : OK Y RL cL_law rmL_law := by rw [hYe]; exact ⟨hx, hb, hml, hown, htw, hK, hA, rfl, Nat.le_of_ble_eq_true rfl, Nat.le_of_ble_eq_true rfl⟩
    have hQ : IsLP Y.cI Y.cZ Y.cV Y.B AD al := by rw [hYe]; exact lawW_is cI cZ cV AD al
    have hStY : Stat t Y.A Y.s Y.s.heap := by rw [hYe]; exact hSt
    have hScY : Scr b L xs Y.A Y.s Y.s.heap := by rw [hYe]; exact ⟨hX, hbl, hbA⟩
    have hEnd : EXz Y cL_law 1 Z := by
      intro pc lv hdg _
      rw [hYe]
      intro ls H locs a1 a2 a3 a4
      refine va_forget (fun q hq => a4.2.2 q hq) ?_
      refine W.widen (k := 600000) (n := 7302250) (Nat.le_of_ble_eq_true rfl) (Nat.le_of_ble_eq_true rfl) ?_
      exact lw_ret (d0 := s.drawn) (Drawn.sameBut.refl s.drawn lw_cs) hx hb hr hlocks hdg
    have hJ := k_L_law okY hQ hStY hScY (by rw [hYe]) (res := (1, Z)) hEnd hZ
    rw [hYe, hal] at hJ
    rw [ew1]
    simp only [List.nil_append, List.append_assoc, List.cons_append]
    exact fun ls H locs a1 a2 a3 a4 => hJ ls H locs a1 a2 a3 a4
  rw [hXe] at main
  have hl := lv_entry ([.ref b]) (n := 13) (Nat.le_of_ble_eq_true rfl)
  rw [lg_entry_eq]
  have hP0 : va_P (dC, dI) vwCl [] s.heap := fun k q h => by simp at h
  have hD0 : va_D (fun q : Nat => s.heap.size ≤ q) [] := ⟨fun i j p q h => by simp at h, fun k q h => by simp at h⟩
  exact main _ _ _ hl hP0 hD0 va_S.rf
