/-! THE LAW'S HOUR: the batteries and the accounts -/
theorem wn_comm (v : VS) {k j k' j' : Nat} (x y : Int32) (h : ¬ (k = k' ∧ j = j')) : wn (wn v k j x) k' j' y = wn (wn v k' j' y) k j x := by
  refine vs_ext fun a b => ?_
  simp only [pu_wn]
  by_cases h1 : a = k' ∧ b = j'
  · rw [if_pos h1]
    by_cases h2 : a = k ∧ b = j
    · exact absurd ⟨h2.1.symm.trans h1.1, h2.2.symm.trans h1.2⟩ h
    · rw [if_neg h2, if_pos h1]
  · rw [if_neg h1, if_neg h1]
theorem cgv_18 (v : VS) (j : Nat) (y : Int32) (b : Nat) : cgv (wn v 18 j y) b = cgv v b := by
  unfold cgv
  rw [pu_wn_k _ _ _ _ (by decide), pu_wn_k _ _ _ _ (by decide)]
theorem tk0_18 (v : VS) (j : Nat) (y : Int32) (b : Nat) (x : Int32) : tk0 (wn v 18 j y) b x = tk0 v b x := by
  unfold tk0
  rw [pu_wn_k _ _ _ _ (by decide), pu_wn_k _ _ _ _ (by decide), pu_wn_k _ _ _ _ (by decide), pu_wn_k _ _ _ _ (by decide)]
theorem gvS_18 (v : VS) (j : Nat) (y p : Int32) : gvS (wn v 18 j y) p = wn (gvS v p) 18 j y := by
  unfold gvS
  rw [cgv_18, cgv_18, pu_wn_k _ _ _ _ (by decide), pu_wn_k _ _ _ _ (by decide), wn_comm v _ _ (by omega), wn_comm _ _ _ (by omega)]
theorem stP_18 (v : VS) {j : Nat} (hj : j ≠ 2) (y : Int32) (b : Nat) (x : Int32) : stP (wn v 18 j y) b x = wn (stP v b x) 18 j y := by
  unfold stP
  rw [tk0_18, pu_wn_k _ _ _ _ (by decide), pu_wn_k _ _ _ _ (by decide), pu_wn_j _ _ _ _ (fun e => hj e.symm), wn_comm v _ _ (by omega), wn_comm _ _ _ (by omega)]
/-- the accounts at the hour's end -/
def enV (w : VS) (a b c : Int32) : VS := wn (wn (wn (wn w 18 0 (w 18 0 + a)) 18 1 (w 18 1 + b)) 18 3 (w 18 3 + c)) 22 3 (w 22 3 + 1)
theorem enV_st (w : VS) (s p x : Int32) : wn (stS (wn (wn w 18 0 (w 18 0 + s)) 18 1 (w 18 1 + p)) x) 22 3 (stS (wn (wn w 18 0 (w 18 0 + s)) 18 1 (w 18 1 + p)) x 22 3 + 1) = enV (stP (stP w 0 x) 1 (x - tk0 w 0 x)) s p (x - tk0 w 0 x - tk0 (stP w 0 x) 1 (x - tk0 w 0 x)) := by
  rw [stS_same (by decide), pu_wn_k _ _ _ _ (by decide), pu_wn_k _ _ _ _ (by decide)]
  have e : ∀ k j, ¬ (k = 16 ∧ j = 0) ∧ ¬ (k = 16 ∧ j = 1) ∧ ¬ (k = 18 ∧ j = 2) → (stP (stP w 0 x) 1 (x - tk0 w 0 x)) k j = w k j := fun k j h => by
    rw [stP_same ⟨h.2.1, h.2.2⟩, stP_same ⟨h.1, h.2.2⟩]
  unfold stS enV
  rw [tk0_18, tk0_18, stP_18 _ (by decide), stP_18 _ (by decide), stP_18 _ (by decide), stP_18 _ (by decide), tk0_18, tk0_18, pu_wn_j _ _ _ _ (by decide), pu_wn_j _ _ _ _ (by decide), e 18 0 (by decide), e 18 1 (by decide), e 22 3 (by decide)]
theorem enV_gv (w : VS) (s p x : Int32) : wn (gvS (wn (wn w 18 0 (w 18 0 + s)) 18 1 (w 18 1 + p)) x) 22 3 (gvS (wn (wn w 18 0 (w 18 0 + s)) 18 1 (w 18 1 + p)) x 22 3 + 1) = enV (gvS w x) s p 0 := by
  rw [gvS_same (by decide), pu_wn_k _ _ _ _ (by decide), pu_wn_k _ _ _ _ (by decide)]
  have e : ∀ k j, k ≠ 16 → gvS w x k j = w k j := fun k j h => gvS_same h
  unfold enV
  rw [gvS_18, gvS_18, e 18 0 (by decide), e 18 1 (by decide), e 18 3 (by decide), e 22 3 (by decide), Int32.add_zero]
  have e3 : wn (wn (wn (gvS w x) 18 0 (w 18 0 + s)) 18 1 (w 18 1 + p)) 18 3 (w 18 3) = wn (wn (gvS w x) 18 0 (w 18 0 + s)) 18 1 (w 18 1 + p) := by
    have := wn_same (wn (wn (gvS w x) 18 0 (w 18 0 + s)) 18 1 (w 18 1 + p)) 18 3
    rw [pu_wn_j _ _ _ _ (by decide), pu_wn_j _ _ _ _ (by decide), e 18 3 (by decide)] at this
    exact this
  rw [e3]
theorem inL18 {j : Nat} (h : j < 8 ∧ j ≠ 5) : inL 18 j := Or.inr (Or.inr (Or.inr (Or.inr (Or.inl ⟨rfl, h⟩))))
theorem inL16 {b : Nat} (h : b < 2) : inL 16 b := Or.inr (Or.inr (Or.inl ⟨by decide, by decide, h⟩))
theorem inL22 {j : Nat} (h : j < 5) : inL 22 j := Or.inr (Or.inr (Or.inr (Or.inr (Or.inr (Or.inr (Or.inr ⟨rfl, h⟩))))))
theorem SM.wk {w : VS} (s : SM w) {k j : Nat} (h : k ≠ 22 ∨ 3 ≤ j) (x : Int32) : SM (wn w k j x) := s.congr fun i hi => by rw [pu_wn, if_neg (by omega)]
theorem enV_SM {w : VS} (s : SM w) (a b c : Int32) : SM (enV w a b c) := (((s.wk (Or.inl (by decide)) _).wk (Or.inl (by decide)) _).wk (Or.inl (by decide)) _).wk (Or.inr (by decide)) _
theorem rd_lit (R : VS) (r : Nat) {i : Nat} (h : i < 2 ^ 31) : rd R r (nI i) = R r i := pu_rd h
theorem sl_end {w R : VS} (h : VL w R) (s : SM w) {m : Nat} (o : OffR m R) (a b c : Int32) (n : Nat) : ∃ R', f_L_hour_399 a b (n + 1) c (nI 2) R = some R' ∧ VL (enV w a b c) R' ∧ OffR m R' := by
  have e8 := rl_18 h (j := 0) (by decide) rfl
  have e9 := rl_18 h (j := 1) (by decide) rfl
  have e11 := rl_18 h (j := 3) (by decide) rfl
  have e2 : R 0 2 = w 22 3 := rl_22 h (j := 3) (by decide)
  have v1 := VL.put h s (k := 18) (j := 0) (r := 0) (p := 8) (x := w 18 0 + a) rfl rfl (inL18 (by decide)) (Or.inl (by decide))
  have s1 := s.wk (k := 18) (j := 0) (Or.inl (by decide)) (w 18 0 + a)
  have v2 := VL.put v1 s1 (k := 18) (j := 1) (r := 0) (p := 9) (x := w 18 1 + b) rfl rfl (inL18 (by decide)) (Or.inl (by decide))
  have s2 := s1.wk (k := 18) (j := 1) (Or.inl (by decide)) (w 18 1 + b)
  have v3 := VL.put v2 s2 (k := 18) (j := 3) (r := 0) (p := 11) (x := w 18 3 + c) rfl rfl (inL18 (by decide)) (Or.inl (by decide))
  have s3 := s2.wk (k := 18) (j := 3) (Or.inl (by decide)) (w 18 3 + c)
  have v4 := VL.put v3 s3 (k := 22) (j := 3) (r := 0) (p := 2) (x := w 22 3 + 1) rfl rfl (inL22 (by decide)) (Or.inr (by decide))
  refine ⟨_, ?_, v4, (((o.wn _ (Or.inr (by decide))).wn _ (Or.inr (by decide))).wn _ (Or.inr (by decide))).wn _ (Or.inr (by decide))⟩
  have wl : ∀ (Q : VS) (i : Nat) (x : Int32), i < 2 ^ 31 → wr Q 0 (nI i) x = wn Q 0 i x := fun Q i x hi => pu_wr hi
  rw [f_L_hour_399, if_pos (by decide)]
  rw [show inb (8 : Int32) 20 = true by decide, show inb (9 : Int32) 20 = true by decide, show inb (11 : Int32) 20 = true by decide, show inb (2 : Int32) 20 = true by decide]
  rw [pu_bnd, pu_bnd, pu_let, pu_bnd, pu_bnd, pu_let, pu_bnd, pu_bnd, pu_let, pu_bnd, pu_bnd, pu_let]
  rw [show rd R 0 (8 : Int32) = w 18 0 from (rd_lit R 0 (i := 8) (by decide)).trans e8, show ∀ x, wr R 0 (8 : Int32) x = wn R 0 8 x from fun x => wl R 8 x (by decide)]
  rw [show rd (wn R 0 8 (w 18 0 + a)) 0 (9 : Int32) = w 18 1 from (rd_lit _ 0 (i := 9) (by decide)).trans ((pu_wn_j _ _ _ _ (by decide)).trans e9), show ∀ Q x, wr Q 0 (9 : Int32) x = wn Q 0 9 x from fun Q x => wl Q 9 x (by decide)]
  rw [show rd (wn (wn R 0 8 (w 18 0 + a)) 0 9 (w 18 1 + b)) 0 (11 : Int32) = w 18 3 from (rd_lit _ 0 (i := 11) (by decide)).trans ((pu_wn_j _ _ _ _ (by decide)).trans ((pu_wn_j _ _ _ _ (by decide)).trans e11)), show ∀ Q x, wr Q 0 (11 : Int32) x = wn Q 0 11 x from fun Q x => wl Q 11 x (by decide)]
  rw [show rd (wn (wn (wn R 0 8 (w 18 0 + a)) 0 9 (w 18 1 + b)) 0 11 (w 18 3 + c)) 0 (2 : Int32) = w 22 3 from (rd_lit _ 0 (i := 2) (by decide)).trans ((pu_wn_j _ _ _ _ (by decide)).trans ((pu_wn_j _ _ _ _ (by decide)).trans ((pu_wn_j _ _ _ _ (by decide)).trans e2))), show ∀ Q x, wr Q 0 (2 : Int32) x = wn Q 0 2 x from fun Q x => wl Q 2 x (by decide)]
/-- the batteries give -/
theorem sl_give1 {w R : VS} (h : VL w R) (s : SM w) {m : Nat} (o : OffR m R) {b : Nat} (hb : b < 2) (x5 x9 c : Int32) (hc : ¬ x9 ≤ x5) (n : Nat) : ∃ R', f_L_hour_399 x5 x9 (n + 1) c (nI b) R = f_L_hour_399 x5 x9 n (c + jmin (-c) (cgv w b)) (nI (b + 1)) R' ∧ VL (wn w 16 b (w 16 b - jmin (-c) (cgv w b))) R' ∧ OffR m R' := by
  have v1 := VL.put h s (k := 16) (j := b) (r := 4) (p := 4 * b + 3) (x := w 16 b - jmin (-c) (cgv w b)) rfl rfl (inL16 hb) (Or.inl (by decide))
  refine ⟨_, ?_, v1, o.wn _ (Or.inl (by decide))⟩
  have e3 : R 4 (4 * b + 3) = w 16 b := rl_b h (k := 3) (by decide) hb rfl
  have k442 : ∀ p, f_L_hour_442 (f_L_hour_399 x5 x9 n) R x5 x9 c (nI b) (nI (4 * b)) p = f_L_hour_399 x5 x9 n (c + p) (nI (b + 1)) (wn R 4 (4 * b + 3) (w 16 b - p)) := fun p => by
    unfold f_L_hour_442 f_L_hour_570
    rw [show nI (4 * b) + (3 : Int32) = nI (4 * b + 3) from nI_add _ 3, pu_inb (by omega) (by decide), pu_bnd, pu_bnd, pu_let, pu_let, pu_let, nI_1, pu_rd (by omega), pu_wr (by omega), e3]
  rw [f_L_hour_399, if_neg (show ¬ (2 : Int32) ≤ nI b from nI_ge (b := 2) hb (by decide)), pu_let, if_neg hc, sl_give h hb, pu_some, pu_some, show (4 : Int32) * nI b = nI (4 * b) from pk_mul 4 b, k442, k442, jmin_le]
  by_cases hx : -c ≤ cgv w b
  · rw [if_pos hx, if_pos hx]
  · rw [if_neg hx, if_neg hx]
/-- the batteries take -/
theorem sl_468 {w R : VS} (h : VL w R) (gb : GB w) {b : Nat} (hb : b < 2) (K : Int32 → Int32 → VS → Option VS) (x5 x9 : Int32) {x : Nat} (hx : x < 2 ^ 20) : ∀ (d i n : Nat), i + d = tkN w b x → d < n → f_L_hour_468 K R x5 x9 (nI x) (nI b) (nI (4 * b)) n (nI i) = f_L_hour_520 K R x5 x9 (nI x) (nI b) (nI (4 * b)) (nI (tkN w b x)) := by
  obtain ⟨c, r, e, q, h1, h2, h3, h4, h5, e1, e2, e3, e4⟩ := gb b hb
  have hN : tkN w b x = min (((c - q) * 100 + 99) / e) (min r x) := by
    unfold tkN
    rw [e1, e2, e3, e4, nI_clamp (by omega), nI_clamp (by omega), nI_clamp (by omega), nI_clamp (by omega)]
  have l0 := rl_b h (k := 0) (by decide) hb rfl
  have l1 := rl_b h (k := 1) (by decide) hb rfl
  have l2 := rl_b h (k := 2) (by decide) hb rfl
  have l3 := rl_b h (k := 3) (by decide) hb rfl
  rw [e1] at l0
  rw [e2] at l1
  rw [e3] at l2
  rw [e4] at l3
  have step : ∀ i n, i ≤ 100 → f_L_hour_468 K R x5 x9 (nI x) (nI b) (nI (4 * b)) (n + 1) (nI i) = if x ≤ i ∨ r ≤ i ∨ ¬ q + (i + 1) * e / 100 ≤ c then f_L_hour_520 K R x5 x9 (nI x) (nI b) (nI (4 * b)) (nI i) else f_L_hour_468 K R x5 x9 (nI x) (nI b) (nI (4 * b)) n (nI (i + 1)) := fun i n hi => by
    have hm : (i + 1) * e ≤ 101 * 100 := Nat.mul_le_mul (by omega) h4
    have hdv : (i + 1) * e / 100 ≤ 101 := by omega
    rw [f_L_hour_468, show nI (4 * b) + (1 : Int32) = nI (4 * b + 1) from nI_add _ 1, show nI (4 * b) + (2 : Int32) = nI (4 * b + 2) from nI_add _ 2, show nI (4 * b) + (3 : Int32) = nI (4 * b + 3) from nI_add _ 3, pu_inb (by omega) (by decide), pu_inb (by omega) (by decide), pu_inb (by omega) (by decide), pu_inb (by omega) (by decide), pu_bnd, pu_bnd, pu_bnd, pu_bnd, pu_rd (by omega), pu_rd (by omega), pu_rd (by omega), pu_rd (by omega), l1, l2, l3, show R 4 (4 * b) = nI c from l0, pu_let, nI_1, pk_mul, show (100 : Int32) = nI 100 from rfl, pk_div (by omega) (by omega) (by omega), nI_add]
    by_cases c1 : x ≤ i
    · rw [if_pos (by rw [nI_leI (by omega) (by omega)]; exact c1), if_pos (Or.inl c1)]
    · rw [if_neg (by rw [nI_leI (by omega) (by omega)]; exact c1)]
      by_cases c2 : r ≤ i
      · rw [if_pos (by rw [nI_leI (by omega) (by omega)]; exact c2), if_pos (Or.inr (Or.inl c2))]
      · rw [if_neg (by rw [nI_leI (by omega) (by omega)]; exact c2)]
        by_cases c3 : q + (i + 1) * e / 100 ≤ c
        · rw [if_neg (by rw [nI_ltI (by omega) (by omega)]; omega), if_neg (fun z => z.elim c1 (fun z => z.elim c2 (fun z => z c3)))]
        · rw [if_pos (by rw [nI_ltI (by omega) (by omega)]; omega), if_pos (Or.inr (Or.inr c3))]
  intro d
  induction d with
  | zero =>
    intro i n hi hn
    obtain ⟨n, rfl⟩ : ∃ m, n = m + 1 := ⟨n - 1, by omega⟩
    have hi' : i = tkN w b x := by omega
    rw [step i n (by omega), if_pos ?_, hi']
    rw [div_fit h5 (by omega)]
    omega
  | succ d ih =>
    intro i n hi hn
    obtain ⟨n, rfl⟩ : ∃ m, n = m + 1 := ⟨n - 1, by omega⟩
    rw [step i n (by omega), if_neg ?_]
    · exact ih (i + 1) n (by omega) (by omega)
    · rw [div_fit h5 (by omega)]
      omega
theorem sl_take1 {w R : VS} (h : VL w R) (s : SM w) (gb : GB w) {m : Nat} (o : OffR m R) {b : Nat} (hb : b < 2) (x5 x9 : Int32) (hc : x9 ≤ x5) {x : Nat} (hx : x < 2 ^ 20) (n : Nat) : ∃ R', f_L_hour_399 x5 x9 (n + 1) (nI x) (nI b) R = f_L_hour_399 x5 x9 n (nI x - tk0 w b (nI x)) (nI (b + 1)) R' ∧ VL (stP w b (nI x)) R' ∧ OffR m R' := by
  obtain ⟨et, ht1, ht2⟩ := tk0_nat gb hb (x := x) (by omega)
  have e3 : R 4 (4 * b + 3) = w 16 b := rl_b h (k := 3) (by decide) hb rfl
  have e2 : R 4 (4 * b + 2) = w 15 b := rl_b h (k := 2) (by decide) hb rfl
  have v1 := VL.put h s (k := 16) (j := b) (r := 4) (p := 4 * b + 3) (x := w 16 b + tk0 w b (nI x) * w 15 b / 100) rfl rfl (inL16 hb) (Or.inl (by decide))
  have s1 := s.wk (k := 16) (j := b) (Or.inl (by decide)) (w 16 b + tk0 w b (nI x) * w 15 b / 100)
  have e2' : (wn R 4 (4 * b + 3) (w 16 b + tk0 w b (nI x) * w 15 b / 100)) 4 (4 * b + 2) = w 15 b := (rl_b v1 (k := 2) (by decide) hb rfl).trans (pu_wn_k _ _ _ _ (by decide))
  have e10 : (wn R 4 (4 * b + 3) (w 16 b + tk0 w b (nI x) * w 15 b / 100)) 0 10 = w 18 2 := (rl_18 v1 (j := 2) (by decide) rfl).trans (pu_wn_k _ _ _ _ (by decide))
  have v2 := VL.put v1 s1 (k := 18) (j := 2) (r := 0) (p := 10) (x := w 18 2 + (tk0 w b (nI x) - tk0 w b (nI x) * w 15 b / 100)) rfl rfl (inL18 (by decide)) (Or.inl (by decide))
  have k520 : f_L_hour_520 (f_L_hour_399 x5 x9 n) R x5 x9 (nI x) (nI b) (nI (4 * b)) (tk0 w b (nI x)) = f_L_hour_399 x5 x9 n (nI x - tk0 w b (nI x)) (nI (b + 1)) (wn (wn R 4 (4 * b + 3) (w 16 b + tk0 w b (nI x) * w 15 b / 100)) 0 10 (w 18 2 + (tk0 w b (nI x) - tk0 w b (nI x) * w 15 b / 100))) := by
    unfold f_L_hour_520 f_L_hour_570
    rw [pu_let, show nI (4 * b) + (2 : Int32) = nI (4 * b + 2) from nI_add _ 2, show nI (4 * b) + (3 : Int32) = nI (4 * b + 3) from nI_add _ 3, pu_inb (by omega) (by decide), pu_inb (by omega) (by decide), show inb (10 : Int32) 20 = true by decide, pu_bnd, pu_bnd, pu_bnd, pu_let, pu_bnd, pu_bnd, pu_bnd, pu_let, pu_let, nI_1, pu_rd (by omega), pu_rd (by omega), pu_wr (i := 4 * b + 3) (by omega), e3, e2, pu_rd (by omega), e2', show rd (wn R 4 (4 * b + 3) (w 16 b + tk0 w b (nI x) * w 15 b / 100)) 0 (10 : Int32) = w 18 2 from (rd_lit _ 0 (i := 10) (by decide)).trans e10, show ∀ Q y, wr Q 0 (10 : Int32) y = wn Q 0 10 y from fun Q y => pu_wr (i := 10) (by decide)]
  refine ⟨_, ?_, v2, (o.wn _ (Or.inl (by decide))).wn _ (Or.inr (by decide))⟩
  rw [← k520, f_L_hour_399, if_neg (show ¬ (2 : Int32) ≤ nI b from nI_ge (b := 2) hb (by decide)), pu_let, if_pos hc, show (4 : Int32) * nI b = nI (4 * b) from pk_mul 4 b, show (0 : Int32) = nI 0 from rfl, sl_468 h gb hb _ x5 x9 hx (tkN w b x) 0 fuel (by omega) (fuel_gt (by omega)), et]
