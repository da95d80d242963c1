abbrev rmX1_init : Room := { frames := 3, cells := 209, slots := 1928, locals := 61 }
set_option maxHeartbeats 4000000 in
set_option maxRecDepth 100000 in
theorem nk_X1_init {X : JX va_W} {h0 : Nat} (h : OKc X RX1 cX1_init rmX1_init) (hnL : X.nL = 2) (hX : EXc X cX1_init rmX1_init ((PostHi X.cI X.cV) h0)) : J (XA X 0 0) 0 [(0, .ref h0)] [] [(h0, .inr (1, [.int 0, .null]))] := by
  refine j_aload_n (h.ok (k := 0) (n := 0) (by decide) (by decide)) 0 rfl rfl dX1_init_0 ?_
  refine jc_obj h (by decide) (by decide) q1_166 ⟨Nat.le_of_ble_eq_true rfl, Nat.le_of_ble_eq_true rfl⟩ dX1_init_1 ?_
  refine j_aload_n (h.ok (k := 0) (n := 0) (by decide) (by decide)) 0 rfl rfl dX1_init_4 ?_
  refine j_bipush (h.ok (k := 0) (n := 0) (by decide) (by decide)) (v := 8) (by decide) dX1_init_5 ?_
  refine jc_newq h 8 (by decide) (by decide) (by decide) (by decide) (by decide) q1_167 dX1_init_7 (fun q1 => ?_)
  refine jc_eq (ws' := (h0, .inr (1, [.int 0, .null])) :: ((q1, .inl (X.cV, 8, .inr (.inr (.inr (.inr (fun _ => none)))))) :: [])) (by first | rfl | (simp only [List.append_assoc, List.cons_append, List.nil_append, List.append_nil]; done) | (simp only [List.append_assoc, List.cons_append, List.nil_append, List.append_nil]; rfl)) ?_
  refine jc_putF h (by decide) (by decide) inX1 tyX1_ok nmX1 rfl 1 (by decide) rfl rfl q1_172 rfl rfl rfl (Nat.le_of_ble_eq_true rfl) [.int 0, .ref q1] rfl dX1_init_10 ?_
  refine j_iconst (h.ok (k := 1) (n := 8) (by decide) (by decide)) (v := 0) (by decide) dX1_init_13 ?_
  refine j_istore_n (h.ok (k := 1) (n := 8) (by decide) (by decide)) hnL [(1, .int 0), (0, .ref h0)] rfl (by decide) rfl dX1_init_14 ?_
  refine j_iload_n (h.ok (k := 1) (n := 8) (by decide) (by decide)) 0 rfl rfl dX1_init_15 ?_
  refine j_bipush (h.ok (k := 1) (n := 8) (by decide) (by decide)) (v := 8) (by decide) dX1_init_16 ?_
  refine j_icmp_ge (ρ := Bool) (fa := some true) (fb := some false) (res := false) (h.ok (k := 1) (n := 8) (by decide) (by decide)) 40 (by decide) dX1_init_18 (by decide) (fun hF => absurd hF (by decide)) (fun _ => ?_)
  refine j_aload_n (h.ok (k := 1) (n := 8) (by decide) (by decide)) 1 rfl rfl dX1_init_21 ?_
  refine jc_get h (by decide) (by decide) inX1 rfl 1 (by decide) rfl q1_172 rfl dX1_init_22 ?_
  refine j_iload_n (h.ok (k := 1) (n := 8) (by decide) (by decide)) 0 rfl rfl dX1_init_25 ?_
  refine jc_ctor h.w (ix2 := 17) (n_X5_init X.l X.D X.cI X.cZ X.cV) inX5 tyX5_ok rfl (by intro j hj; have hh := hj; rcases (show j = 0 ∨ j = 1 ∨ j = 2 ∨ j = 3 ∨ j = 4 ∨ j = 5 ∨ j = 6 ∨ j = 7 ∨ j = 8 ∨ j = 9 ∨ j = 10 by omega) with rfl | rfl | rfl | rfl | rfl | rfl | rfl | rfl | rfl | rfl | rfl <;> rfl) q1_167 q1_19 q1_2 (Or.inl q1_169) q1_21 q1_22 q1_2 rfl (by decide +kernel) 27 248 rfl rfl (by decide) (by decide) ⟨Nat.le_of_ble_eq_true rfl, Nat.le_of_ble_eq_true rfl⟩ (Nat.le_of_ble_eq_true rfl) dX1_init_26 dX1_init_29 dX1_init_30 (fun q2 w2 pw2 => ?_)
  obtain ⟨adw2, rfl, ew2⟩ := pw2
  refine jc_eq (ws' := (h0, .inr (1, [.int 0, .ref q1])) :: ((q1, .inl (X.cV, 8, .inr (.inr (.inr (.inr (fun _ => none)))))) :: (w2 ++ []))) (by first | rfl | (simp only [List.append_assoc, List.cons_append, List.nil_append, List.append_nil]; done) | (simp only [List.append_assoc, List.cons_append, List.nil_append, List.append_nil]; rfl)) ?_
  have hvw2 := vill_head (cI := X.cI) ((h0, .inr (1, [.int 0, .ref q1])) :: ((q1, .inl (X.cV, 8, .inr (.inr (.inr (.inr (fun _ => none)))))) :: [])) adw2
  rw [← ew2] at hvw2
  refine jc_aast h ((h0, .inr (1, [.int 0, .ref q1])) :: ([])) (w2 ++ []) (by first | rfl | (simp only [List.append_assoc, List.cons_append, List.nil_append, List.append_nil]; done) | (simp only [List.append_assoc, List.cons_append, List.nil_append, List.append_nil]; rfl)) (by decide) 0 (by decide) (by simpa only [List.append_assoc, List.cons_append, List.nil_append, List.append_nil] using hvw2) dX1_init_33 ?_
  refine jc_eq (ws' := (h0, .inr (1, [.int 0, .ref q1])) :: ((q1, .inl (X.cV, 8, .inr (.inr (.inr (.inr (va_up (fun _ => none) 0 (some (adw2 22)))))))) :: (w2 ++ []))) (by first | rfl | (simp only [List.append_assoc, List.cons_append, List.nil_append, List.append_nil]; done) | (simp only [List.append_assoc, List.cons_append, List.nil_append, List.append_nil]; rfl)) ?_
  refine j_iinc (h.ok (k := 27) (n := 248) (by decide) (by decide)) hnL 0 (v := 1) (y := 1) [(1, .int 1), (0, .ref h0)] rfl (by decide) (by decide) (by decide) rfl dX1_init_34 ?_
  refine j_goto (h.ok (k := 27) (n := 248) (by decide) (by decide)) 15 (by decide) dX1_init_37 ?_
  refine j_iload_n (h.ok (k := 27) (n := 248) (by decide) (by decide)) 0 rfl rfl dX1_init_15 ?_
  refine j_bipush (h.ok (k := 27) (n := 248) (by decide) (by decide)) (v := 8) (by decide) dX1_init_16 ?_
  refine j_icmp_ge (ρ := Bool) (fa := some true) (fb := some false) (res := false) (h.ok (k := 27) (n := 248) (by decide) (by decide)) 40 (by decide) dX1_init_18 (by decide) (fun hF => absurd hF (by decide)) (fun _ => ?_)
  refine j_aload_n (h.ok (k := 27) (n := 248) (by decide) (by decide)) 1 rfl rfl dX1_init_21 ?_
  refine jc_get h (by decide) (by decide) inX1 rfl 1 (by decide) rfl q1_172 rfl dX1_init_22 ?_
  refine j_iload_n (h.ok (k := 27) (n := 248) (by decide) (by decide)) 0 rfl rfl dX1_init_25 ?_
  refine jc_ctor h.w (ix2 := 17) (n_X5_init X.l X.D X.cI X.cZ X.cV) inX5 tyX5_ok rfl (by intro j hj; have hh := hj; rcases (show j = 0 ∨ j = 1 ∨ j = 2 ∨ j = 3 ∨ j = 4 ∨ j = 5 ∨ j = 6 ∨ j = 7 ∨ j = 8 ∨ j = 9 ∨ j = 10 by omega) with rfl | rfl | rfl | rfl | rfl | rfl | rfl | rfl | rfl | rfl | rfl <;> rfl) q1_167 q1_19 q1_2 (Or.inl q1_169) q1_21 q1_22 q1_2 rfl (by decide +kernel) 53 488 rfl rfl (by decide) (by decide) ⟨Nat.le_of_ble_eq_true rfl, Nat.le_of_ble_eq_true rfl⟩ (Nat.le_of_ble_eq_true rfl) dX1_init_26 dX1_init_29 dX1_init_30 (fun q3 w3 pw3 => ?_)
  obtain ⟨adw3, rfl, ew3⟩ := pw3
  refine jc_eq (ws' := (h0, .inr (1, [.int 0, .ref q1])) :: ((q1, .inl (X.cV, 8, .inr (.inr (.inr (.inr (va_up (fun _ => none) 0 (some (adw2 22)))))))) :: (w2 ++ (w3 ++ [])))) (by first | rfl | (simp only [List.append_assoc, List.cons_append, List.nil_append, List.append_nil]; done) | (simp only [List.append_assoc, List.cons_append, List.nil_append, List.append_nil]; rfl)) ?_
  have hvw3 := vill_head (cI := X.cI) ((h0, .inr (1, [.int 0, .ref q1])) :: ((q1, .inl (X.cV, 8, .inr (.inr (.inr (.inr (va_up (fun _ => none) 0 (some (adw2 22)))))))) :: (w2 ++ []))) adw3
  rw [← ew3] at hvw3
  refine jc_aast h ((h0, .inr (1, [.int 0, .ref q1])) :: ([])) (w2 ++ (w3 ++ [])) (by first | rfl | (simp only [List.append_assoc, List.cons_append, List.nil_append, List.append_nil]; done) | (simp only [List.append_assoc, List.cons_append, List.nil_append, List.append_nil]; rfl)) (by decide) 1 (by decide) (by simpa only [List.append_assoc, List.cons_append, List.nil_append, List.append_nil] using hvw3) dX1_init_33 ?_
  refine jc_eq (ws' := (h0, .inr (1, [.int 0, .ref q1])) :: ((q1, .inl (X.cV, 8, .inr (.inr (.inr (.inr (va_up (va_up (fun _ => none) 0 (some (adw2 22))) 1 (some (adw3 22)))))))) :: (w2 ++ (w3 ++ [])))) (by first | rfl | (simp only [List.append_assoc, List.cons_append, List.nil_append, List.append_nil]; done) | (simp only [List.append_assoc, List.cons_append, List.nil_append, List.append_nil]; rfl)) ?_
  refine j_iinc (h.ok (k := 53) (n := 488) (by decide) (by decide)) hnL 0 (v := 2) (y := 1) [(1, .int 2), (0, .ref h0)] rfl (by decide) (by decide) (by decide) rfl dX1_init_34 ?_
  refine j_goto (h.ok (k := 53) (n := 488) (by decide) (by decide)) 15 (by decide) dX1_init_37 ?_
  refine j_iload_n (h.ok (k := 53) (n := 488) (by decide) (by decide)) 0 rfl rfl dX1_init_15 ?_
  refine j_bipush (h.ok (k := 53) (n := 488) (by decide) (by decide)) (v := 8) (by decide) dX1_init_16 ?_
  refine j_icmp_ge (ρ := Bool) (fa := some true) (fb := some false) (res := false) (h.ok (k := 53) (n := 488) (by decide) (by decide)) 40 (by decide) dX1_init_18 (by decide) (fun hF => absurd hF (by decide)) (fun _ => ?_)
  refine j_aload_n (h.ok (k := 53) (n := 488) (by decide) (by decide)) 1 rfl rfl dX1_init_21 ?_
  refine jc_get h (by decide) (by decide) inX1 rfl 1 (by decide) rfl q1_172 rfl dX1_init_22 ?_
  refine j_iload_n (h.ok (k := 53) (n := 488) (by decide) (by decide)) 0 rfl rfl dX1_init_25 ?_
  refine jc_ctor h.w (ix2 := 17) (n_X5_init X.l X.D X.cI X.cZ X.cV) inX5 tyX5_ok rfl (by intro j hj; have hh := hj; rcases (show j = 0 ∨ j = 1 ∨ j = 2 ∨ j = 3 ∨ j = 4 ∨ j = 5 ∨ j = 6 ∨ j = 7 ∨ j = 8 ∨ j = 9 ∨ j = 10 by omega) with rfl | rfl | rfl | rfl | rfl | rfl | rfl | rfl | rfl | rfl | rfl <;> rfl) q1_167 q1_19 q1_2 (Or.inl q1_169) q1_21 q1_22 q1_2 rfl (by decide +kernel) 79 728 rfl rfl (by decide) (by decide) ⟨Nat.le_of_ble_eq_true rfl, Nat.le_of_ble_eq_true rfl⟩ (Nat.le_of_ble_eq_true rfl) dX1_init_26 dX1_init_29 dX1_init_30 (fun q4 w4 pw4 => ?_)
  obtain ⟨adw4, rfl, ew4⟩ := pw4
  refine jc_eq (ws' := (h0, .inr (1, [.int 0, .ref q1])) :: ((q1, .inl (X.cV, 8, .inr (.inr (.inr (.inr (va_up (va_up (fun _ => none) 0 (some (adw2 22))) 1 (some (adw3 22)))))))) :: (w2 ++ (w3 ++ (w4 ++ []))))) (by first | rfl | (simp only [List.append_assoc, List.cons_append, List.nil_append, List.append_nil]; done) | (simp only [List.append_assoc, List.cons_append, List.nil_append, List.append_nil]; rfl)) ?_
  have hvw4 := vill_head (cI := X.cI) ((h0, .inr (1, [.int 0, .ref q1])) :: ((q1, .inl (X.cV, 8, .inr (.inr (.inr (.inr (va_up (va_up (fun _ => none) 0 (some (adw2 22))) 1 (some (adw3 22)))))))) :: (w2 ++ (w3 ++ [])))) adw4
  rw [← ew4] at hvw4
  refine jc_aast h ((h0, .inr (1, [.int 0, .ref q1])) :: ([])) (w2 ++ (w3 ++ (w4 ++ []))) (by first | rfl | (simp only [List.append_assoc, List.cons_append, List.nil_append, List.append_nil]; done) | (simp only [List.append_assoc, List.cons_append, List.nil_append, List.append_nil]; rfl)) (by decide) 2 (by decide) (by simpa only [List.append_assoc, List.cons_append, List.nil_append, List.append_nil] using hvw4) dX1_init_33 ?_
  refine jc_eq (ws' := (h0, .inr (1, [.int 0, .ref q1])) :: ((q1, .inl (X.cV, 8, .inr (.inr (.inr (.inr (va_up (va_up (va_up (fun _ => none) 0 (some (adw2 22))) 1 (some (adw3 22))) 2 (some (adw4 22)))))))) :: (w2 ++ (w3 ++ (w4 ++ []))))) (by first | rfl | (simp only [List.append_assoc, List.cons_append, List.nil_append, List.append_nil]; done) | (simp only [List.append_assoc, List.cons_append, List.nil_append, List.append_nil]; rfl)) ?_
  refine j_iinc (h.ok (k := 79) (n := 728) (by decide) (by decide)) hnL 0 (v := 3) (y := 1) [(1, .int 3), (0, .ref h0)] rfl (by decide) (by decide) (by decide) rfl dX1_init_34 ?_
  refine j_goto (h.ok (k := 79) (n := 728) (by decide) (by decide)) 15 (by decide) dX1_init_37 ?_
  refine j_iload_n (h.ok (k := 79) (n := 728) (by decide) (by decide)) 0 rfl rfl dX1_init_15 ?_
  refine j_bipush (h.ok (k := 79) (n := 728) (by decide) (by decide)) (v := 8) (by decide) dX1_init_16 ?_
  refine j_icmp_ge (ρ := Bool) (fa := some true) (fb := some false) (res := false) (h.ok (k := 79) (n := 728) (by decide) (by decide)) 40 (by decide) dX1_init_18 (by decide) (fun hF => absurd hF (by decide)) (fun _ => ?_)
  refine j_aload_n (h.ok (k := 79) (n := 728) (by decide) (by decide)) 1 rfl rfl dX1_init_21 ?_
  refine jc_get h (by decide) (by decide) inX1 rfl 1 (by decide) rfl q1_172 rfl dX1_init_22 ?_
  refine j_iload_n (h.ok (k := 79) (n := 728) (by decide) (by decide)) 0 rfl rfl dX1_init_25 ?_
  refine jc_ctor h.w (ix2 := 17) (n_X5_init X.l X.D X.cI X.cZ X.cV) inX5 tyX5_ok rfl (by intro j hj; have hh := hj; rcases (show j = 0 ∨ j = 1 ∨ j = 2 ∨ j = 3 ∨ j = 4 ∨ j = 5 ∨ j = 6 ∨ j = 7 ∨ j = 8 ∨ j = 9 ∨ j = 10 by omega) with rfl | rfl | rfl | rfl | rfl | rfl | rfl | rfl | rfl | rfl | rfl <;> rfl) q1_167 q1_19 q1_2 (Or.inl q1_169) q1_21 q1_22 q1_2 rfl (by decide +kernel) 105 968 rfl rfl (by decide) (by decide) ⟨Nat.le_of_ble_eq_true rfl, Nat.le_of_ble_eq_true rfl⟩ (Nat.le_of_ble_eq_true rfl) dX1_init_26 dX1_init_29 dX1_init_30 (fun q5 w5 pw5 => ?_)
  obtain ⟨adw5, rfl, ew5⟩ := pw5
  refine jc_eq (ws' := (h0, .inr (1, [.int 0, .ref q1])) :: ((q1, .inl (X.cV, 8, .inr (.inr (.inr (.inr (va_up (va_up (va_up (fun _ => none) 0 (some (adw2 22))) 1 (some (adw3 22))) 2 (some (adw4 22)))))))) :: (w2 ++ (w3 ++ (w4 ++ (w5 ++ [])))))) (by first | rfl | (simp only [List.append_assoc, List.cons_append, List.nil_append, List.append_nil]; done) | (simp only [List.append_assoc, List.cons_append, List.nil_append, List.append_nil]; rfl)) ?_
  have hvw5 := vill_head (cI := X.cI) ((h0, .inr (1, [.int 0, .ref q1])) :: ((q1, .inl (X.cV, 8, .inr (.inr (.inr (.inr (va_up (va_up (va_up (fun _ => none) 0 (some (adw2 22))) 1 (some (adw3 22))) 2 (some (adw4 22)))))))) :: (w2 ++ (w3 ++ (w4 ++ []))))) adw5
  rw [← ew5] at hvw5
  refine jc_aast h ((h0, .inr (1, [.int 0, .ref q1])) :: ([])) (w2 ++ (w3 ++ (w4 ++ (w5 ++ [])))) (by first | rfl | (simp only [List.append_assoc, List.cons_append, List.nil_append, List.append_nil]; done) | (simp only [List.append_assoc, List.cons_append, List.nil_append, List.append_nil]; rfl)) (by decide) 3 (by decide) (by simpa only [List.append_assoc, List.cons_append, List.nil_append, List.append_nil] using hvw5) dX1_init_33 ?_
  refine jc_eq (ws' := (h0, .inr (1, [.int 0, .ref q1])) :: ((q1, .inl (X.cV, 8, .inr (.inr (.inr (.inr (va_up (va_up (va_up (va_up (fun _ => none) 0 (some (adw2 22))) 1 (some (adw3 22))) 2 (some (adw4 22))) 3 (some (adw5 22)))))))) :: (w2 ++ (w3 ++ (w4 ++ (w5 ++ [])))))) (by first | rfl | (simp only [List.append_assoc, List.cons_append, List.nil_append, List.append_nil]; done) | (simp only [List.append_assoc, List.cons_append, List.nil_append, List.append_nil]; rfl)) ?_
  refine j_iinc (h.ok (k := 105) (n := 968) (by decide) (by decide)) hnL 0 (v := 4) (y := 1) [(1, .int 4), (0, .ref h0)] rfl (by decide) (by decide) (by decide) rfl dX1_init_34 ?_
  refine j_goto (h.ok (k := 105) (n := 968) (by decide) (by decide)) 15 (by decide) dX1_init_37 ?_
  refine j_iload_n (h.ok (k := 105) (n := 968) (by decide) (by decide)) 0 rfl rfl dX1_init_15 ?_
  refine j_bipush (h.ok (k := 105) (n := 968) (by decide) (by decide)) (v := 8) (by decide) dX1_init_16 ?_
  refine j_icmp_ge (ρ := Bool) (fa := some true) (fb := some false) (res := false) (h.ok (k := 105) (n := 968) (by decide) (by decide)) 40 (by decide) dX1_init_18 (by decide) (fun hF => absurd hF (by decide)) (fun _ => ?_)
  refine j_aload_n (h.ok (k := 105) (n := 968) (by decide) (by decide)) 1 rfl rfl dX1_init_21 ?_
  refine jc_get h (by decide) (by decide) inX1 rfl 1 (by decide) rfl q1_172 rfl dX1_init_22 ?_
  refine j_iload_n (h.ok (k := 105) (n := 968) (by decide) (by decide)) 0 rfl rfl dX1_init_25 ?_
  refine jc_ctor h.w (ix2 := 17) (n_X5_init X.l X.D X.cI X.cZ X.cV) inX5 tyX5_ok rfl (by intro j hj; have hh := hj; rcases (show j = 0 ∨ j = 1 ∨ j = 2 ∨ j = 3 ∨ j = 4 ∨ j = 5 ∨ j = 6 ∨ j = 7 ∨ j = 8 ∨ j = 9 ∨ j = 10 by omega) with rfl | rfl | rfl | rfl | rfl | rfl | rfl | rfl | rfl | rfl | rfl <;> rfl) q1_167 q1_19 q1_2 (Or.inl q1_169) q1_21 q1_22 q1_2 rfl (by decide +kernel) 131 1208 rfl rfl (by decide) (by decide) ⟨Nat.le_of_ble_eq_true rfl, Nat.le_of_ble_eq_true rfl⟩ (Nat.le_of_ble_eq_true rfl) dX1_init_26 dX1_init_29 dX1_init_30 (fun q6 w6 pw6 => ?_)
  obtain ⟨adw6, rfl, ew6⟩ := pw6
  refine jc_eq (ws' := (h0, .inr (1, [.int 0, .ref q1])) :: ((q1, .inl (X.cV, 8, .inr (.inr (.inr (.inr (va_up (va_up (va_up (va_up (fun _ => none) 0 (some (adw2 22))) 1 (some (adw3 22))) 2 (some (adw4 22))) 3 (some (adw5 22)))))))) :: (w2 ++ (w3 ++ (w4 ++ (w5 ++ (w6 ++ []))))))) (by first | rfl | (simp only [List.append_assoc, List.cons_append, List.nil_append, List.append_nil]; done) | (simp only [List.append_assoc, List.cons_append, List.nil_append, List.append_nil]; rfl)) ?_
  have hvw6 := vill_head (cI := X.cI) ((h0, .inr (1, [.int 0, .ref q1])) :: ((q1, .inl (X.cV, 8, .inr (.inr (.inr (.inr (va_up (va_up (va_up (va_up (fun _ => none) 0 (some (adw2 22))) 1 (some (adw3 22))) 2 (some (adw4 22))) 3 (some (adw5 22)))))))) :: (w2 ++ (w3 ++ (w4 ++ (w5 ++ [])))))) adw6
  rw [← ew6] at hvw6
  refine jc_aast h ((h0, .inr (1, [.int 0, .ref q1])) :: ([])) (w2 ++ (w3 ++ (w4 ++ (w5 ++ (w6 ++ []))))) (by first | rfl | (simp only [List.append_assoc, List.cons_append, List.nil_append, List.append_nil]; done) | (simp only [List.append_assoc, List.cons_append, List.nil_append, List.append_nil]; rfl)) (by decide) 4 (by decide) (by simpa only [List.append_assoc, List.cons_append, List.nil_append, List.append_nil] using hvw6) dX1_init_33 ?_
  refine jc_eq (ws' := (h0, .inr (1, [.int 0, .ref q1])) :: ((q1, .inl (X.cV, 8, .inr (.inr (.inr (.inr (va_up (va_up (va_up (va_up (va_up (fun _ => none) 0 (some (adw2 22))) 1 (some (adw3 22))) 2 (some (adw4 22))) 3 (some (adw5 22))) 4 (some (adw6 22)))))))) :: (w2 ++ (w3 ++ (w4 ++ (w5 ++ (w6 ++ []))))))) (by first | rfl | (simp only [List.append_assoc, List.cons_append, List.nil_append, List.append_nil]; done) | (simp only [List.append_assoc, List.cons_append, List.nil_append, List.append_nil]; rfl)) ?_
  refine j_iinc (h.ok (k := 131) (n := 1208) (by decide) (by decide)) hnL 0 (v := 5) (y := 1) [(1, .int 5), (0, .ref h0)] rfl (by decide) (by decide) (by decide) rfl dX1_init_34 ?_
  refine j_goto (h.ok (k := 131) (n := 1208) (by decide) (by decide)) 15 (by decide) dX1_init_37 ?_
  refine j_iload_n (h.ok (k := 131) (n := 1208) (by decide) (by decide)) 0 rfl rfl dX1_init_15 ?_
  refine j_bipush (h.ok (k := 131) (n := 1208) (by decide) (by decide)) (v := 8) (by decide) dX1_init_16 ?_
  refine j_icmp_ge (ρ := Bool) (fa := some true) (fb := some false) (res := false) (h.ok (k := 131) (n := 1208) (by decide) (by decide)) 40 (by decide) dX1_init_18 (by decide) (fun hF => absurd hF (by decide)) (fun _ => ?_)
  refine j_aload_n (h.ok (k := 131) (n := 1208) (by decide) (by decide)) 1 rfl rfl dX1_init_21 ?_
  refine jc_get h (by decide) (by decide) inX1 rfl 1 (by decide) rfl q1_172 rfl dX1_init_22 ?_
  refine j_iload_n (h.ok (k := 131) (n := 1208) (by decide) (by decide)) 0 rfl rfl dX1_init_25 ?_
  refine jc_ctor h.w (ix2 := 17) (n_X5_init X.l X.D X.cI X.cZ X.cV) inX5 tyX5_ok rfl (by intro j hj; have hh := hj; rcases (show j = 0 ∨ j = 1 ∨ j = 2 ∨ j = 3 ∨ j = 4 ∨ j = 5 ∨ j = 6 ∨ j = 7 ∨ j = 8 ∨ j = 9 ∨ j = 10 by omega) with rfl | rfl | rfl | rfl | rfl | rfl | rfl | rfl | rfl | rfl | rfl <;> rfl) q1_167 q1_19 q1_2 (Or.inl q1_169) q1_21 q1_22 q1_2 rfl (by decide +kernel) 157 1448 rfl rfl (by decide) (by decide) ⟨Nat.le_of_ble_eq_true rfl, Nat.le_of_ble_eq_true rfl⟩ (Nat.le_of_ble_eq_true rfl) dX1_init_26 dX1_init_29 dX1_init_30 (fun q7 w7 pw7 => ?_)
  obtain ⟨adw7, rfl, ew7⟩ := pw7
  refine jc_eq (ws' := (h0, .inr (1, [.int 0, .ref q1])) :: ((q1, .inl (X.cV, 8, .inr (.inr (.inr (.inr (va_up (va_up (va_up (va_up (va_up (fun _ => none) 0 (some (adw2 22))) 1 (some (adw3 22))) 2 (some (adw4 22))) 3 (some (adw5 22))) 4 (some (adw6 22)))))))) :: (w2 ++ (w3 ++ (w4 ++ (w5 ++ (w6 ++ (w7 ++ [])))))))) (by first | rfl | (simp only [List.append_assoc, List.cons_append, List.nil_append, List.append_nil]; done) | (simp only [List.append_assoc, List.cons_append, List.nil_append, List.append_nil]; rfl)) ?_
  have hvw7 := vill_head (cI := X.cI) ((h0, .inr (1, [.int 0, .ref q1])) :: ((q1, .inl (X.cV, 8, .inr (.inr (.inr (.inr (va_up (va_up (va_up (va_up (va_up (fun _ => none) 0 (some (adw2 22))) 1 (some (adw3 22))) 2 (some (adw4 22))) 3 (some (adw5 22))) 4 (some (adw6 22)))))))) :: (w2 ++ (w3 ++ (w4 ++ (w5 ++ (w6 ++ []))))))) adw7
  rw [← ew7] at hvw7
  refine jc_aast h ((h0, .inr (1, [.int 0, .ref q1])) :: ([])) (w2 ++ (w3 ++ (w4 ++ (w5 ++ (w6 ++ (w7 ++ [])))))) (by first | rfl | (simp only [List.append_assoc, List.cons_append, List.nil_append, List.append_nil]; done) | (simp only [List.append_assoc, List.cons_append, List.nil_append, List.append_nil]; rfl)) (by decide) 5 (by decide) (by simpa only [List.append_assoc, List.cons_append, List.nil_append, List.append_nil] using hvw7) dX1_init_33 ?_
  refine jc_eq (ws' := (h0, .inr (1, [.int 0, .ref q1])) :: ((q1, .inl (X.cV, 8, .inr (.inr (.inr (.inr (va_up (va_up (va_up (va_up (va_up (va_up (fun _ => none) 0 (some (adw2 22))) 1 (some (adw3 22))) 2 (some (adw4 22))) 3 (some (adw5 22))) 4 (some (adw6 22))) 5 (some (adw7 22)))))))) :: (w2 ++ (w3 ++ (w4 ++ (w5 ++ (w6 ++ (w7 ++ [])))))))) (by first | rfl | (simp only [List.append_assoc, List.cons_append, List.nil_append, List.append_nil]; done) | (simp only [List.append_assoc, List.cons_append, List.nil_append, List.append_nil]; rfl)) ?_
  refine j_iinc (h.ok (k := 157) (n := 1448) (by decide) (by decide)) hnL 0 (v := 6) (y := 1) [(1, .int 6), (0, .ref h0)] rfl (by decide) (by decide) (by decide) rfl dX1_init_34 ?_
  refine j_goto (h.ok (k := 157) (n := 1448) (by decide) (by decide)) 15 (by decide) dX1_init_37 ?_
  refine j_iload_n (h.ok (k := 157) (n := 1448) (by decide) (by decide)) 0 rfl rfl dX1_init_15 ?_
  refine j_bipush (h.ok (k := 157) (n := 1448) (by decide) (by decide)) (v := 8) (by decide) dX1_init_16 ?_
  refine j_icmp_ge (ρ := Bool) (fa := some true) (fb := some false) (res := false) (h.ok (k := 157) (n := 1448) (by decide) (by decide)) 40 (by decide) dX1_init_18 (by decide) (fun hF => absurd hF (by decide)) (fun _ => ?_)
  refine j_aload_n (h.ok (k := 157) (n := 1448) (by decide) (by decide)) 1 rfl rfl dX1_init_21 ?_
  refine jc_get h (by decide) (by decide) inX1 rfl 1 (by decide) rfl q1_172 rfl dX1_init_22 ?_
  refine j_iload_n (h.ok (k := 157) (n := 1448) (by decide) (by decide)) 0 rfl rfl dX1_init_25 ?_
  refine jc_ctor h.w (ix2 := 17) (n_X5_init X.l X.D X.cI X.cZ X.cV) inX5 tyX5_ok rfl (by intro j hj; have hh := hj; rcases (show j = 0 ∨ j = 1 ∨ j = 2 ∨ j = 3 ∨ j = 4 ∨ j = 5 ∨ j = 6 ∨ j = 7 ∨ j = 8 ∨ j = 9 ∨ j = 10 by omega) with rfl | rfl | rfl | rfl | rfl | rfl | rfl | rfl | rfl | rfl | rfl <;> rfl) q1_167 q1_19 q1_2 (Or.inl q1_169) q1_21 q1_22 q1_2 rfl (by decide +kernel) 183 1688 rfl rfl (by decide) (by decide) ⟨Nat.le_of_ble_eq_true rfl, Nat.le_of_ble_eq_true rfl⟩ (Nat.le_of_ble_eq_true rfl) dX1_init_26 dX1_init_29 dX1_init_30 (fun q8 w8 pw8 => ?_)
  obtain ⟨adw8, rfl, ew8⟩ := pw8
  refine jc_eq (ws' := (h0, .inr (1, [.int 0, .ref q1])) :: ((q1, .inl (X.cV, 8, .inr (.inr (.inr (.inr (va_up (va_up (va_up (va_up (va_up (va_up (fun _ => none) 0 (some (adw2 22))) 1 (some (adw3 22))) 2 (some (adw4 22))) 3 (some (adw5 22))) 4 (some (adw6 22))) 5 (some (adw7 22)))))))) :: (w2 ++ (w3 ++ (w4 ++ (w5 ++ (w6 ++ (w7 ++ (w8 ++ []))))))))) (by first | rfl | (simp only [List.append_assoc, List.cons_append, List.nil_append, List.append_nil]; done) | (simp only [List.append_assoc, List.cons_append, List.nil_append, List.append_nil]; rfl)) ?_
  have hvw8 := vill_head (cI := X.cI) ((h0, .inr (1, [.int 0, .ref q1])) :: ((q1, .inl (X.cV, 8, .inr (.inr (.inr (.inr (va_up (va_up (va_up (va_up (va_up (va_up (fun _ => none) 0 (some (adw2 22))) 1 (some (adw3 22))) 2 (some (adw4 22))) 3 (some (adw5 22))) 4 (some (adw6 22))) 5 (some (adw7 22)))))))) :: (w2 ++ (w3 ++ (w4 ++ (w5 ++ (w6 ++ (w7 ++ [])))))))) adw8
  rw [← ew8] at hvw8
  refine jc_aast h ((h0, .inr (1, [.int 0, .ref q1])) :: ([])) (w2 ++ (w3 ++ (w4 ++ (w5 ++ (w6 ++ (w7 ++ (w8 ++ []))))))) (by first | rfl | (simp only [List.append_assoc, List.cons_append, List.nil_append, List.append_nil]; done) | (simp only [List.append_assoc, List.cons_append, List.nil_append, List.append_nil]; rfl)) (by decide) 6 (by decide) (by simpa only [List.append_assoc, List.cons_append, List.nil_append, List.append_nil] using hvw8) dX1_init_33 ?_
  refine jc_eq (ws' := (h0, .inr (1, [.int 0, .ref q1])) :: ((q1, .inl (X.cV, 8, .inr (.inr (.inr (.inr (va_up (va_up (va_up (va_up (va_up (va_up (va_up (fun _ => none) 0 (some (adw2 22))) 1 (some (adw3 22))) 2 (some (adw4 22))) 3 (some (adw5 22))) 4 (some (adw6 22))) 5 (some (adw7 22))) 6 (some (adw8 22)))))))) :: (w2 ++ (w3 ++ (w4 ++ (w5 ++ (w6 ++ (w7 ++ (w8 ++ []))))))))) (by first | rfl | (simp only [List.append_assoc, List.cons_append, List.nil_append, List.append_nil]; done) | (simp only [List.append_assoc, List.cons_append, List.nil_append, List.append_nil]; rfl)) ?_
  refine j_iinc (h.ok (k := 183) (n := 1688) (by decide) (by decide)) hnL 0 (v := 7) (y := 1) [(1, .int 7), (0, .ref h0)] rfl (by decide) (by decide) (by decide) rfl dX1_init_34 ?_
  refine j_goto (h.ok (k := 183) (n := 1688) (by decide) (by decide)) 15 (by decide) dX1_init_37 ?_
  refine j_iload_n (h.ok (k := 183) (n := 1688) (by decide) (by decide)) 0 rfl rfl dX1_init_15 ?_
  refine j_bipush (h.ok (k := 183) (n := 1688) (by decide) (by decide)) (v := 8) (by decide) dX1_init_16 ?_
  refine j_icmp_ge (ρ := Bool) (fa := some true) (fb := some false) (res := false) (h.ok (k := 183) (n := 1688) (by decide) (by decide)) 40 (by decide) dX1_init_18 (by decide) (fun hF => absurd hF (by decide)) (fun _ => ?_)
  refine j_aload_n (h.ok (k := 183) (n := 1688) (by decide) (by decide)) 1 rfl rfl dX1_init_21 ?_
  refine jc_get h (by decide) (by decide) inX1 rfl 1 (by decide) rfl q1_172 rfl dX1_init_22 ?_
  refine j_iload_n (h.ok (k := 183) (n := 1688) (by decide) (by decide)) 0 rfl rfl dX1_init_25 ?_
  refine jc_ctor h.w (ix2 := 17) (n_X5_init X.l X.D X.cI X.cZ X.cV) inX5 tyX5_ok rfl (by intro j hj; have hh := hj; rcases (show j = 0 ∨ j = 1 ∨ j = 2 ∨ j = 3 ∨ j = 4 ∨ j = 5 ∨ j = 6 ∨ j = 7 ∨ j = 8 ∨ j = 9 ∨ j = 10 by omega) with rfl | rfl | rfl | rfl | rfl | rfl | rfl | rfl | rfl | rfl | rfl <;> rfl) q1_167 q1_19 q1_2 (Or.inl q1_169) q1_21 q1_22 q1_2 rfl (by decide +kernel) 209 1928 rfl rfl (by decide) (by decide) ⟨Nat.le_of_ble_eq_true rfl, Nat.le_of_ble_eq_true rfl⟩ (Nat.le_of_ble_eq_true rfl) dX1_init_26 dX1_init_29 dX1_init_30 (fun q9 w9 pw9 => ?_)
  obtain ⟨adw9, rfl, ew9⟩ := pw9
  refine jc_eq (ws' := (h0, .inr (1, [.int 0, .ref q1])) :: ((q1, .inl (X.cV, 8, .inr (.inr (.inr (.inr (va_up (va_up (va_up (va_up (va_up (va_up (va_up (fun _ => none) 0 (some (adw2 22))) 1 (some (adw3 22))) 2 (some (adw4 22))) 3 (some (adw5 22))) 4 (some (adw6 22))) 5 (some (adw7 22))) 6 (some (adw8 22)))))))) :: (w2 ++ (w3 ++ (w4 ++ (w5 ++ (w6 ++ (w7 ++ (w8 ++ (w9 ++ [])))))))))) (by first | rfl | (simp only [List.append_assoc, List.cons_append, List.nil_append, List.append_nil]; done) | (simp only [List.append_assoc, List.cons_append, List.nil_append, List.append_nil]; rfl)) ?_
  have hvw9 := vill_head (cI := X.cI) ((h0, .inr (1, [.int 0, .ref q1])) :: ((q1, .inl (X.cV, 8, .inr (.inr (.inr (.inr (va_up (va_up (va_up (va_up (va_up (va_up (va_up (fun _ => none) 0 (some (adw2 22))) 1 (some (adw3 22))) 2 (some (adw4 22))) 3 (some (adw5 22))) 4 (some (adw6 22))) 5 (some (adw7 22))) 6 (some (adw8 22)))))))) :: (w2 ++ (w3 ++ (w4 ++ (w5 ++ (w6 ++ (w7 ++ (w8 ++ []))))))))) adw9
  rw [← ew9] at hvw9
  refine jc_aast h ((h0, .inr (1, [.int 0, .ref q1])) :: ([])) (w2 ++ (w3 ++ (w4 ++ (w5 ++ (w6 ++ (w7 ++ (w8 ++ (w9 ++ [])))))))) (by first | rfl | (simp only [List.append_assoc, List.cons_append, List.nil_append, List.append_nil]; done) | (simp only [List.append_assoc, List.cons_append, List.nil_append, List.append_nil]; rfl)) (by decide) 7 (by decide) (by simpa only [List.append_assoc, List.cons_append, List.nil_append, List.append_nil] using hvw9) dX1_init_33 ?_
  refine jc_eq (ws' := (h0, .inr (1, [.int 0, .ref q1])) :: ((q1, .inl (X.cV, 8, .inr (.inr (.inr (.inr (va_up (va_up (va_up (va_up (va_up (va_up (va_up (va_up (fun _ => none) 0 (some (adw2 22))) 1 (some (adw3 22))) 2 (some (adw4 22))) 3 (some (adw5 22))) 4 (some (adw6 22))) 5 (some (adw7 22))) 6 (some (adw8 22))) 7 (some (adw9 22)))))))) :: (w2 ++ (w3 ++ (w4 ++ (w5 ++ (w6 ++ (w7 ++ (w8 ++ (w9 ++ [])))))))))) (by first | rfl | (simp only [List.append_assoc, List.cons_append, List.nil_append, List.append_nil]; done) | (simp only [List.append_assoc, List.cons_append, List.nil_append, List.append_nil]; rfl)) ?_
  refine j_iinc (h.ok (k := 209) (n := 1928) (by decide) (by decide)) hnL 0 (v := 8) (y := 1) [(1, .int 8), (0, .ref h0)] rfl (by decide) (by decide) (by decide) rfl dX1_init_34 ?_
  refine j_goto (h.ok (k := 209) (n := 1928) (by decide) (by decide)) 15 (by decide) dX1_init_37 ?_
  refine j_iload_n (h.ok (k := 209) (n := 1928) (by decide) (by decide)) 0 rfl rfl dX1_init_15 ?_
  refine j_bipush (h.ok (k := 209) (n := 1928) (by decide) (by decide)) (v := 8) (by decide) dX1_init_16 ?_
  refine j_icmp_ge (ρ := Bool) (fa := some true) (fb := some false) (res := true) (h.ok (k := 209) (n := 1928) (by decide) (by decide)) 40 (by decide) dX1_init_18 (by decide) (fun _ => ?_) (fun hF => absurd hF (by decide))
  refine hX _ _ _ dX1_init_40 ?_
  refine ⟨q1, adw2, adw3, adw4, adw5, adw6, adw7, adw8, adw9, ?_⟩
  rw [ew2, ew3, ew4, ew5, ew6, ew7, ew8, ew9]
theorem n_X1_init (l : Launch) (D : va_G) (cI cZ cV : ClassId) : CTn l D (jtys cI cZ cV) yX1_init cX1_init 2 rmX1_init 1 [.int 0, .null] (PostHi cI cV) := by
  refine CTn.of (by decide) (by decide) rfl (fun X h0 e1 e2 e3 e4 e5 e7 h hX => ?_)
  subst e1; subst e2; subst e3; subst e4; subst e5
  exact nk_X1_init h e7 hX
abbrev rmX6_init : Room := { frames := 4, cells := 319, slots := 3008, locals := 82 }
set_option maxHeartbeats 4000000 in
set_option maxRecDepth 100000 in
theorem nk_X6_init {X : JX va_W} {h0 : Nat} (h : OKc X RX6 cX6_init rmX6_init) (hnL : X.nL = 2) (hX : EXc X cX6_init rmX6_init ((PostP X.cI X.cZ X.cV) h0)) : J (XA X 0 0) 0 [(0, .ref h0)] [] [(h0, .inr (6, [.null, .null, .null, .null, .null, .null]))] := by
  refine j_aload_n (h.ok (k := 0) (n := 0) (by decide) (by decide)) 0 rfl rfl dX6_init_0 ?_
  refine jc_obj h (by decide) (by decide) q1_15 ⟨Nat.le_of_ble_eq_true rfl, Nat.le_of_ble_eq_true rfl⟩ dX6_init_1 ?_
  refine j_aload_n (h.ok (k := 0) (n := 0) (by decide) (by decide)) 0 rfl rfl dX6_init_4 ?_
  refine jc_ctor h.w (ix2 := 9) (n_X5_init X.l X.D X.cI X.cZ X.cV) inX5 tyX5_ok rfl (by intro j hj; have hh := hj; rcases (show j = 0 ∨ j = 1 ∨ j = 2 ∨ j = 3 ∨ j = 4 ∨ j = 5 ∨ j = 6 ∨ j = 7 ∨ j = 8 ∨ j = 9 ∨ j = 10 by omega) with rfl | rfl | rfl | rfl | rfl | rfl | rfl | rfl | rfl | rfl | rfl <;> rfl) q1_18 q1_19 q1_2 (Or.inl q1_20) q1_21 q1_22 q1_2 rfl (by decide +kernel) 26 240 rfl rfl (by decide) (by decide) ⟨Nat.le_of_ble_eq_true rfl, Nat.le_of_ble_eq_true rfl⟩ (Nat.le_of_ble_eq_true rfl) dX6_init_5 dX6_init_8 dX6_init_9 (fun q1 w1 pw1 => ?_)
  obtain ⟨adw1, rfl, ew1⟩ := pw1
  refine jc_eq (ws' := (h0, .inr (6, [.null, .null, .null, .null, .null, .null])) :: (w1 ++ [])) (by first | rfl | (simp only [List.append_assoc, List.cons_append, List.nil_append, List.append_nil]; done) | (simp only [List.append_assoc, List.cons_append, List.nil_append, List.append_nil]; rfl)) ?_
  refine jc_putF h (by decide) (by decide) inX6 tyX6_ok nmX6 rfl 0 (by decide) rfl rfl q1_200 rfl rfl rfl (Nat.le_of_ble_eq_true rfl) [.ref (adw1 22), .null, .null, .null, .null, .null] rfl dX6_init_12 ?_
  refine j_aload_n (h.ok (k := 26) (n := 240) (by decide) (by decide)) 0 rfl rfl dX6_init_15 ?_
  refine jc_ctor h.w (ix2 := 9) (n_X5_init X.l X.D X.cI X.cZ X.cV) inX5 tyX5_ok rfl (by intro j hj; have hh := hj; rcases (show j = 0 ∨ j = 1 ∨ j = 2 ∨ j = 3 ∨ j = 4 ∨ j = 5 ∨ j = 6 ∨ j = 7 ∨ j = 8 ∨ j = 9 ∨ j = 10 by omega) with rfl | rfl | rfl | rfl | rfl | rfl | rfl | rfl | rfl | rfl | rfl <;> rfl) q1_18 q1_19 q1_2 (Or.inl q1_20) q1_21 q1_22 q1_2 rfl (by decide +kernel) 52 480 rfl rfl (by decide) (by decide) ⟨Nat.le_of_ble_eq_true rfl, Nat.le_of_ble_eq_true rfl⟩ (Nat.le_of_ble_eq_true rfl) dX6_init_16 dX6_init_19 dX6_init_20 (fun q2 w2 pw2 => ?_)
  obtain ⟨adw2, rfl, ew2⟩ := pw2
  refine jc_eq (ws' := (h0, .inr (6, [.ref (adw1 22), .null, .null, .null, .null, .null])) :: (w1 ++ (w2 ++ []))) (by first | rfl | (simp only [List.append_assoc, List.cons_append, List.nil_append, List.append_nil]; done) | (simp only [List.append_assoc, List.cons_append, List.nil_append, List.append_nil]; rfl)) ?_
  refine jc_putF h (by decide) (by decide) inX6 tyX6_ok nmX6 rfl 1 (by decide) rfl rfl q1_201 rfl rfl rfl (Nat.le_of_ble_eq_true rfl) [.ref (adw1 22), .ref (adw2 22), .null, .null, .null, .null] rfl dX6_init_23 ?_
  refine j_aload_n (h.ok (k := 52) (n := 480) (by decide) (by decide)) 0 rfl rfl dX6_init_26 ?_
  refine jc_ctor h.w (ix2 := 21) (n_X1_init X.l X.D X.cI X.cZ X.cV) inX1 tyX1_ok rfl (by intro j hj; have hh := hj; rcases (show j = 0 ∨ j = 1 by omega) with rfl | rfl <;> rfl) q1_161 q1_162 q1_6 (Or.inl q1_163) q1_164 q1_165 q1_6 rfl (by decide +kernel) 262 2410 rfl rfl (by decide) (by decide) ⟨Nat.le_of_ble_eq_true rfl, Nat.le_of_ble_eq_true rfl⟩ (Nat.le_of_ble_eq_true rfl) dX6_init_27 dX6_init_30 dX6_init_31 (fun q3 w3 pw3 => ?_)
  obtain ⟨sqw3, bw3_0, bw3_1, bw3_2, bw3_3, bw3_4, bw3_5, bw3_6, bw3_7, ew3⟩ := pw3
  refine jc_eq (ws' := (h0, .inr (6, [.ref (adw1 22), .ref (adw2 22), .null, .null, .null, .null])) :: (w1 ++ (w2 ++ (w3 ++ [])))) (by first | rfl | (simp only [List.append_assoc, List.cons_append, List.nil_append, List.append_nil]; done) | (simp only [List.append_assoc, List.cons_append, List.nil_append, List.append_nil]; rfl)) ?_
  refine jc_putF h (by decide) (by decide) inX6 tyX6_ok nmX6 rfl 2 (by decide) rfl rfl q1_202 rfl rfl rfl (Nat.le_of_ble_eq_true rfl) [.ref (adw1 22), .ref (adw2 22), .ref q3, .null, .null, .null] rfl dX6_init_34 ?_
  refine j_aload_n (h.ok (k := 262) (n := 2410) (by decide) (by decide)) 0 rfl rfl dX6_init_37 ?_
  refine j_iconst (h.ok (k := 262) (n := 2410) (by decide) (by decide)) (v := 2) (by decide) dX6_init_38 ?_
  refine jc_newq h 2 (by decide) (by decide) (by decide) (by decide) (by decide) q1_18 dX6_init_39 (fun q4 => ?_)
  refine jc_eq (ws' := (h0, .inr (6, [.ref (adw1 22), .ref (adw2 22), .ref q3, .null, .null, .null])) :: (w1 ++ (w2 ++ (w3 ++ ((q4, .inl (X.cV, 2, .inr (.inr (.inr (.inr (fun _ => none)))))) :: []))))) (by first | rfl | (simp only [List.append_assoc, List.cons_append, List.nil_append, List.append_nil]; done) | (simp only [List.append_assoc, List.cons_append, List.nil_append, List.append_nil]; rfl)) ?_
  refine jc_putF h (by decide) (by decide) inX6 tyX6_ok nmX6 rfl 3 (by decide) rfl rfl q1_203 rfl rfl rfl (Nat.le_of_ble_eq_true rfl) [.ref (adw1 22), .ref (adw2 22), .ref q3, .ref q4, .null, .null] rfl dX6_init_42 ?_
  refine j_aload_n (h.ok (k := 263) (n := 2412) (by decide) (by decide)) 0 rfl rfl dX6_init_45 ?_
  refine j_iconst (h.ok (k := 263) (n := 2412) (by decide) (by decide)) (v := 2) (by decide) dX6_init_46 ?_
  refine jc_newz h 2 (by decide) (by decide) (by decide) (by decide) (by decide) dX6_init_47 (fun q5 => ?_)
  refine jc_eq (ws' := (h0, .inr (6, [.ref (adw1 22), .ref (adw2 22), .ref q3, .ref q4, .null, .null])) :: (w1 ++ (w2 ++ (w3 ++ ((q4, .inl (X.cV, 2, .inr (.inr (.inr (.inr (fun _ => none)))))) :: ((q5, .inl (X.cZ, 2, .inl zr)) :: [])))))) (by first | rfl | (simp only [List.append_assoc, List.cons_append, List.nil_append, List.append_nil]; done) | (simp only [List.append_assoc, List.cons_append, List.nil_append, List.append_nil]; rfl)) ?_
  refine jc_putF h (by decide) (by decide) inX6 tyX6_ok nmX6 rfl 4 (by decide) rfl rfl q1_204 rfl rfl rfl (Nat.le_of_ble_eq_true rfl) [.ref (adw1 22), .ref (adw2 22), .ref q3, .ref q4, .ref q5, .null] rfl dX6_init_49 ?_
  refine j_aload_n (h.ok (k := 264) (n := 2414) (by decide) (by decide)) 0 rfl rfl dX6_init_52 ?_
  refine jc_ctor h.w (ix2 := 36) (n_X3_init X.l X.D X.cI X.cZ X.cV) inX3 tyX3_ok rfl (by intro j hj; have hh := hj; rcases (show j = 0 ∨ j = 1 ∨ j = 2 ∨ j = 3 ∨ j = 4 ∨ j = 5 by omega) with rfl | rfl | rfl | rfl | rfl | rfl <;> rfl) q1_178 q1_179 q1_7 (Or.inr h.2.1.2.2.1) q1_181 q1_182 q1_7 rfl (by decide +kernel) 267 2528 rfl rfl (by decide) (by decide) ⟨Nat.le_of_ble_eq_true rfl, Nat.le_of_ble_eq_true rfl⟩ (Nat.le_of_ble_eq_true rfl) dX6_init_53 dX6_init_56 dX6_init_57 (fun q6 w6 pw6 => ?_)
  obtain ⟨w6_0, w6_1, ew6⟩ := pw6
  refine jc_eq (ws' := (h0, .inr (6, [.ref (adw1 22), .ref (adw2 22), .ref q3, .ref q4, .ref q5, .null])) :: (w1 ++ (w2 ++ (w3 ++ ((q4, .inl (X.cV, 2, .inr (.inr (.inr (.inr (fun _ => none)))))) :: ((q5, .inl (X.cZ, 2, .inl zr)) :: (w6 ++ []))))))) (by first | rfl | (simp only [List.append_assoc, List.cons_append, List.nil_append, List.append_nil]; done) | (simp only [List.append_assoc, List.cons_append, List.nil_append, List.append_nil]; rfl)) ?_
  refine jc_putF h (by decide) (by decide) inX6 tyX6_ok nmX6 rfl 5 (by decide) rfl rfl q1_205 rfl rfl rfl (Nat.le_of_ble_eq_true rfl) [.ref (adw1 22), .ref (adw2 22), .ref q3, .ref q4, .ref q5, .ref q6] rfl dX6_init_60 ?_
  refine j_iconst (h.ok (k := 267) (n := 2528) (by decide) (by decide)) (v := 0) (by decide) dX6_init_63 ?_
  refine j_istore_n (h.ok (k := 267) (n := 2528) (by decide) (by decide)) hnL [(1, .int 0), (0, .ref h0)] rfl (by decide) rfl dX6_init_64 ?_
  refine j_iload_n (h.ok (k := 267) (n := 2528) (by decide) (by decide)) 0 rfl rfl dX6_init_65 ?_
  refine j_iconst (h.ok (k := 267) (n := 2528) (by decide) (by decide)) (v := 2) (by decide) dX6_init_66 ?_
  refine j_icmp_ge (ρ := Bool) (fa := some true) (fb := some false) (res := false) (h.ok (k := 267) (n := 2528) (by decide) (by decide)) 89 (by decide) dX6_init_67 (by decide) (fun hF => absurd hF (by decide)) (fun _ => ?_)
  refine j_aload_n (h.ok (k := 267) (n := 2528) (by decide) (by decide)) 1 rfl rfl dX6_init_70 ?_
  refine jc_get h (by decide) (by decide) inX6 rfl 3 (by decide) rfl q1_203 rfl dX6_init_71 ?_
  refine j_iload_n (h.ok (k := 267) (n := 2528) (by decide) (by decide)) 0 rfl rfl dX6_init_74 ?_
  refine jc_ctor h.w (ix2 := 9) (n_X5_init X.l X.D X.cI X.cZ X.cV) inX5 tyX5_ok rfl (by intro j hj; have hh := hj; rcases (show j = 0 ∨ j = 1 ∨ j = 2 ∨ j = 3 ∨ j = 4 ∨ j = 5 ∨ j = 6 ∨ j = 7 ∨ j = 8 ∨ j = 9 ∨ j = 10 by omega) with rfl | rfl | rfl | rfl | rfl | rfl | rfl | rfl | rfl | rfl | rfl <;> rfl) q1_18 q1_19 q1_2 (Or.inl q1_20) q1_21 q1_22 q1_2 rfl (by decide +kernel) 293 2768 rfl rfl (by decide) (by decide) ⟨Nat.le_of_ble_eq_true rfl, Nat.le_of_ble_eq_true rfl⟩ (Nat.le_of_ble_eq_true rfl) dX6_init_75 dX6_init_78 dX6_init_79 (fun q7 w7 pw7 => ?_)
  obtain ⟨adw7, rfl, ew7⟩ := pw7
  refine jc_eq (ws' := (h0, .inr (6, [.ref (adw1 22), .ref (adw2 22), .ref q3, .ref q4, .ref q5, .ref q6])) :: (w1 ++ (w2 ++ (w3 ++ ((q4, .inl (X.cV, 2, .inr (.inr (.inr (.inr (fun _ => none)))))) :: ((q5, .inl (X.cZ, 2, .inl zr)) :: (w6 ++ (w7 ++ [])))))))) (by first | rfl | (simp only [List.append_assoc, List.cons_append, List.nil_append, List.append_nil]; done) | (simp only [List.append_assoc, List.cons_append, List.nil_append, List.append_nil]; rfl)) ?_
  have hvw7 := vill_head (cI := X.cI) ((h0, .inr (6, [.ref (adw1 22), .ref (adw2 22), .ref q3, .ref q4, .ref q5, .ref q6])) :: (w1 ++ (w2 ++ (w3 ++ ((q4, .inl (X.cV, 2, .inr (.inr (.inr (.inr (fun _ => none)))))) :: ((q5, .inl (X.cZ, 2, .inl zr)) :: (w6 ++ []))))))) adw7
  rw [← ew7] at hvw7
  refine jc_aast h ((h0, .inr (6, [.ref (adw1 22), .ref (adw2 22), .ref q3, .ref q4, .ref q5, .ref q6])) :: (w1 ++ (w2 ++ (w3 ++ [])))) ((q5, .inl (X.cZ, 2, .inl zr)) :: (w6 ++ (w7 ++ []))) (by first | rfl | (simp only [List.append_assoc, List.cons_append, List.nil_append, List.append_nil]; done) | (simp only [List.append_assoc, List.cons_append, List.nil_append, List.append_nil]; rfl)) (by decide) 0 (by decide) (by simpa only [List.append_assoc, List.cons_append, List.nil_append, List.append_nil] using hvw7) dX6_init_82 ?_
  refine jc_eq (ws' := (h0, .inr (6, [.ref (adw1 22), .ref (adw2 22), .ref q3, .ref q4, .ref q5, .ref q6])) :: (w1 ++ (w2 ++ (w3 ++ ((q4, .inl (X.cV, 2, .inr (.inr (.inr (.inr (va_up (fun _ => none) 0 (some (adw7 22)))))))) :: ((q5, .inl (X.cZ, 2, .inl zr)) :: (w6 ++ (w7 ++ [])))))))) (by first | rfl | (simp only [List.append_assoc, List.cons_append, List.nil_append, List.append_nil]; done) | (simp only [List.append_assoc, List.cons_append, List.nil_append, List.append_nil]; rfl)) ?_
  refine j_iinc (h.ok (k := 293) (n := 2768) (by decide) (by decide)) hnL 0 (v := 1) (y := 1) [(1, .int 1), (0, .ref h0)] rfl (by decide) (by decide) (by decide) rfl dX6_init_83 ?_
  refine j_goto (h.ok (k := 293) (n := 2768) (by decide) (by decide)) 65 (by decide) dX6_init_86 ?_
  refine j_iload_n (h.ok (k := 293) (n := 2768) (by decide) (by decide)) 0 rfl rfl dX6_init_65 ?_
  refine j_iconst (h.ok (k := 293) (n := 2768) (by decide) (by decide)) (v := 2) (by decide) dX6_init_66 ?_
  refine j_icmp_ge (ρ := Bool) (fa := some true) (fb := some false) (res := false) (h.ok (k := 293) (n := 2768) (by decide) (by decide)) 89 (by decide) dX6_init_67 (by decide) (fun hF => absurd hF (by decide)) (fun _ => ?_)
  refine j_aload_n (h.ok (k := 293) (n := 2768) (by decide) (by decide)) 1 rfl rfl dX6_init_70 ?_
  refine jc_get h (by decide) (by decide) inX6 rfl 3 (by decide) rfl q1_203 rfl dX6_init_71 ?_
  refine j_iload_n (h.ok (k := 293) (n := 2768) (by decide) (by decide)) 0 rfl rfl dX6_init_74 ?_
  refine jc_ctor h.w (ix2 := 9) (n_X5_init X.l X.D X.cI X.cZ X.cV) inX5 tyX5_ok rfl (by intro j hj; have hh := hj; rcases (show j = 0 ∨ j = 1 ∨ j = 2 ∨ j = 3 ∨ j = 4 ∨ j = 5 ∨ j = 6 ∨ j = 7 ∨ j = 8 ∨ j = 9 ∨ j = 10 by omega) with rfl | rfl | rfl | rfl | rfl | rfl | rfl | rfl | rfl | rfl | rfl <;> rfl) q1_18 q1_19 q1_2 (Or.inl q1_20) q1_21 q1_22 q1_2 rfl (by decide +kernel) 319 3008 rfl rfl (by decide) (by decide) ⟨Nat.le_of_ble_eq_true rfl, Nat.le_of_ble_eq_true rfl⟩ (Nat.le_of_ble_eq_true rfl) dX6_init_75 dX6_init_78 dX6_init_79 (fun q8 w8 pw8 => ?_)
  obtain ⟨adw8, rfl, ew8⟩ := pw8
  refine jc_eq (ws' := (h0, .inr (6, [.ref (adw1 22), .ref (adw2 22), .ref q3, .ref q4, .ref q5, .ref q6])) :: (w1 ++ (w2 ++ (w3 ++ ((q4, .inl (X.cV, 2, .inr (.inr (.inr (.inr (va_up (fun _ => none) 0 (some (adw7 22)))))))) :: ((q5, .inl (X.cZ, 2, .inl zr)) :: (w6 ++ (w7 ++ (w8 ++ []))))))))) (by first | rfl | (simp only [List.append_assoc, List.cons_append, List.nil_append, List.append_nil]; done) | (simp only [List.append_assoc, List.cons_append, List.nil_append, List.append_nil]; rfl)) ?_
  have hvw8 := vill_head (cI := X.cI) ((h0, .inr (6, [.ref (adw1 22), .ref (adw2 22), .ref q3, .ref q4, .ref q5, .ref q6])) :: (w1 ++ (w2 ++ (w3 ++ ((q4, .inl (X.cV, 2, .inr (.inr (.inr (.inr (va_up (fun _ => none) 0 (some (adw7 22)))))))) :: ((q5, .inl (X.cZ, 2, .inl zr)) :: (w6 ++ (w7 ++ [])))))))) adw8
  rw [← ew8] at hvw8
  refine jc_aast h ((h0, .inr (6, [.ref (adw1 22), .ref (adw2 22), .ref q3, .ref q4, .ref q5, .ref q6])) :: (w1 ++ (w2 ++ (w3 ++ [])))) ((q5, .inl (X.cZ, 2, .inl zr)) :: (w6 ++ (w7 ++ (w8 ++ [])))) (by first | rfl | (simp only [List.append_assoc, List.cons_append, List.nil_append, List.append_nil]; done) | (simp only [List.append_assoc, List.cons_append, List.nil_append, List.append_nil]; rfl)) (by decide) 1 (by decide) (by simpa only [List.append_assoc, List.cons_append, List.nil_append, List.append_nil] using hvw8) dX6_init_82 ?_
  refine jc_eq (ws' := (h0, .inr (6, [.ref (adw1 22), .ref (adw2 22), .ref q3, .ref q4, .ref q5, .ref q6])) :: (w1 ++ (w2 ++ (w3 ++ ((q4, .inl (X.cV, 2, .inr (.inr (.inr (.inr (va_up (va_up (fun _ => none) 0 (some (adw7 22))) 1 (some (adw8 22)))))))) :: ((q5, .inl (X.cZ, 2, .inl zr)) :: (w6 ++ (w7 ++ (w8 ++ []))))))))) (by first | rfl | (simp only [List.append_assoc, List.cons_append, List.nil_append, List.append_nil]; done) | (simp only [List.append_assoc, List.cons_append, List.nil_append, List.append_nil]; rfl)) ?_
  refine j_iinc (h.ok (k := 319) (n := 3008) (by decide) (by decide)) hnL 0 (v := 2) (y := 1) [(1, .int 2), (0, .ref h0)] rfl (by decide) (by decide) (by decide) rfl dX6_init_83 ?_
  refine j_goto (h.ok (k := 319) (n := 3008) (by decide) (by decide)) 65 (by decide) dX6_init_86 ?_
  refine j_iload_n (h.ok (k := 319) (n := 3008) (by decide) (by decide)) 0 rfl rfl dX6_init_65 ?_
  refine j_iconst (h.ok (k := 319) (n := 3008) (by decide) (by decide)) (v := 2) (by decide) dX6_init_66 ?_
  refine j_icmp_ge (ρ := Bool) (fa := some true) (fb := some false) (res := true) (h.ok (k := 319) (n := 3008) (by decide) (by decide)) 89 (by decide) dX6_init_67 (by decide) (fun _ => ?_) (fun hF => absurd hF (by decide))
  obtain ⟨AD, hAD⟩ : ∃ AD : Nat → Nat → Nat, AD = (fun i => match i with | 0 => adw1 | 1 => adw2 | 2 => adw7 | 3 => adw8 | 12 => (fun k => match k with | 0 => w6_0 | 1 => w6_1 | 2 => q6 | 3 => q5 | 4 => q3 | 5 => sqw3 | 6 => q4 | _ => h0) | 4 => bw3_0 | 5 => bw3_1 | 6 => bw3_2 | 7 => bw3_3 | 8 => bw3_4 | 9 => bw3_5 | 10 => bw3_6 | 11 => bw3_7 | _ => (fun _ => 0)) := ⟨_, rfl⟩
  have hc1 : ∀ j, j < 8 → ((va_up (va_up (va_up (va_up (va_up (va_up (va_up (va_up (fun _ => none) 0 (some (bw3_0 22))) 1 (some (bw3_1 22))) 2 (some (bw3_2 22))) 3 (some (bw3_3 22))) 4 (some (bw3_4 22))) 5 (some (bw3_5 22))) 6 (some (bw3_6 22))) 7 (some (bw3_7 22))) : Nat → Option Nat) j = some (AD (4 + j) 22) := by
    intro j hj
    rw [hAD]
    match j, hj with
    | 0, _ => rfl
    | 1, _ => rfl
    | 2, _ => rfl
    | 3, _ => rfl
    | 4, _ => rfl
    | 5, _ => rfl
    | 6, _ => rfl
    | 7, _ => rfl
  have hc2 : ∀ j, j < 2 → ((va_up (va_up (fun _ => none) 0 (some (adw7 22))) 1 (some (adw8 22))) : Nat → Option Nat) j = some (AD (2 + j) 22) := by
    intro j hj
    rw [hAD]
    match j, hj with
    | 0, _ => rfl
    | 1, _ => rfl
  refine jc_cellq (c := X.cV) (a := sqw3) ((h0, .inr (6, [.ref (adw1 22), .ref (adw2 22), .ref q3, .ref q4, .ref q5, .ref q6])) :: (w1 ++ (w2 ++ ((q3, .inr (1, [.int 0, .ref sqw3])) :: [])))) ((villW X.cI bw3_0 vinit ++ (villW X.cI bw3_1 vinit ++ (villW X.cI bw3_2 vinit ++ (villW X.cI bw3_3 vinit ++ (villW X.cI bw3_4 vinit ++ (villW X.cI bw3_5 vinit ++ (villW X.cI bw3_6 vinit ++ (villW X.cI bw3_7 vinit ++ [])))))))) ++ ((q4, .inl (X.cV, 2, .inr (.inr (.inr (.inr (va_up (va_up (fun _ => none) 0 (some (adw7 22))) 1 (some (adw8 22)))))))) :: ((q5, .inl (X.cZ, 2, .inl zr)) :: (w6 ++ (w7 ++ w8))))) hc1 (by simp only [ew3, List.append_assoc, List.cons_append, List.nil_append, List.append_nil]) ?_ h.2.2.1
  refine jc_cellq (c := X.cV) (a := q4) ((h0, .inr (6, [.ref (adw1 22), .ref (adw2 22), .ref q3, .ref q4, .ref q5, .ref q6])) :: (w1 ++ (w2 ++ ((q3, .inr (1, [.int 0, .ref sqw3])) :: (sqw3, .inl (X.cV, 8, .inr (.inr (.inr (.inr (fun j => some (AD (4 + j) 22))))))) :: (villW X.cI bw3_0 vinit ++ (villW X.cI bw3_1 vinit ++ (villW X.cI bw3_2 vinit ++ (villW X.cI bw3_3 vinit ++ (villW X.cI bw3_4 vinit ++ (villW X.cI bw3_5 vinit ++ (villW X.cI bw3_6 vinit ++ (villW X.cI bw3_7 vinit ++ [])))))))))))) ((q5, .inl (X.cZ, 2, .inl zr)) :: (w6 ++ (w7 ++ w8))) hc2 (by simp only [List.append_assoc, List.cons_append, List.nil_append, List.append_nil]) ?_ h.2.2.1
  refine hX _ _ _ dX6_init_89 ⟨AD, (by rw [hAD]; rfl), ?_⟩
  rw [ew1, ew2, ew6, ew7, ew8]
  rw [hAD]
  simp only [poolW, histW, List.append_assoc, List.cons_append, List.nil_append, List.append_nil]
  rfl

theorem n_X6_init (l : Launch) (D : va_G) (cI cZ cV : ClassId) : CTn l D (jtys cI cZ cV) yX6_init cX6_init 2 rmX6_init 6 [.null, .null, .null, .null, .null, .null] (PostP cI cZ cV) := by
  refine CTn.of (by decide) (by decide) rfl (fun X h0 e1 e2 e3 e4 e5 e7 h hX => ?_)
  subst e1; subst e2; subst e3; subst e4; subst e5
  exact nk_X6_init h e7 hX
