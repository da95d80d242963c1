/-! THE LAW'S HOUR: counting the shed feeders, serving -/
/-- what stands apart: the mask of the latest hour -/
def OffR (m : Nat) (R : VS) : Prop := R 0 19 = nI m
theorem OffR.wn {m : Nat} {R : VS} (h : OffR m R) {r p : Nat} (x : Int32) (hp : r ≠ 0 ∨ p ≠ 19) : OffR m (wn R r p x) := by
  unfold OffR
  rw [pu_wn, if_neg (by omega)]
  exact h
theorem bit_nI (b : Bool) : (if b = true then (1 : Int32) else 0) = nI b.toNat := by cases b <;> rfl
theorem sl_98 {v R : VS} (h : VL v R) (s : SM v) (b1 b2 : Bool) {t : Nat} (ht : t = 1 ∨ t = 2) (x5 av : Int32) : ∃ R', f_L_hour_98 (wn R 0 3 (nI t)) x5 av (nI (mk2 b1 b2)) = f_L_hour_143 x5 av (nI (mk2 b1 b2)) fuel av 0 R' ∧ VL (shv v b1 b2 t) R' ∧ OffR (mk2 b1 b2) R' := by
  have h1 := sl_turn h s t
  have s1 : SM (wn v 22 4 (nI t)) := trn_SM s _
  obtain ⟨n, hn⟩ : ∃ n, fuel = n + 1 + 1 + 1 := ⟨99997, rfl⟩
  have inL19 : ∀ j, j < 3 → inL 19 j := fun j hj => Or.inr (Or.inr (Or.inr (Or.inr (Or.inr (Or.inl ⟨rfl, hj⟩)))))
  have st : ∀ (w Q : VS), VL w Q → ∀ f, f = 1 ∨ f = 2 → ∀ m, f_L_hour_101 x5 av (nI (mk2 b1 b2)) (m + 1) (nI f) Q = f_L_hour_101 x5 av (nI (mk2 b1 b2)) m (nI (f + 1)) (wn Q 0 (16 + f) (w 19 f + (if bt b1 b2 f = true then 1 else 0))) := fun w Q hQ f hf m => by
    have h3 : ¬ (3 : Int32) ≤ nI f := nI_ge (b := 3) (by omega) (by decide)
    have e16 : (16 : Int32) + nI f = nI (16 + f) := nI_add 16 f
    rw [f_L_hour_101, if_neg h3, e16, pu_inb (by omega) (by decide), pu_bnd, pu_bnd, pu_let, pu_let, nI_1, pu_wr (by omega), pu_rd (by omega), rl_19 hQ (j := f) (by omega) rfl, bt_bit b1 b2 (by omega)]
  have a1 := VL.put h1 s1 (k := 19) (j := 1) (r := 0) (p := 17) (x := v 19 1 + (if bt b1 b2 1 = true then 1 else 0)) rfl rfl (inL19 1 (by decide)) (Or.inl (by decide))
  have s2 : SM (wn (wn v 22 4 (nI t)) 19 1 (v 19 1 + (if bt b1 b2 1 = true then 1 else 0))) := s1.congr fun j _ => pu_wn_k _ _ _ _ (by decide)
  have a2 := VL.put a1 s2 (k := 19) (j := 2) (r := 0) (p := 18) (x := v 19 2 + (if bt b1 b2 2 = true then 1 else 0)) rfl rfl (inL19 2 (by decide)) (Or.inl (by decide))
  refine ⟨wn (wn (wn (wn R 0 3 (nI t)) 0 17 (v 19 1 + (if bt b1 b2 1 = true then 1 else 0))) 0 18 (v 19 2 + (if bt b1 b2 2 = true then 1 else 0))) 0 19 (nI (mk2 b1 b2)), ?_, ?_, pu_wn_s _ _ _ _⟩
  · have st1 := st (wn v 22 4 (nI t)) _ h1 1 (Or.inl rfl) (n + 1 + 1)
    rw [pu_wn_k v (k := 22) (k' := 19) 4 (nI t) 1 (by decide)] at st1
    have st2 := st _ _ a1 2 (Or.inr rfl) (n + 1)
    rw [pu_wn_j _ _ _ _ (by decide), pu_wn_k v (k := 22) (k' := 19) 4 (nI t) 2 (by decide)] at st2
    have w19 : ∀ (Q : VS) x, wr Q 0 (19 : Int32) x = wn Q 0 19 x := fun Q x => pu_wr (i := 19) (by decide)
    unfold f_L_hour_98
    rw [show f_L_hour_101 x5 av (nI (mk2 b1 b2)) fuel 1 (wn R 0 3 (nI t)) = f_L_hour_101 x5 av (nI (mk2 b1 b2)) (n + 1 + 1 + 1) (nI 1) (wn R 0 3 (nI t)) by rw [hn]; rfl, st1]
    refine st2.trans ?_
    rw [f_L_hour_101, if_pos (by decide), show inb (19 : Int32) 20 = true from pu_inb (i := 19) (by decide) (by decide), pu_bnd, pu_let, w19]
  · intro k j hr
    have hr' : rl (wn (wn (wn v 22 4 (nI t)) 19 1 (v 19 1 + (if bt b1 b2 1 = true then 1 else 0))) 19 2 (v 19 2 + (if bt b1 b2 2 = true then 1 else 0))) k j := by
      refine (rl_congr ?_ ?_).mp hr
      · rw [shv_same _ _ _ _ (by omega), pu_wn_k _ _ _ _ (by decide), pu_wn_k _ _ _ _ (by decide), pu_wn_j _ _ _ _ (by decide)]
      · rw [shv_same _ _ _ _ (by omega), pu_wn_k _ _ _ _ (by decide), pu_wn_k _ _ _ _ (by decide), pu_wn_j _ _ _ _ (by decide)]
    have e := a2 k j hr'
    have hne : ¬ (lrw k = 0 ∧ lpl k j = 19) := by
      intro z
      have hin := rl_inL (s2.congr fun j _ => pu_wn_k _ _ _ _ (by decide)) hr'
      have := linv_l hin
      rw [z.1, z.2] at this
      have e1 : linv 0 19 = (19, 3) := by decide
      rw [e1] at this
      obtain ⟨rfl, rfl⟩ := Prod.mk.inj this
      unfold inL at hin
      omega
    rw [pu_wn, if_neg hne, e]
    have hk : k ≠ 9 ∧ k ≠ 8 ∧ k ≠ 20 := by unfold rl at hr; omega
    simp only [pu_wn]
    unfold shv
    rw [if_neg (show ¬ (k = 9 ∧ j < hsz v) from fun z => hk.1 z.1), if_neg (show ¬ (k = 8 ∧ j < hsz v) from fun z => hk.2.1 z.1), if_neg (show ¬ (k = 20 ∧ j < 3) from fun z => hk.2.2 z.1)]
    by_cases h19 : k = 19 ∧ j < 3
    · obtain ⟨rfl, hj⟩ := h19
      rw [if_pos (show 19 = 19 ∧ j < 3 from ⟨rfl, hj⟩)]
      rcases (show j = 0 ∨ j = 1 ∨ j = 2 by omega) with rfl | rfl | rfl
      · rw [if_neg (show ¬ (19 = 19 ∧ 0 = 2) by decide), if_neg (show ¬ (19 = 19 ∧ 0 = 1) by decide), if_neg (show ¬ (19 = 22 ∧ 0 = 4) by decide), show bt b1 b2 0 = false from rfl, if_neg (by decide), Int32.add_zero]
      · rw [if_neg (show ¬ (19 = 19 ∧ 1 = 2) by decide), if_pos (show 19 = 19 ∧ 1 = 1 by decide)]
      · rw [if_pos (show 19 = 19 ∧ 2 = 2 by decide)]
    · rw [if_neg h19]
      have n19 : k ≠ 19 := fun e => h19 ⟨e, by unfold rl at hr; omega⟩
      rw [if_neg (show ¬ (k = 19 ∧ j = 2) from fun z => n19 z.1), if_neg (show ¬ (k = 19 ∧ j = 1) from fun z => n19 z.1)]
/-- serving: got and reason of those of P, credit and sum of those of T -/
def SY (u : VS) (P T : Nat → Bool) (g : Nat → Int32) : VS := fun k j => if k = 5 ∧ P j = true then g j else if k = 6 ∧ P j = true then rsn (g j) (u 1 j) (u 3 j) (u 8 j) (late u j) else if k = 4 ∧ T j = true then u 4 j - g j else if k = 7 ∧ T j = true then u 7 j + g j else u k j
def nBL : Nat → Bool := fun _ => false
theorem SY_same {u : VS} {P T : Nat → Bool} {g : Nat → Int32} {k j : Nat} (h5 : k = 5 → P j = false) (h6 : k = 6 → P j = false) (h4 : k = 4 → T j = false) (h7 : k = 7 → T j = false) : SY u P T g k j = u k j := by
  unfold SY
  rw [if_neg (fun z => by rw [h5 z.1] at z; exact absurd z.2 (by decide)), if_neg (fun z => by rw [h6 z.1] at z; exact absurd z.2 (by decide)), if_neg (fun z => by rw [h4 z.1] at z; exact absurd z.2 (by decide)), if_neg (fun z => by rw [h7 z.1] at z; exact absurd z.2 (by decide))]
theorem SY_same' {u : VS} {P T : Nat → Bool} {g : Nat → Int32} {k j : Nat} (h : k ≠ 5 ∧ k ≠ 6 ∧ k ≠ 4 ∧ k ≠ 7) : SY u P T g k j = u k j := SY_same (fun e => absurd e h.1) (fun e => absurd e h.2.1) (fun e => absurd e h.2.2.1) (fun e => absurd e h.2.2.2)
theorem SY_nB (u : VS) (P : Nat → Bool) (g : Nat → Int32) {k j : Nat} (h : k ≠ 5 ∧ k ≠ 6) : SY u P nBL g k j = u k j := SY_same (fun e => absurd e h.1) (fun e => absurd e h.2) (fun _ => rfl) (fun _ => rfl)
theorem SY_GA {u : VS} (g : GA u) (P T : Nat → Bool) (w : Nat → Int32) : GA (SY u P T w) := g.congr' fun j => SY_same' (by omega)
theorem SY_hsz (u : VS) (P T : Nat → Bool) (w : Nat → Int32) : hsz (SY u P T w) = hsz u := hsz_congr (SY_same' (by omega))
theorem SY_SM {u : VS} (s : SM u) (P T : Nat → Bool) (w : Nat → Int32) : SM (SY u P T w) := s.congr fun j _ => SY_same' (by omega)
theorem SY_congrP (u : VS) {P P' : Nat → Bool} (T : Nat → Bool) (g : Nat → Int32) (h : ∀ j, P j = P' j) : SY u P T g = SY u P' T g := by rw [show P = P' from funext h]
theorem SY_step (u : VS) (P P' : Nat → Bool) (g : Nat → Int32) (i : Nat) (p : Int32) (hP' : ∀ j, P' j = (P j || decide (j = i))) : wn (wn (SY u P nBL g) 5 i p) 6 i (rsn p (u 1 i) (u 3 i) (u 8 i) (late u i)) = SY u P' nBL (upd g i p) := by
  refine vs_ext fun k j => ?_
  simp only [pu_wn, SY, nBL, hP', upd]
  by_cases hj : j = i
  · subst hj
    by_cases h6 : k = 6
    · subst h6; simp
    · by_cases h5 : k = 5
      · subst h5; simp
      · simp [h5, h6]
  · simp [hj]
theorem SY_pay (u : VS) (P : Nat → Bool) (g : Nat → Int32) (i : Nat) : wn (wn (SY u P (fun j => decide (j < i)) g) 4 i (u 4 i - g i)) 7 i (u 7 i + g i) = SY u P (fun j => decide (j < i + 1)) g := by
  refine vs_ext fun k j => ?_
  simp only [pu_wn, SY]
  by_cases hj : j = i
  · subst hj
    by_cases h7 : k = 7
    · subst h7; simp
    · by_cases h4 : k = 4
      · subst h4; simp
      · simp [h4, h7]
  · have e : decide (j < i + 1) = decide (j < i) := decide_eq_decide.mpr (by omega)
    rw [if_neg (fun z => hj z.2), if_neg (fun z => hj z.2)]
    simp only [e]
theorem SY_all (u : VS) (n : Nat) (g : Nat → Int32) : SY u (fun j => decide (j < n)) (fun j => decide (j < n)) g = SV u (fun j => decide (j < n)) g := by
  refine vs_ext fun k j => ?_
  unfold SY SV
  by_cases hj : j < n
  · simp only [hj, decide_true, and_true, if_true]
    by_cases h5 : k = 5
    · simp [h5]
    · by_cases h7 : k = 7
      · simp [h7]
      · by_cases h6 : k = 6
        · simp [h6]
        · simp [h5, h7, h6]
  · simp [hj]
