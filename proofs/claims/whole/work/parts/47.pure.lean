/-! the first dark hour -/
def hm (p : Nat) : Nat → Nat → VS → Nat × VS
  | 0, i, v => (i, v)
  | d + 1, i, v => if PH v 1 p ≤ PH v 5 p then hm p d (i + 1) (PH v) else (i, PH v)
theorem hm_le (p : Nat) : ∀ (d i : Nat) (v : VS), i ≤ (hm p d i v).1 ∧ (hm p d i v).1 ≤ i + d := by
  intro d
  induction d with
  | zero => intro i v; exact ⟨Nat.le_refl _, Nat.le_refl _⟩
  | succ d ih =>
    intro i v
    show i ≤ (if _ then hm p d (i + 1) (PH v) else (i, PH v)).1 ∧ (if _ then hm p d (i + 1) (PH v) else (i, PH v)).1 ≤ i + (d + 1)
    have := ih (i + 1) (PH v)
    split
    · omega
    · exact ⟨Nat.le_refl _, Nat.le_add_right _ _⟩
theorem sp_hoursMet {p L c : Nat} (hL : L ≤ 1000) : ∀ (d i n t : Nat) (v : VS), i + d = L → d < n → p < hsz v → G v → GN c t v → t + d < 2 ^ 29 → f_X5_hoursMet_2 (nI p) (nI L) n (nI i) v = some (nI (hm p d i v).1, (hm p d i v).2) := by
  intro d
  induction d with
  | zero =>
    intro i n t v hi hn hp g gn ht
    obtain ⟨n, rfl⟩ : ∃ m, n = m + 1 := ⟨n - 1, by omega⟩
    obtain rfl : i = L := by omega
    simp (disch := omega) only [f_X5_hoursMet_2, pu_bnd, pu_some, pu_let, pu_inb, pu_rd, pu_wr, nI_1, nI_leI, nI_ltI, nI_eq, pu_lit, nI_add, pk_mul, Nat.le_refl, if_true]
    rfl
  | succ d ih =>
    intro i n t v hi hn hp g gn ht
    obtain ⟨n, rfl⟩ : ∃ m, n = m + 1 := ⟨n - 1, by omega⟩
    have h1 : ¬ L ≤ i := by omega
    have h10 := g.1.2.1
    have hG := PH_G g gn (by omega)
    simp (disch := omega) only [f_X5_hoursMet_2, pu_bnd, pu_some, pu_let, pu_inb, pu_rd, pu_wr, nI_1, nI_leI, nI_ltI, nI_eq, pu_lit, nI_add, pk_mul, h1, if_false, sp_passHour g.1 (GF.of g.2.1)]
    show (if PH v 1 p ≤ PH v 5 p then _ else _) = some (nI (if PH v 1 p ≤ PH v 5 p then hm p d (i + 1) (PH v) else (i, PH v)).1, (if PH v 1 p ≤ PH v 5 p then hm p d (i + 1) (PH v) else (i, PH v)).2)
    by_cases hc : PH v 1 p ≤ PH v 5 p
    · rw [if_pos hc, if_pos hc]
      exact ih (i + 1) n (t + 1) (PH v) (by omega) (by omega) (by rw [PH_hsz]; exact hp) hG.1 hG.2 (by omega)
    · rw [if_neg hc, if_neg hc]
theorem sr_fd57 (R : RS) (x3 x4 : Int32) : f_X7_firstDark_57 R x3 x4 = some (if x4 = 0 then -1000001 else x3, cpR R 1 0 0 0 198) := by
  have hc := sr_copy (k1 := 1) (k3 := 0) (by decide) R (a := 0) (b := 0) (by decide) (by decide) (by decide) (by decide)
  unfold f_X7_firstDark_57
  rw [show (0 : Int32) = nI 0 from rfl, hc, pu_some]
  by_cases h : x4 = nI 0
  · rw [if_pos h, if_pos h]
  · rw [if_neg h, if_neg h]
theorem sr_firstDark {p L c : Nat} (hL : L ≤ 1000) : ∀ (d i n t : Nat) (v : VS) (R : RS), i + d = L → d + 1 < n → p < hsz v → G v → GN c t v → t + d < 2 ^ 29 → RV v R →
    ∃ R', f_X7_firstDark_5 (nI p) (nI L) n (nI i) 0 R = some (if (hm p d i v).1 = L then -1000001 else nI (hm p d i v).1, cpR R' 1 0 0 0 198) ∧ Fr R R' := by
  intro d
  induction d with
  | zero =>
    intro i n t v R hi hn hp g gn ht h
    obtain ⟨n, rfl⟩ : ∃ m, n = m + 1 := ⟨n - 1, by omega⟩
    obtain rfl : i = L := by omega
    refine ⟨R, ?_, Fr.rfl' R⟩
    simp (disch := omega) only [f_X7_firstDark_5, nI_leI, Nat.le_refl, if_true, sr_fd57]
    rw [show (hm p 0 i v).1 = i from rfl, if_pos rfl]
  | succ d ih =>
    intro i n t v R hi hn hp g gn ht h
    obtain ⟨n, rfl⟩ : ∃ m, n = m + 1 := ⟨n - 1, by omega⟩
    have h1 : ¬ L ≤ i := by omega
    have hG := PH_G g gn (by omega)
    obtain ⟨R1, a1, a2, a3⟩ := sr_pass h g
    have hp1 : p < hsz (PH v) := by rw [PH_hsz]; exact hp
    have s5 := sr_of a2 hG.1.1 (by omega : 5 < 8) hp1
    have s1 := sr_of a2 hG.1.1 (by omega : 1 < 8) hp1
    have hst : f_X7_firstDark_5 (nI p) (nI L) (n + 1) (nI i) 0 R = if PH v 1 p ≤ PH v 5 p then f_X7_firstDark_5 (nI p) (nI L) n (nI (i + 1)) 0 R1 else f_X7_firstDark_5 (nI p) (nI L) n (nI i) 1 R1 := by
      show (if nI L ≤ nI i then _ else _) = _
      rw [if_neg (fun z => h1 ((nI_leI (by omega) (by omega)).mp z)), ite00, a1, pu_some, show (5 : Int32) = nI 5 from rfl, s5, pu_some, show (1 : Int32) = nI 1 from rfl, s1, pu_some]
      unfold f_X7_firstDark_39 f_X7_firstDark_52
      by_cases hc : PH v 1 p ≤ PH v 5 p
      · rw [if_pos hc, if_pos hc, ite00, pv_let, nI_1]
      · rw [if_neg hc, if_neg hc, if_neg (show ¬ nI 1 = 0 by decide), pv_let, show nI i + 0 = nI i from Int32.add_zero _]
    rw [hst]
    show ∃ R', _ = some (if (if PH v 1 p ≤ PH v 5 p then hm p d (i + 1) (PH v) else (i, PH v)).1 = L then -1000001 else nI (if PH v 1 p ≤ PH v 5 p then hm p d (i + 1) (PH v) else (i, PH v)).1, cpR R' 1 0 0 0 198) ∧ Fr R R'
    by_cases hc : PH v 1 p ≤ PH v 5 p
    · rw [if_pos hc, if_pos hc]
      obtain ⟨R', b1, b2⟩ := ih (i + 1) n (t + 1) (PH v) R1 (by omega) (by omega) hp1 hG.1 hG.2 (by omega) a2
      exact ⟨R', b1, a3.trans b2⟩
    · rw [if_neg hc, if_neg hc]
      refine ⟨R1, ?_, a3⟩
      obtain ⟨m, rfl⟩ : ∃ m, n = m + 1 := ⟨n - 1, by omega⟩
      show (if nI L ≤ nI i then _ else if (1 : Int32) = 0 then _ else _) = _
      rw [if_neg (fun z => h1 ((nI_leI (by omega) (by omega)).mp z)), ite10, sr_fd57, ite10, if_neg (show ¬ (i, PH v).1 = L from fun z => h1 (by rw [← z]; exact Nat.le_refl _))]
theorem op_darkIn : Op_darkIn Rel := by
  intro n S R a0 hn h
  unfold f_X6_darkIn f_X7_darkIn
  rcases is_house h a0 with ⟨h1, h2⟩ | ⟨x, hx, rfl, h1, h2⟩
  · rw [h1, h2, pu_some, pu_some, ite00, ite00]; exact ⟨_, S, R, rfl, rfl, rel_mono h (by omega)⟩
  · rw [h1, h2, pu_some, pu_some, ite10, ite10]
    obtain ⟨w, w1, w2⟩ := sp_copy (i := 1) (j := 0) (by decide) S
    have hw := w2.HK h.1
    have hxw : x < hsz w := by rw [show hsz w = hsz (S.1 0) from hsz_congr (w2 22 0 (by unfold inR; omega))]; exact hx
    have hp := sp_hoursMet (p := x) (L := 200) (c := 1000 * n) (by decide) 200 0 fuel (100 * n) w (by decide) (fuel_gt (by decide)) hxw hw.1 hw.2.1 (by omega)
    have hc := sr_copy (k1 := 0) (k3 := 1) (by decide) R (a := 0) (b := 0) (by decide) (by decide) (by decide) (by decide)
    have hv1 : RV w (cpR R 0 1 0 0 198) := fun k j hr => by
      rw [cpR_ne _ _ (by decide)]
      exact hw.2.2 k j hr
    obtain ⟨R', b1, b2⟩ := sr_firstDark (p := x) (L := 200) (c := 1000 * n) (by decide) 200 0 fuel (100 * n) w (cpR R 0 1 0 0 198) (by decide) (fuel_gt (by decide)) hxw hw.1 hw.2.1 (by omega) hv1
    have hle := (hm_le x 200 0 w).2
    refine ⟨if (hm x 200 0 w).1 = 200 then -1000001 else nI (hm x 200 0 w).1, setV S 1 (hm x 200 0 w).2, cpR R' 1 0 0 0 198, ?_, ?_, rel_back h (by omega) _ (bk_of b2)⟩
    · rw [w1, pu_some, setV_at]
      unfold f_X5_hoursMet
      rw [show (0 : Int32) = nI 0 from rfl, show (200 : Int32) = nI 200 from rfl, hp, pu_some, pu_let, setV_up]
      by_cases hc : (hm x 200 0 w).1 = 200
      · rw [if_pos hc, hc, if_pos (nI_le (Nat.le_refl _) (by decide))]
      · rw [if_neg hc, if_neg (fun z => hc (by have := (nI_leI (by omega) (by omega)).mp z; omega))]
    · rw [show (0 : Int32) = nI 0 from rfl, hc, pu_some]
      unfold f_X7_firstDark
      rw [show (200 : Int32) = nI 200 from rfl, show (0 : Int32) = nI 0 from rfl]
      rw [show nI 0 = (0 : Int32) from rfl] at b1
      rw [nI_0, b1, pu_some]
