/-! the class's side, as proved for the whole claim -/
theorem smF_nat {f : Nat → Int32} {m : Nat} : ∀ (d i a : Nat), (∀ j, i ≤ j → j < i + d → ∃ w, w ≤ m ∧ f j = nI w) → ∃ S, smF f i d (nI a) = nI (a + S) ∧ S ≤ m * d ∧ (S = 0 → ∀ j, i ≤ j → j < i + d → f j = 0) := by
  intro d
  induction d with
  | zero => intro i a h; exact ⟨0, rfl, by omega, fun _ j h1 h2 => by omega⟩
  | succ d ih =>
    intro i a h
    obtain ⟨w, hw, e⟩ := h i (Nat.le_refl _) (by omega)
    obtain ⟨S, e1, e2, e3⟩ := ih (i + 1) (a + w) (fun j h1 h2 => h j (by omega) (by omega))
    refine ⟨w + S, ?_, ?_, ?_⟩
    · show smF f (i + 1) d (nI a + f i) = _
      rw [e, nI_add, e1, Nat.add_assoc]
    · rw [Nat.mul_add]; omega
    · intro h0 j h1 h2
      by_cases hj : j = i
      · subst hj
        rw [e, show w = 0 by omega]
        rfl
      · exact e3 (by omega) j (by omega) (by omega)
theorem i32_nat {x : Int32} (h : 0 ≤ x.toInt) : ∃ n : Nat, x = nI n ∧ (n : Int) = x.toInt ∧ n < 2 ^ 31 := by
  have hlt := Int32.toInt_lt x
  refine ⟨x.toInt.toNat, ?_, by omega, by omega⟩
  refine Int32.toInt_inj.mp ?_
  rw [nI_toInt (by omega)]
  omega
theorem jmin_nI {a b : Nat} (ha : a < 2 ^ 31) (hb : b < 2 ^ 31) : jmin (nI a) (nI b) = nI (min a b) := by
  unfold jmin
  by_cases h : b < a
  · rw [if_pos ((nI_ltI hb ha).mpr h), Nat.min_eq_right (by omega)]
  · rw [if_neg (fun z => h ((nI_ltI hb ha).mp z)), Nat.min_eq_left (by omega)]
theorem jmin_le (x y : Int32) : jmin x y = if x ≤ y then x else y := by
  unfold jmin
  by_cases h : x ≤ y
  · rw [if_pos h, if_neg (by rw [Int32.lt_iff_toInt_lt]; rw [Int32.le_iff_toInt_le] at h; omega)]
  · rw [if_neg h, if_pos (by rw [Int32.lt_iff_toInt_lt]; rw [Int32.le_iff_toInt_le] at h; omega)]
theorem jmin_ge (x y : Int32) : jmin x y = if y ≤ x then y else x := by
  unfold jmin
  by_cases h : y < x
  · rw [if_pos h, if_pos (by rw [Int32.le_iff_toInt_le]; rw [Int32.lt_iff_toInt_lt] at h; omega)]
  · rw [if_neg h]
    by_cases h2 : y ≤ x
    · rw [if_pos h2]
      refine Int32.toInt_inj.mp ?_
      rw [Int32.le_iff_toInt_le] at h2
      rw [Int32.lt_iff_toInt_lt] at h
      omega
    · rw [if_neg h2]
theorem jmax0 (x : Int32) : jmax 0 x = if 0 ≤ x then x else 0 := by
  unfold jmax
  by_cases h : 0 < x
  · rw [if_pos h, if_pos (by rw [Int32.le_iff_toInt_le]; rw [Int32.lt_iff_toInt_lt] at h; omega)]
  · rw [if_neg h]
    by_cases h2 : 0 ≤ x
    · rw [if_pos h2]
      refine Int32.toInt_inj.mp ?_
      rw [Int32.le_iff_toInt_le] at h2
      rw [Int32.lt_iff_toInt_lt] at h
      omega
    · rw [if_neg h2]
/-- what a house can draw: between nothing and its demand, and no more than credit and overdraft -/
theorem cdr_nat {cr cn od : Int32} {d : Nat} (hd : d ≤ 50) : ∃ w, w ≤ d ∧ cdr cr (nI d) cn od = nI w ∧ (w = 0 ∨ (w : Int) ≤ (cr + od).toInt) := by
  unfold cdr
  by_cases hc : cn = 0
  · rw [if_pos hc]; exact ⟨0, by omega, rfl, Or.inl rfl⟩
  · rw [if_neg hc, jmax0]
    unfold jmin
    have hdI : (nI d).toInt = d := nI_toInt (by omega)
    by_cases hx : cr + od < nI d
    · rw [if_pos hx]
      by_cases h0 : 0 ≤ cr + od
      · rw [if_pos h0]
        rw [Int32.le_iff_toInt_le] at h0
        rw [Int32.lt_iff_toInt_lt] at hx
        obtain ⟨n, e1, e2, e3⟩ := i32_nat h0
        refine ⟨n, by omega, e1, Or.inr (by omega)⟩
      · rw [if_neg h0]; exact ⟨0, by omega, rfl, Or.inl rfl⟩
    · rw [if_neg hx]
      have h0 : 0 ≤ nI d := by rw [Int32.le_iff_toInt_le, hdI]; show (0 : Int) ≤ d; omega
      rw [if_pos h0]
      rw [Int32.lt_iff_toInt_lt] at hx
      exact ⟨d, Nat.le_refl _, rfl, Or.inr (by omega)⟩
def GW (v : VS) : Prop := ∀ j, j < hsz v → ∃ w, w ≤ 50 ∧ v 9 j = nI w
theorem v1S_GW {v : VS} (gh : GH v) : GW (v1S v) := fun j hj => by
  have hj' : j < hsz v := by rw [show hsz (v1S v) = hsz v from hsz_congr (v1S_same v (by decide))] at hj; exact hj
  obtain ⟨_, ⟨d, hd, ed⟩, _⟩ := gh j hj'
  unfold v1S wS
  rw [if_pos ⟨Or.inr rfl, hj'⟩]
  obtain ⟨w, h1, h2, _⟩ := cdr_nat (cr := v 4 j) (cn := v 3 j) (od := v 17 0) hd
  exact ⟨w, by omega, by show cdr (v 4 j) (v 1 j) (v 3 j) (v 17 0) = _; rw [ed]; exact h2⟩
theorem rs0_GW {v : VS} (h : GW v) : GW (rs0 v) := fun j hj => by
  rw [rs0_same v (by decide)]
  exact h j (by rw [show hsz (rs0 v) = hsz v from hsz_congr (rs0_same v (by decide))] at hj; exact hj)
theorem shS9 (v : VS) (j : Nat) : shS v 9 j = v 9 j ∨ shS v 9 j = 0 := by
  unfold shS shW
  rw [pu_wn_k _ _ _ _ (by decide)]
  split
  · exact Or.inl rfl
  · rw [pu_wn_k _ _ _ _ (by decide), pu_wn_k _ _ _ _ (by decide)]
    unfold nS
    split
    · exact Or.inr rfl
    · exact Or.inl rfl
theorem shS_GW {v : VS} (g : GA v) (h : GW v) : GW (shS v) := fun j hj => by
  rw [shS_hsz g] at hj
  rcases shS9 v j with e | e <;> rw [e]
  · exact h j hj
  · exact ⟨0, by omega, rfl⟩
theorem sh2_GW {v : VS} (g : GA v) (h : GW v) (av : Int32) : GW (sh2 v av) := by
  unfold sh2
  split
  · exact h
  · split
    · exact shS_GW g h
    · exact shS_GW (shS_GA g) (shS_GW g h)
theorem v2S_GW {v : VS} (g : GA v) (gh : GH v) : GW (v2S v) := sh2_GW (rs0_GA (v1S_GA g)) (rs0_GW (v1S_GW gh)) _
theorem PP_step {v : VS} {f i : Nat} (hi : i < hsz v) (hc : fe v i = f) (j : Nat) : PP v f (i + 1) j = (PP v f i j || decide (j = i)) := by
  unfold PP
  rw [← Bool.decide_or]
  refine decide_eq_decide.mpr ?_
  constructor
  · intro h; by_cases hj : j = i
    · exact Or.inr hj
    · exact Or.inl (by omega)
  · rintro (h | h)
    · omega
    · subst h; omega
theorem PP_skip {v : VS} {f i : Nat} (hc : ¬ fe v i = f) (j : Nat) : PP v f i j = PP v f (i + 1) j := by
  unfold PP
  refine decide_eq_decide.mpr ?_
  constructor
  · intro h; omega
  · intro h
    by_cases hj : j = i
    · subst hj; omega
    · omega
theorem PP_next {v : VS} {f : Nat} (j : Nat) : PP v f (hsz v) j = PP v (f + 1) 0 j := by
  unfold PP
  refine decide_eq_decide.mpr ?_
  constructor <;> intro h <;> omega
/-- charging the batteries -/
theorem div_fit {c cap e a : Nat} (hc : c ≤ cap) (he : 0 < e) : c + a * e / 100 ≤ cap ↔ a ≤ ((cap - c) * 100 + 99) / e := by
  rw [Nat.le_div_iff_mul_le he]
  have := Nat.div_add_mod (a * e) 100
  have := Nat.mod_lt (a * e) (by decide : 100 > 0)
  omega
def tkN (v : VS) (b x : Nat) : Nat := min ((((v 13 b).toNatClampNeg - (v 16 b).toNatClampNeg) * 100 + 99) / (v 15 b).toNatClampNeg) (min (v 14 b).toNatClampNeg x)
theorem tk0_nat {v : VS} (gb : GB v) {b : Nat} (hb : b < 2) {x : Nat} (hx : x < 2 ^ 31) : tk0 v b (nI x) = nI (tkN v b x) ∧ tkN v b x ≤ x ∧ tkN v b x ≤ 100 := by
  obtain ⟨c, r, e, g, h1, h2, h3, h4, h5, e1, e2, e3, e4⟩ := gb b hb
  have hN : tkN v b x = min (((c - g) * 100 + 99) / e) (min r x) := by
    unfold tkN
    rw [e1, e2, e3, e4, nI_clamp (by omega), nI_clamp (by omega), nI_clamp (by omega), nI_clamp (by omega)]
  have hd : ((c - g) * 100 + 99) / e ≤ (c - g) * 100 + 99 := Nat.div_le_self _ _
  refine ⟨?_, ?_, ?_⟩
  · rw [hN]
    unfold tk0
    rw [e1, e2, e3, e4, if_neg (by rw [show (0 : Int32) = nI 0 from rfl, nI_leI (by omega) (by omega)]; omega), pk_sub h5, show (100 : Int32) = nI 100 from rfl, show (99 : Int32) = nI 99 from rfl, pk_mul, nI_add, pk_div (by omega) (by omega) (by omega), jmin_nI (by omega) hx, jmin_nI (by omega) (by omega)]
  · rw [hN]; omega
  · rw [hN]; omega
theorem stP_same {v : VS} {b : Nat} {x : Int32} {k j : Nat} (h : ¬ (k = 16 ∧ j = b) ∧ ¬ (k = 18 ∧ j = 2)) : stP v b x k j = v k j := by
  unfold stP
  rw [pu_wn, if_neg h.2, pu_wn, if_neg h.1]
theorem stP_GB {v : VS} (gb : GB v) {b : Nat} (hb : b < 2) {x : Nat} (hx : x < 2 ^ 31) : GB (stP v b (nI x)) := by
  intro i hi
  obtain ⟨c, r, e, g, h1, h2, h3, h4, h5, e1, e2, e3, e4⟩ := gb i hi
  rw [stP_same (k := 13) (by omega), stP_same (k := 14) (by omega), stP_same (k := 15) (by omega)]
  by_cases hib : i = b
  · subst hib
    obtain ⟨t1, t2, t3⟩ := tk0_nat gb hi hx
    have hv : stP v i (nI x) 16 i = nI (g + tkN v i x * e / 100) := by
      unfold stP
      rw [pu_wn_k _ _ _ _ (by decide), pu_wn_s, t1, e3, e4]
      have hm : tkN v i x * e ≤ 100 * 100 := Nat.mul_le_mul t3 (by omega)
      rw [show (100 : Int32) = nI 100 from rfl, pk_mul, pk_div (by omega) (by omega) (by omega), nI_add]
    refine ⟨c, r, e, g + tkN v i x * e / 100, h1, h2, h3, h4, ?_, e1, e2, e3, hv⟩
    refine (div_fit h5 (by omega)).mpr ?_
    unfold tkN
    rw [e1, e2, e3, e4, nI_clamp (by omega), nI_clamp (by omega), nI_clamp (by omega), nI_clamp (by omega)]
    omega
  · rw [stP_same (by omega)]
    exact ⟨c, r, e, g, h1, h2, h3, h4, h5, e1, e2, e3, e4⟩
theorem pv_let {α β : Type} (e : α) (f : α → β) : letv e f = f e := (rfl)
theorem pt_nat {v : VS} {u a : Nat} (hu : u ≤ 50) (ha : a < 2 ^ 20) : ∃ p, pt v (nI u) (nI a) = nI p ∧ p ≤ a ∧ p ≤ u := by
  unfold pt
  by_cases h : nI a < nI u
  · rw [if_pos h]
    have := (nI_ltI (by omega) (by omega)).mp h
    by_cases h2 : nI a * 100 < nI u * v 17 3
    · rw [if_pos h2]; exact ⟨0, rfl, by omega, by omega⟩
    · rw [if_neg h2]; exact ⟨a, rfl, by omega, by omega⟩
  · rw [if_neg h]
    have : ¬ a < u := fun z => h ((nI_ltI (by omega) (by omega)).mpr z)
    exact ⟨u, rfl, by omega, by omega⟩
def GB9 (v : VS) (w : Nat → Int32) : Prop := ∀ j, j < hsz v → ∃ p u, p ≤ u ∧ u ≤ 50 ∧ w j = nI p ∧ v 9 j = nI u
theorem sv1_nat {v : VS} (gw : GW v) (f : Nat) : ∀ (d i a : Nat) (w : Nat → Int32), i + d = hsz v → a < 2 ^ 20 → GB9 v w → ∃ a', a' ≤ a ∧ (sv1 v f i d (nI a, w)).1 = nI a' ∧ GB9 v (sv1 v f i d (nI a, w)).2 := by
  intro d
  induction d with
  | zero => intro i a w hi ha hb; exact ⟨a, Nat.le_refl _, rfl, hb⟩
  | succ d ih =>
    intro i a w hi ha hb
    obtain ⟨u, hu, eu⟩ := gw i (by omega)
    obtain ⟨p, e1, e2, e3⟩ := pt_nat (v := v) hu ha
    show ∃ a', a' ≤ a ∧ (sv1 v f (i + 1) d _).1 = nI a' ∧ GB9 v (sv1 v f (i + 1) d _).2
    by_cases hc : fe v i = f
    · rw [if_pos hc]
      obtain ⟨a', b1, b2, b3⟩ := ih (i + 1) (a - p) (upd w i (nI p)) (by omega) (by omega) (fun j hj => by
        by_cases hji : j = i
        · subst hji
          exact ⟨p, u, e3, hu, by simp [upd], eu⟩
        · obtain ⟨p', u', q1, q2, q3, q4⟩ := hb j hj
          exact ⟨p', u', q1, q2, by simp [upd, hji, q3], q4⟩)
      refine ⟨a', by omega, ?_⟩
      rw [eu, e1, pk_sub e2]
      exact ⟨b2, b3⟩
    · rw [if_neg hc]
      exact ih (i + 1) a w (by omega) ha hb
theorem svAll_nat {v : VS} (gw : GW v) {a : Nat} (ha : a < 2 ^ 20) : ∃ a', a' ≤ a ∧ (svAll v (nI a)).1 = nI a' ∧ GB9 v (svAll v (nI a)).2 := by
  have b0 : GB9 v (fun _ => 0) := fun j hj => by
    obtain ⟨u, hu, eu⟩ := gw j hj
    exact ⟨0, u, by omega, hu, rfl, eu⟩
  unfold svAll
  obtain ⟨a1, h1, e1, g1⟩ := sv1_nat gw 0 (hsz v) 0 a (fun _ => 0) (by omega) ha b0
  rw [show sv1 v 0 0 (hsz v) (nI a, fun _ => 0) = (nI a1, (sv1 v 0 0 (hsz v) (nI a, fun _ => 0)).2) from Prod.ext e1 rfl]
  obtain ⟨a2, h2, e2, g2⟩ := sv1_nat gw 1 (hsz v) 0 a1 (sv1 v 0 0 (hsz v) (nI a, fun _ => 0)).2 (by omega) (by omega) g1
  rw [show sv1 v 1 0 (hsz v) (nI a1, (sv1 v 0 0 (hsz v) (nI a, fun _ => 0)).2) = (nI a2, (sv1 v 1 0 (hsz v) (nI a1, (sv1 v 0 0 (hsz v) (nI a, fun _ => 0)).2)).2) from Prod.ext e2 rfl]
  obtain ⟨a3, h3, e3, g3⟩ := sv1_nat gw 2 (hsz v) 0 a2 (sv1 v 1 0 (hsz v) (nI a1, (sv1 v 0 0 (hsz v) (nI a, fun _ => 0)).2)).2 (by omega) (by omega) g2
  exact ⟨a3, by omega, e3, g3⟩
theorem avl_nat {v : VS} (g : GA v) (gb : GB v) (gq : GQ v) : ∃ s A, s ≤ 500 ∧ s ≤ A ∧ A ≤ 700 ∧ sup v (hrz v) = nI s ∧ avl v = nI A := by
  have h1 := g.2.2.2.2.2.1
  obtain ⟨s, hs, es⟩ := gq (hrz v % qsz v) (Nat.mod_lt _ (by omega))
  obtain ⟨c, r, e, q, k1, k2, k3, k4, k5, e1, e2, e3, e4⟩ := gb 0 (by decide)
  obtain ⟨c', r', e', q', l1, l2, l3, l4, l5, f1, f2, f3, f4⟩ := gb 1 (by decide)
  refine ⟨s, s + (min q r + min q' r'), hs, by omega, by omega, es, ?_⟩
  unfold avl cgv sup
  rw [es, e2, e4, f2, f4, jmin_nI (by omega) (by omega), jmin_nI (by omega) (by omega), nI_add, nI_add]
theorem stS_same {v : VS} {x : Int32} {k j : Nat} (h : k ≠ 16 ∧ ¬ (k = 18 ∧ j = 2) ∧ ¬ (k = 18 ∧ j = 3)) : stS v x k j = v k j := by
  unfold stS
  rw [pu_wn, if_neg h.2.2, stP_same ⟨fun z => h.1 z.1, h.2.1⟩, stP_same ⟨fun z => h.1 z.1, h.2.1⟩]
theorem gvS_same {v : VS} {x : Int32} {k j : Nat} (h : k ≠ 16) : gvS v x k j = v k j := by
  unfold gvS
  rw [pu_wn_k _ _ _ _ h, pu_wn_k _ _ _ _ h]
theorem v5S_same (v : VS) {k j : Nat} (h : k ≠ 16 ∧ k ≠ 18) : v5S v k j = v3S v k j := by
  have e4 : v4S v k j = v3S v k j := by
    unfold v4S
    rw [pu_wn_k _ _ _ _ h.2, pu_wn_k _ _ _ _ h.2]
  unfold v5S
  split
  · rw [stS_same (by omega), e4]
  · rw [gvS_same (by omega), e4]
theorem PH_v3 (v : VS) {k j : Nat} (h : k ≠ 16 ∧ k ≠ 18 ∧ ¬ (k = 22 ∧ j = 3)) : PH v k j = v3S v k j := by
  unfold PH
  rw [pu_wn, if_neg h.2.2, v5S_same v ⟨h.1, h.2.1⟩]
theorem v3S_same (v : VS) {k j : Nat} (h : k ≠ 5 ∧ k ≠ 7 ∧ k ≠ 4 ∧ k ≠ 6) : v3S v k j = v2S v k j := by
  unfold v3S
  exact SV_same (Or.inr h)
theorem PH_same (v : VS) {k j : Nat} (h : k < 4 ∨ (10 ≤ k ∧ k < 16) ∨ k = 17 ∨ k = 21 ∨ (k = 22 ∧ j < 3)) : PH v k j = v k j := by
  rw [PH_v3 v (by omega), v3S_same v (by omega), v2S_same v (by omega)]
theorem v2S_4 (v : VS) {k j : Nat} (h : k = 4 ∨ k = 1) : v2S v k j = v k j := v2S_same v (by omega)
theorem v2S_9 (v : VS) {j : Nat} (hj : j < hsz v) : v2S v 9 j = cdr (v 4 j) (v 1 j) (v 3 j) (v 17 0) ∨ v2S v 9 j = 0 := by
  have e1 : rs0 (v1S v) 9 j = cdr (v 4 j) (v 1 j) (v 3 j) (v 17 0) := by
    rw [rs0_same _ (by decide)]
    unfold v1S wS
    rw [if_pos ⟨Or.inr rfl, hj⟩]
  have s2 : ∀ w : VS, (w 9 j = cdr (v 4 j) (v 1 j) (v 3 j) (v 17 0) ∨ w 9 j = 0) → (shS w 9 j = cdr (v 4 j) (v 1 j) (v 3 j) (v 17 0) ∨ shS w 9 j = 0) := fun w hw => by
    rcases shS9 w j with e | e
    · rw [e]; exact hw
    · exact Or.inr e
  unfold v2S sh2
  split
  · exact Or.inl e1
  · split
    · exact s2 _ (Or.inl e1)
    · exact s2 _ (s2 _ (Or.inl e1))
theorem v2S_19 {v : VS} (g : GA v) : v2S v 19 0 = v 19 0 := by
  have s : ∀ w : VS, GA w → shS w 19 0 = w 19 0 := fun w gw => by
    have := trn_of gw
    unfold shS shW
    rw [pu_wn_k _ _ _ _ (by decide)]
    split
    · rfl
    · rw [pu_wn_j _ _ _ _ (by omega), pu_wn_k _ _ _ _ (by decide)]
      unfold nS
      rw [if_neg (by omega)]
  have e0 : rs0 (v1S v) 19 0 = v 19 0 := by rw [rs0_same _ (by decide), v1S_same _ (by decide)]
  have g0 := rs0_GA (v1S_GA g)
  unfold v2S sh2
  split
  · exact e0
  · split
    · rw [s _ g0, e0]
    · rw [s _ (shS_GA g0), s _ g0, e0]
theorem v2S_20 (v : VS) {f : Nat} (hf : f < 3) : ∃ x, x < 2 ∧ v2S v 20 f = nI x := by
  have s : ∀ w : VS, (∃ x, x < 2 ∧ w 20 f = nI x) → ∃ x, x < 2 ∧ shS w 20 f = nI x := fun w hw => by
    unfold shS shW
    rw [pu_wn_k _ _ _ _ (by decide)]
    split
    · exact hw
    · rw [pu_wn_k _ _ _ _ (by decide), pu_wn]
      split
      · exact ⟨1, by decide, rfl⟩
      · unfold nS
        rw [if_neg (by omega)]
        exact hw
  have e0 : ∃ x, x < 2 ∧ rs0 (v1S v) 20 f = nI x := by
    refine ⟨0, by decide, ?_⟩
    unfold rs0
    simp only [pu_wn]
    have : f = 0 ∨ f = 1 ∨ f = 2 := by omega
    rcases this with e | e | e <;> subst e <;> simp <;> rfl
  unfold v2S sh2
  split
  · exact e0
  · split
    · exact s _ e0
    · exact s _ (s _ e0)
def GN (c t : Nat) (v : VS) : Prop := (∀ h, h < hsz v → (v 4 h).toInt ≤ c) ∧ hrz v ≤ t
theorem PH_hsz (v : VS) : hsz (PH v) = hsz v := hsz_congr (PH_same v (by omega))
theorem PH_223 {v : VS} (g : GA v) : PH v 22 3 = nI (hrz v + 1) := by
  unfold PH
  rw [pu_wn_s, v5S_same v (by decide), v3S_same v (by decide), v2S_same v (by decide), g.2.2.2.2.2.2.2.1, nI_1]
theorem PH_G {v : VS} (G0 : G v) {c t : Nat} (gn : GN c t v) (ht : t < 2 ^ 29) : G (PH v) ∧ GN c (t + 1) (PH v) := by
  obtain ⟨g, gh, gl, gb, gs, gt, gq⟩ := G0
  obtain ⟨s, A, hs, hsA, hA, es, eA⟩ := avl_nat g gb gq
  obtain ⟨a', ha', ea', gb9⟩ := svAll_nat (v2S_GW g gh) (a := A) (by omega)
  have edl : dlv v = nI (A - a') := by
    unfold dlv
    rw [eA, ea', pk_sub ha']
  have hn := gn.2
  have g' : GA (PH v) := g.congr (fun j hj => PH_same v (by omega)) ⟨hrz v + 1, by omega, PH_223 g⟩ (by
    rw [PH_v3 v (by omega), v3S_same v (by omega)]
    exact (v2S_GA g).2.2.2.2.2.2.2.2.2)
  have hz : hrz (PH v) = hrz v + 1 := by
    unfold hrz
    rw [PH_223 g, nI_clamp (by omega)]
    rfl
  have hls : lsz (PH v) = lsz v := by unfold lsz; rw [PH_same v (by omega)]
  have hqs : qsz (PH v) = qsz v := by unfold qsz; rw [PH_same v (by omega)]
  have h5 : ∀ j, j < hsz v → PH v 5 j = (svAll (v2S v) (avl v)).2 j ∧ PH v 4 j = v 4 j - (svAll (v2S v) (avl v)).2 j := fun j hj => by
    rw [PH_v3 v (by omega), PH_v3 v (by omega)]
    unfold v3S SV
    rw [if_pos (decide_eq_true (by rw [v2S_hsz]; exact hj)), if_pos (decide_eq_true (by rw [v2S_hsz]; exact hj)), if_pos rfl, if_neg (by decide), if_neg (by decide), if_pos rfl, v2S_4 v (Or.inl rfl)]
    exact ⟨rfl, rfl⟩
  have hgot : ∀ j, j < hsz v → ∃ p, p ≤ 50 ∧ PH v 5 j = nI p ∧ PH v 4 j = v 4 j - nI p ∧ (p = 0 ∨ (p : Int) ≤ (v 4 j + v 17 0).toInt) := fun j hj => by
    obtain ⟨p, u, q1, q2, q3, q4⟩ := gb9 j (by rw [v2S_hsz]; exact hj)
    obtain ⟨_, ⟨d, hd, ed⟩, _⟩ := gh j hj
    rw [← eA] at q3
    refine ⟨p, by omega, by rw [(h5 j hj).1, q3], by rw [(h5 j hj).2, q3], ?_⟩
    rcases v2S_9 v hj with e | e
    · obtain ⟨w, w1, w2, w3⟩ := cdr_nat (cr := v 4 j) (cn := v 3 j) (od := v 17 0) hd
      rw [ed, w2, q4] at e
      have := (nI_eq (by omega) (by omega)).mp e
      omega
    · rw [q4] at e
      have := (nI_eq (a := u) (b := 0) (by omega) (by omega)).mp e
      omega
  obtain ⟨⟨od, hod, eod⟩, _⟩ := gs
  refine ⟨⟨g', ?_, ?_, ?_, ?_, ?_, ?_⟩, ?_, ?_⟩
  · intro j hj
    rw [PH_hsz] at hj
    obtain ⟨k1, k2, k3, k4, _, k6⟩ := gh j hj
    obtain ⟨p, p1, p2, p3, p4⟩ := hgot j hj
    rw [PH_same v (k := 0) (by omega), PH_same v (k := 1) (by omega), PH_same v (k := 2) (by omega), PH_same v (k := 3) (by omega)]
    refine ⟨k1, k2, k3, k4, ⟨p, p1, p2⟩, ?_⟩
    rw [p3]
    rcases p4 with e | e
    · rw [e, nI_0, Int32.sub_zero]; exact k6
    · have hod' : (nI od).toInt = od := nI_toInt (by omega)
      have hp' : (nI p).toInt = p := nI_toInt (by omega)
      have u1 := Int32.toInt_lt (v 4 j)
      rw [eod, Int32.toInt_add, hod'] at e
      rw [Int32.toInt_sub, hp']
      have b1 : ((v 4 j).toInt - (p : Int)).bmod (2 ^ 32) = (v 4 j).toInt - p := Int.bmod_eq_of_le (by omega) (by omega)
      rw [b1]
      by_cases hbig : (v 4 j).toInt + (od : Int) < 2 ^ 31
      · have b2 : ((v 4 j).toInt + (od : Int)).bmod (2 ^ 32) = (v 4 j).toInt + od := Int.bmod_eq_of_le (by omega) (by omega)
        rw [b2] at e
        omega
      · omega
  · intro k hk
    rw [hls] at hk
    rw [PH_hsz, PH_same v (k := 10) (by omega), PH_same v (k := 11) (by omega), PH_same v (k := 12) (by omega)]
    exact gl k hk
  · have gb4 : GB (v4S v) := fun b hb => by
      obtain ⟨c, r, e, q, l1, l2, l3, l4, l5, m1, m2, m3, m4⟩ := gb b hb
      refine ⟨c, r, e, q, l1, l2, l3, l4, l5, ?_, ?_, ?_, ?_⟩ <;>
      (unfold v4S; rw [pu_wn_k _ _ _ _ (by decide), pu_wn_k _ _ _ _ (by decide), v3S_same v (by omega), v2S_same v (by omega)]; assumption)
    have gb5 : GB (v5S v) := by
      unfold v5S
      split
      · rename_i hc
        have hle : A - a' ≤ s := by rw [edl, es] at hc; exact (nI_leI (by omega) (by omega)).mp hc
        rw [show sup v (hrz v) - dlv v = nI (s - (A - a')) by rw [edl, es, pk_sub hle]]
        have k0 := tk0_nat gb4 (by decide : 0 < 2) (x := s - (A - a')) (by omega)
        have gp0 := stP_GB gb4 (by decide : 0 < 2) (x := s - (A - a')) (by omega)
        have gp1 := stP_GB gp0 (by decide : 1 < 2) (x := s - (A - a') - tkN (v4S v) 0 (s - (A - a'))) (by omega)
        intro b hb
        obtain ⟨c, r, e, q, l1, l2, l3, l4, l5, m1, m2, m3, m4⟩ := gp1 b hb
        unfold stS
        rw [k0.1, pk_sub k0.2.1]
        refine ⟨c, r, e, q, l1, l2, l3, l4, l5, ?_, ?_, ?_, ?_⟩ <;> (rw [pu_wn_k _ _ _ _ (by decide)]; assumption)
      · rename_i hc
        have hgt : s ≤ A - a' := by
          rw [edl, es] at hc
          have : ¬ A - a' ≤ s := fun z => hc ((nI_leI (a := A - a') (b := s) (by omega) (by omega)).mpr z)
          omega
        rw [show dlv v - sup v (hrz v) = nI (A - a' - s) by rw [edl, es, pk_sub hgt]]
        obtain ⟨c, r, e, q, l1, l2, l3, l4, l5, m1, m2, m3, m4⟩ := gb4 0 (by decide)
        obtain ⟨c', r', e', q', n1, n2, n3, n4, n5, o1, o2, o3, o4⟩ := gb4 1 (by decide)
        have ec0 : cgv (v4S v) 0 = nI (min q r) := by unfold cgv; rw [m2, m4, jmin_nI (by omega) (by omega)]
        have ec1 : cgv (v4S v) 1 = nI (min q' r') := by unfold cgv; rw [o2, o4, jmin_nI (by omega) (by omega)]
        unfold gvS
        rw [ec0, ec1, jmin_nI (by omega) (by omega), pk_sub (by omega), jmin_nI (by omega) (by omega), m4, o4, pk_sub (by omega), pk_sub (by omega)]
        intro b hb
        have hb2 : b = 0 ∨ b = 1 := by omega
        rcases hb2 with hb2 | hb2 <;> subst hb2
        · refine ⟨c, r, e, q - min (A - a' - s) (min q r), l1, l2, l3, l4, by omega, ?_, ?_, ?_, ?_⟩
          · rw [pu_wn_k _ _ _ _ (by decide), pu_wn_k _ _ _ _ (by decide)]; exact m1
          · rw [pu_wn_k _ _ _ _ (by decide), pu_wn_k _ _ _ _ (by decide)]; exact m2
          · rw [pu_wn_k _ _ _ _ (by decide), pu_wn_k _ _ _ _ (by decide)]; exact m3
          · rw [pu_wn_j _ _ _ _ (by decide), pu_wn_s]
        · refine ⟨c', r', e', q' - min (A - a' - s - min (A - a' - s) (min q r)) (min q' r'), n1, n2, n3, n4, by omega, ?_, ?_, ?_, ?_⟩
          · rw [pu_wn_k _ _ _ _ (by decide), pu_wn_k _ _ _ _ (by decide)]; exact o1
          · rw [pu_wn_k _ _ _ _ (by decide), pu_wn_k _ _ _ _ (by decide)]; exact o2
          · rw [pu_wn_k _ _ _ _ (by decide), pu_wn_k _ _ _ _ (by decide)]; exact o3
          · rw [pu_wn_s]
    intro b hb
    obtain ⟨c, r, e, q, l1, l2, l3, l4, l5, m1, m2, m3, m4⟩ := gb5 b hb
    refine ⟨c, r, e, q, l1, l2, l3, l4, l5, ?_, ?_, ?_, ?_⟩ <;>
    (unfold PH; rw [pu_wn_k _ _ _ _ (by decide)]; assumption)
  · rename_i gs2
    exact ⟨⟨od, hod, by rw [PH_same v (by omega)]; exact eod⟩, fun k hk => by rw [PH_same v (by omega)]; exact gs2 k hk⟩
  · refine ⟨?_, fun f hf => ?_⟩
    · rw [PH_v3 v (by omega), v3S_same v (by omega), v2S_19 g]; exact gt.1
    · rw [PH_v3 v (by omega), v3S_same v (by omega)]; exact v2S_20 v hf
  · intro k hk
    rw [hqs] at hk
    rw [PH_same v (by omega)]
    exact gq k hk
  · intro j hj
    rw [PH_hsz] at hj
    obtain ⟨p, p1, p2, p3, p4⟩ := hgot j hj
    have := gn.1 j hj
    obtain ⟨_, _, _, _, _, k6⟩ := gh j hj
    have hp' : (nI p).toInt = p := nI_toInt (by omega)
    have u1 := Int32.toInt_lt (v 4 j)
    have b1 : ((v 4 j).toInt - (p : Int)).bmod (2 ^ 32) = (v 4 j).toInt - p := Int.bmod_eq_of_le (by omega) (by omega)
    rw [p3, Int32.toInt_sub, hp', b1]
    omega
  · rw [hz]; omega

