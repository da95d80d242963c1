/-! THE LAW'S HOUR: shedding -/
/-- the class's village behind wanting, with some feeders off and the turn t -/
def shv (v : VS) (b1 b2 : Bool) (t : Nat) : VS := fun k j => if k = 9 ∧ j < hsz v then wtO v b1 b2 j else if k = 8 ∧ j < hsz v then cdr (v 4 j) (v 1 j) (v 3 j) (v 17 0) else if k = 20 ∧ j < 3 then (if bt b1 b2 j = true then 1 else 0) else if k = 19 ∧ j < 3 then v 19 j + (if bt b1 b2 j = true then 1 else 0) else if k = 22 ∧ j = 4 then nI t else v k j
theorem shv_same (v : VS) (b1 b2 : Bool) (t : Nat) {k j : Nat} (h : k ≠ 9 ∧ k ≠ 8 ∧ k ≠ 20 ∧ k ≠ 19 ∧ ¬ (k = 22 ∧ j = 4)) : shv v b1 b2 t k j = v k j := by
  unfold shv
  rw [if_neg (fun z => h.1 z.1), if_neg (fun z => h.2.1 z.1), if_neg (fun z => h.2.2.1 z.1), if_neg (fun z => h.2.2.2.1 z.1), if_neg h.2.2.2.2]
theorem shv_9 (v : VS) (b1 b2 : Bool) (t : Nat) {j : Nat} (h : j < hsz v) : shv v b1 b2 t 9 j = wtO v b1 b2 j := by
  unfold shv
  rw [if_pos ⟨rfl, h⟩]
theorem shv_8 (v : VS) (b1 b2 : Bool) (t : Nat) {j : Nat} (h : j < hsz v) : shv v b1 b2 t 8 j = cdr (v 4 j) (v 1 j) (v 3 j) (v 17 0) := by
  unfold shv
  rw [if_neg (by omega), if_pos ⟨rfl, h⟩]
theorem shv_20 (v : VS) (b1 b2 : Bool) (t : Nat) {j : Nat} (h : j < 3) : shv v b1 b2 t 20 j = if bt b1 b2 j = true then 1 else 0 := by
  unfold shv
  rw [if_neg (by omega), if_neg (by omega), if_pos ⟨rfl, h⟩]
theorem shv_19 (v : VS) (b1 b2 : Bool) (t : Nat) {j : Nat} (h : j < 3) : shv v b1 b2 t 19 j = v 19 j + (if bt b1 b2 j = true then 1 else 0) := by
  unfold shv
  rw [if_neg (by omega), if_neg (by omega), if_neg (by omega), if_pos ⟨rfl, h⟩]
theorem shv_t (v : VS) (b1 b2 : Bool) (t : Nat) : shv v b1 b2 t 22 4 = nI t := by
  unfold shv
  rw [if_neg (by omega), if_neg (by omega), if_neg (by omega), if_neg (by omega), if_pos ⟨rfl, rfl⟩]
theorem shv_hsz (v : VS) (b1 b2 : Bool) (t : Nat) : hsz (shv v b1 b2 t) = hsz v := hsz_congr (shv_same v b1 b2 t (by omega))
theorem bt_ff (f : Nat) : bt false false f = false := by
  unfold bt
  split
  · rfl
  · split <;> rfl
theorem shv_begin {v : VS} (g : GA v) : rs0 (v1S v) = shv v false false (trn v) := by
  have ht := trn_of g
  refine vs_ext fun k j => ?_
  unfold shv wtO
  simp only [bt_ff, Bool.false_eq_true, if_false, Int32.add_zero]
  unfold rs0 v1S wS
  simp only [pu_wn]
  by_cases h20 : k = 20
  · subst h20
    rw [if_neg (show ¬ (20 = 9 ∧ j < hsz v) by omega), if_neg (show ¬ (20 = 8 ∧ j < hsz v) by omega)]
    by_cases hj : j < 3
    · rw [if_pos (show 20 = 20 ∧ j < 3 from ⟨rfl, hj⟩)]
      rcases (show j = 0 ∨ j = 1 ∨ j = 2 by omega) with rfl | rfl | rfl <;> rfl
    · rw [if_neg (show ¬ (20 = 20 ∧ j < 3) by omega), if_neg (by omega), if_neg (by omega), if_neg (by omega), if_neg (by omega), if_neg (by omega), if_neg (by omega)]
  · rw [if_neg (fun z => h20 z.1), if_neg (fun z => h20 z.1), if_neg (fun z => h20 z.1), if_neg (show ¬ (k = 20 ∧ j < 3) from fun z => h20 z.1)]
    by_cases h9 : k = 9 ∧ j < hsz v
    · rw [if_pos h9, if_pos ⟨Or.inr h9.1, h9.2⟩]
    · rw [if_neg h9]
      by_cases h8 : k = 8 ∧ j < hsz v
      · rw [if_pos h8, if_pos ⟨Or.inl h8.1, h8.2⟩]
      · rw [if_neg h8, if_neg (fun z => z.1.elim (fun e => h8 ⟨e, z.2⟩) (fun e => h9 ⟨e, z.2⟩))]
        by_cases h19 : k = 19 ∧ j < 3
        · rw [if_pos h19, h19.1]
        · rw [if_neg h19]
          by_cases h22 : k = 22 ∧ j = 4
          · rw [if_pos h22, h22.1, h22.2, ht.2]
          · rw [if_neg h22]
def wsF (v : VS) (b1 b2 : Bool) (x : Int32) : Int32 := smF (fun j => if x < 0 ∨ v 0 j = x then wtO v b1 b2 j else 0) 0 (hsz v) 0
theorem wsum_shv (v : VS) (b1 b2 : Bool) (t : Nat) : wsum (shv v b1 b2 t) = wsF v b1 b2 (-1) := by
  unfold wsum wsF
  rw [shv_hsz]
  refine smF_congr _ _ _ (fun j _ hj => ?_)
  rw [shv_9 v b1 b2 t (by omega), if_pos (Or.inl (by decide))]
theorem shv_sum (v : VS) (b1 b2 : Bool) {t : Nat} (ht : t = 1 ∨ t = 2) : smF (ofF (shv v b1 b2 t) (nI t) (shv v b1 b2 t 9)) 0 (hsz v) 0 = wsF v b1 b2 (nI t) := by
  unfold wsF
  refine smF_congr _ _ _ (fun j _ hj => ?_)
  unfold ofF
  rw [shv_same v b1 b2 t (k := 0) (by omega), shv_9 v b1 b2 t (by omega)]
  have hn : ¬ nI t < 0 := nI_pos (by omega)
  by_cases h : v 0 j = nI t
  · rw [if_pos h, if_pos (Or.inr h)]
  · rw [if_neg h, if_neg (fun z => z.elim hn h)]
theorem shv_shed {v : VS} (gf : GF v) {b1 b2 : Bool} {t : Nat} (ht : t = 1 ∨ t = 2) (hb : bt b1 b2 t = false) : shS (shv v b1 b2 t) = if wsF v b1 b2 (nI t) ≤ 0 then shv v b1 b2 (3 - t) else shv v (b1 || decide (t = 1)) (b2 || decide (t = 2)) (3 - t) := by
  have etr : trn (shv v b1 b2 t) = t := by
    unfold trn
    rw [shv_t, nI_clamp (by omega)]
  have eb : ∀ f, bt (b1 || decide (t = 1)) (b2 || decide (t = 2)) f = (bt b1 b2 f || decide (f = t)) := fun f => by
    unfold bt
    by_cases f1 : f = 1
    · subst f1
      rw [if_pos rfl, if_pos rfl]
      rcases ht with rfl | rfl <;> simp
    · rw [if_neg f1, if_neg f1]
      by_cases f2 : f = 2
      · subst f2
        rw [if_pos rfl, if_pos rfl]
        rcases ht with rfl | rfl <;> simp
      · rw [if_neg f2, if_neg f2, show decide (f = t) = false from decide_eq_false (by omega)]; rfl
  unfold shS shW
  rw [etr, shv_t, shv_hsz, shv_sum v b1 b2 ht]
  by_cases hc : wsF v b1 b2 (nI t) ≤ 0
  · rw [if_pos hc, if_pos hc]
    refine vs_ext fun k j => ?_
    rw [pu_wn]
    unfold shv
    by_cases h22 : k = 22 ∧ j = 4
    · rw [if_pos h22, if_neg (by omega), if_neg (by omega), if_neg (by omega), if_neg (by omega), if_pos h22]
    · rw [if_neg h22, if_neg h22, if_neg h22]
  · rw [if_neg hc, if_neg hc]
    refine vs_ext fun k j => ?_
    simp only [pu_wn, nS]
    by_cases h22 : k = 22 ∧ j = 4
    · rw [if_pos h22, h22.1, h22.2, shv_t]
    · rw [if_neg h22]
      by_cases h19 : k = 19 ∧ j = t
      · rw [if_pos h19, h19.1, h19.2, shv_19 v b1 b2 t (by omega), shv_19 v _ _ _ (by omega), hb, eb, hb, decide_eq_true rfl, if_neg (by decide), if_pos (by decide), Int32.add_zero]
      · rw [if_neg h19]
        by_cases h20 : k = 20 ∧ j = t
        · rw [if_pos h20, h20.1, h20.2, shv_20 v _ _ _ (by omega), eb, hb, decide_eq_true rfl, if_pos (by decide)]
        · rw [if_neg h20]
          by_cases h9 : k = 9 ∧ j < hsz v
          · rw [h9.1, shv_9 v _ _ _ h9.2, shv_9 v _ _ _ h9.2, shv_same v b1 b2 t (k := 0) (by omega), (gf j h9.2).2]
            unfold wtO
            rw [eb]
            have hfe := (gf j h9.2).1
            by_cases hft : fe v j = t
            · rw [if_pos ⟨rfl, h9.2, by rw [hft]⟩, decide_eq_true hft, Bool.or_true, if_pos rfl]
            · rw [if_neg (fun z => hft ((nI_eq (by omega) (by omega)).mp z.2.2)), decide_eq_false hft, Bool.or_false]
          · rw [if_neg (show ¬ (k = 9 ∧ j < hsz v ∧ shv v b1 b2 t 0 j = nI t) from fun z => h9 ⟨z.1, z.2.1⟩)]
            unfold shv
            rw [if_neg h9, if_neg h9]
            by_cases h8 : k = 8 ∧ j < hsz v
            · rw [if_pos h8, if_pos h8]
            · rw [if_neg h8, if_neg h8, eb]
              by_cases h203 : k = 20 ∧ j < 3
              · rw [if_pos h203, if_pos h203, show decide (j = t) = false from decide_eq_false (fun e => h20 ⟨h203.1, e⟩), Bool.or_false]
              · rw [if_neg h203, if_neg h203]
                by_cases h193 : k = 19 ∧ j < 3
                · rw [if_pos h193, if_pos h193, show decide (j = t) = false from decide_eq_false (fun e => h19 ⟨h193.1, e⟩), Bool.or_false]
                · rw [if_neg h193, if_neg h193, if_neg h22, if_neg h22]
/-- the law's two rounds -/
theorem sl_turn {v R : VS} (h : VL v R) (s : SM v) (t : Nat) : VL (wn v 22 4 (nI t)) (wn R 0 3 (nI t)) := VL.put h s (k := 22) (j := 4) rfl rfl (Or.inr (Or.inr (Or.inr (Or.inr (Or.inr (Or.inr (Or.inr ⟨rfl, by decide⟩))))))) (Or.inr (by decide))
theorem wn_wn (v : VS) (k j : Nat) (x y : Int32) : wn (wn v k j x) k j y = wn v k j y := by
  refine vs_ext fun a b => ?_
  simp only [pu_wn]
  split <;> rfl
theorem wn_same (v : VS) (k j : Nat) : wn v k j (v k j) = v := by
  refine vs_ext fun a b => ?_
  rw [pu_wn]
  by_cases h : a = k ∧ b = j
  · rw [if_pos h, h.1, h.2]
  · rw [if_neg h]
theorem trn_GA {v : VS} (g : GA v) {t : Nat} (ht : t = 1 ∨ t = 2) : GA (wn v 22 4 (nI t)) := g.congr (fun j hj => by rw [pu_wn_j _ _ _ _ (by omega)]) ⟨hrz v, g.2.2.2.2.2.2.2.2.1, by rw [pu_wn_j _ _ _ _ (by decide)]; exact g.2.2.2.2.2.2.2.1⟩ (by rw [pu_wn_s]; rcases ht with rfl | rfl <;> simp)
theorem trn_hsz (v : VS) (x : Int32) : hsz (wn v 22 4 x) = hsz v := hsz_congr (pu_wn_j _ _ _ _ (by decide))
theorem trn_GH {v : VS} (gh : GH v) (x : Int32) : GH (wn v 22 4 x) := fun j hj => by
  rw [trn_hsz] at hj
  have := gh j hj
  rw [pu_wn_k _ _ _ _ (by decide), pu_wn_k _ _ _ _ (by decide), pu_wn_k _ _ _ _ (by decide), pu_wn_k _ _ _ _ (by decide), pu_wn_k _ _ _ _ (by decide), pu_wn_k _ _ _ _ (by decide)]
  exact this
theorem trn_SM {v : VS} (s : SM v) (x : Int32) : SM (wn v 22 4 x) := s.congr fun j hj => by rw [pu_wn_j _ _ _ _ (by omega)]
theorem trn_ws (v : VS) (b1 b2 : Bool) (y x : Int32) : wsF (wn v 22 4 y) b1 b2 x = wsF v b1 b2 x := by
  unfold wsF
  rw [trn_hsz]
  refine smF_congr _ _ _ (fun j _ _ => ?_)
  have e : ∀ k, k ≠ 22 → (wn v 22 4 y) k j = v k j := fun k hk => pu_wn_k _ _ _ _ hk
  unfold wtO fe
  rw [e 0 (by decide), e 4 (by decide), e 1 (by decide), e 3 (by decide), pu_wn_k v (k := 22) (k' := 17) 4 y 0 (by decide)]
theorem sl_wantsT {v R : VS} (s : SM v) (g : GA v) (gh : GH v) {t : Nat} (ht : t = 1 ∨ t = 2) (h : VL (wn v 22 4 (nI t)) R) (b1 b2 : Bool) (x : Int32) : f_L_wants R x (nI (mk2 b1 b2)) = some (wsF v b1 b2 x) := by
  rw [sl_wants h (trn_SM s _) (trn_GA g ht) (trn_GH gh _) b1 b2 x]
  exact congrArg some (trn_ws v b1 b2 (nI t) x)
theorem sl_shed1 {v R : VS} (s : SM v) (g : GA v) (gh : GH v) {b1 b2 : Bool} {t : Nat} (ht : t = 1 ∨ t = 2) (h : VL (wn v 22 4 (nI t)) R) (x5 av : Int32) {n k : Nat} (hk : k < 2) : f_L_hour_35 x5 av (n + 1) (nI (mk2 b1 b2)) (nI k) R = if wsF v b1 b2 (-1) ≤ av then f_L_hour_98 R x5 av (nI (mk2 b1 b2)) else f_L_hour_35 x5 av n (if wsF v b1 b2 (nI t) ≤ 0 then nI (mk2 b1 b2) else nI (mk2 (b1 || decide (t = 1)) (b2 || decide (t = 2)))) (nI (k + 1)) (wn R 0 3 (nI (3 - t))) := by
  have e3 : rd R 0 (3 : Int32) = nI t := by
    refine (pu_rd (i := 3) (by decide)).trans ?_
    rw [rl_3 h, pu_wn_s]
  have i3 : inb (3 : Int32) 20 = true := pu_inb (i := 3) (by decide) (by decide)
  have w3 : ∀ x, wr R 0 (3 : Int32) x = wn R 0 3 x := fun x => pu_wr (i := 3) (by decide)
  have k77 : ∀ m, f_L_hour_77 (f_L_hour_35 x5 av n) R x5 av m (nI k) = f_L_hour_35 x5 av n m (nI (k + 1)) (wn R 0 3 (nI (3 - t))) := fun m => by
    unfold f_L_hour_77 f_L_hour_91
    rw [i3, pu_bnd, e3]
    rcases ht with rfl | rfl
    · rw [if_pos (by decide), pu_bnd, pu_let, pu_let, w3, nI_1]; rfl
    · rw [if_neg (by decide), pu_bnd, pu_let, pu_let, w3, nI_1]; rfl
  have h2 : ¬ (2 : Int32) ≤ nI k := nI_ge (b := 2) hk (by decide)
  rw [f_L_hour_35, if_neg h2, sl_wantsT s g gh ht h, pu_some]
  by_cases c : wsF v b1 b2 (-1) ≤ av
  · rw [if_pos c, if_pos c]
  · rw [if_neg c, if_neg c, i3, pu_bnd, e3, sl_wantsT s g gh ht h, pu_some, pu_bnd]
    by_cases c2 : wsF v b1 b2 (nI t) ≤ 0
    · rw [if_pos c2, if_pos c2, k77]
    · rw [if_neg c2, if_neg c2, pu_let, bt_or b1 b2 ht, k77]
theorem sl_shed {v R : VS} (h : VL v R) (s : SM v) (g : GA v) (gh : GH v) (x5 av : Int32) : ∃ b1 b2 t, (t = 1 ∨ t = 2) ∧ f_L_hour_35 x5 av fuel 0 0 R = f_L_hour_98 (wn R 0 3 (nI t)) x5 av (nI (mk2 b1 b2)) ∧ sh2 (rs0 (v1S v)) av = shv v b1 b2 t := by
  have gf := GF.of gh
  obtain ⟨ht, et⟩ := trn_of g
  have ht' : 3 - trn v = 1 ∨ 3 - trn v = 2 := by omega
  have eR : wn R 0 3 (nI (trn v)) = R := by
    rw [← et, ← rl_3 h, wn_same]
  have h0 : VL (wn v 22 4 (nI (trn v))) R := by rw [← et, wn_same]; exact h
  have h1 : ∀ t, VL (wn v 22 4 (nI t)) (wn R 0 3 (nI t)) := fun t => sl_turn h s t
  obtain ⟨n, hn⟩ : ∃ n, fuel = n + 1 + 1 + 1 := ⟨99997, rfl⟩
  have s1 := sl_shed1 s g gh (b1 := false) (b2 := false) ht h0 x5 av (n := n + 1 + 1) (k := 0) (by decide)
  have e0 : f_L_hour_35 x5 av fuel 0 0 R = f_L_hour_35 x5 av (n + 1 + 1 + 1) (nI (mk2 false false)) (nI 0) R := by rw [hn]; rfl
  rw [e0, s1]
  unfold sh2
  rw [shv_begin g, wsum_shv]
  by_cases c1 : wsF v false false (-1) ≤ av
  · rw [if_pos c1, if_pos c1]
    exact ⟨false, false, trn v, ht, by rw [eR], rfl⟩
  · rw [if_neg c1, if_neg c1]
    obtain ⟨b1, b2, eb, ebt, esh⟩ : ∃ b1 b2, (if wsF v false false (nI (trn v)) ≤ 0 then nI (mk2 false false) else nI (mk2 (false || decide (trn v = 1)) (false || decide (trn v = 2)))) = nI (mk2 b1 b2) ∧ bt b1 b2 (3 - trn v) = false ∧ shS (shv v false false (trn v)) = shv v b1 b2 (3 - trn v) := by
      rw [shv_shed gf ht (bt_ff _)]
      by_cases c : wsF v false false (nI (trn v)) ≤ 0
      · exact ⟨false, false, by rw [if_pos c], bt_ff _, by rw [if_pos c]⟩
      · refine ⟨_, _, by rw [if_neg c], ?_, by rw [if_neg c]⟩
        rcases ht with e | e <;> rw [e] <;> decide
    rw [eb, esh, wsum_shv]
    have s2 := sl_shed1 s g gh (b1 := b1) (b2 := b2) ht' (h1 (3 - trn v)) x5 av (n := n + 1) (k := 1) (by decide)
    rw [s2]
    by_cases c2 : wsF v b1 b2 (-1) ≤ av
    · rw [if_pos c2, if_pos c2]
      exact ⟨b1, b2, 3 - trn v, ht', rfl, rfl⟩
    · rw [if_neg c2, if_neg c2, shv_shed gf ht' ebt]
      have e33 : 3 - (3 - trn v) = trn v := by omega
      rw [e33, wn_wn]
      have fin : ∀ m, f_L_hour_35 x5 av (n + 1) m (nI (1 + 1)) (wn R 0 3 (nI (trn v))) = f_L_hour_98 (wn R 0 3 (nI (trn v))) x5 av m := fun m => by
        rw [f_L_hour_35, if_pos (by decide)]
      rw [fin]
      by_cases c3 : wsF v b1 b2 (nI (3 - trn v)) ≤ 0
      · rw [if_pos c3, if_pos c3]
        exact ⟨b1, b2, trn v, ht, rfl, rfl⟩
      · rw [if_neg c3, if_neg c3]
        exact ⟨_, _, trn v, ht, rfl, rfl⟩
