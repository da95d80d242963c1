/-! WHAT THE CLASS TELLS -/
def hsR (v : VS) (j k : Nat) : Int32 := if k < 5 then v k j else if k = 5 then cdr (v 4 j) (v 1 j) (v 3 j) (v 17 0) else if k = 6 then v 5 j else if k = 7 then v 6 j else if k = 8 then v 7 j else if k = 9 then smF (owF v 11 (nI j)) 0 (lsz v) 0 else smF (owF v 10 (nI j)) 0 (lsz v) 0
theorem k_house {P : PS} (g : GA (P.1 0)) {j k : Nat} (hj : j < hsz (P.1 0)) (hk : k ≤ 10) : f_X6_house P (nI j) (nI k) = some (hsR (P.1 0) j k) := by
  have h10 := g.2.1
  unfold f_X6_house
  rw [k_isHouse g hj, pu_some, ite10, show f_X6_within (nI k) 0 10 = some 1 from k_wi (a := 0) (b := 10) (Nat.zero_le _) hk (by decide), pu_some, ite10]
  have hc := sp_canDraw (v := P.1 0) (h := j) (by omega) (P.1 0 17 0)
  have ho := sp_sumOwed g (k := 11) (Or.inr rfl) (nI j)
  have hl := sp_sumOwed g (k := 10) (Or.inl rfl) (nI j)
  rcases (show k = 0 ∨ k = 1 ∨ k = 2 ∨ k = 3 ∨ k = 4 ∨ k = 5 ∨ k = 6 ∨ k = 7 ∨ k = 8 ∨ k = 9 ∨ k = 10 by omega) with e | e | e | e | e | e | e | e | e | e | e <;> subst e
  · simp (disch := omega) only [f_X2_told, f_X2_told_97, pu_lit, nI_eq, Nat.reduceEqDiff, if_true, if_false, pu_inb, pu_bnd, pu_rd, pu_some]; rfl
  · simp (disch := omega) only [f_X2_told, f_X2_told_97, pu_lit, nI_eq, Nat.reduceEqDiff, if_true, if_false, pu_inb, pu_bnd, pu_rd, pu_some]; rfl
  · simp (disch := omega) only [f_X2_told, f_X2_told_97, pu_lit, nI_eq, Nat.reduceEqDiff, if_true, if_false, pu_inb, pu_bnd, pu_rd, pu_some]; rfl
  · simp (disch := omega) only [f_X2_told, f_X2_told_97, pu_lit, nI_eq, Nat.reduceEqDiff, if_true, if_false, pu_inb, pu_bnd, pu_rd, pu_some]; rfl
  · simp (disch := omega) only [f_X2_told, f_X2_told_97, pu_lit, nI_eq, Nat.reduceEqDiff, if_true, if_false, pu_inb, pu_bnd, pu_rd, pu_some]; rfl
  · rw [if_pos (show nI 5 = (5 : Int32) from rfl), show inb (0 : Int32) 4 = true by decide, pu_bnd, show rd (P.1 0) 17 (0 : Int32) = P.1 0 17 0 from pu_rd (i := 0) (by decide), hc]; rfl
  · simp (disch := omega) only [f_X2_told, f_X2_told_97, pu_lit, nI_eq, Nat.reduceEqDiff, if_true, if_false, pu_inb, pu_bnd, pu_rd, pu_some]; rfl
  · simp (disch := omega) only [f_X2_told, f_X2_told_97, pu_lit, nI_eq, Nat.reduceEqDiff, if_true, if_false, pu_inb, pu_bnd, pu_rd, pu_some]; rfl
  · simp (disch := omega) only [f_X2_told, f_X2_told_97, pu_lit, nI_eq, Nat.reduceEqDiff, if_true, if_false, pu_inb, pu_bnd, pu_rd, pu_some]; rfl
  · unfold f_X4_owedBy
    rw [if_neg (show ¬ nI 9 = (5 : Int32) by decide), if_pos (show nI 9 = (9 : Int32) from rfl), ho]; rfl
  · unfold f_X4_owedTo
    rw [if_neg (show ¬ nI 10 = (5 : Int32) by decide), if_neg (show ¬ nI 10 = (9 : Int32) by decide), if_pos (show nI 10 = (10 : Int32) from rfl), hl]; rfl
theorem k_loan {P : PS} (g : GA (P.1 0)) {j k : Nat} (hj : j < lsz (P.1 0)) (hk : k < 3) : f_X6_loan P (nI j) (nI k) = some (P.1 0 (10 + k) j) := by
  have h12 := g.2.2.2.1
  unfold f_X6_loan f_X6_isLoan
  rw [g.2.2.1, show nI (lsz (P.1 0)) - (1 : Int32) = nI (lsz (P.1 0) - 1) from pk_sub (b := 1) (by omega), show (0 : Int32) = nI 0 from rfl, k_wi (Nat.zero_le _) (by omega) (by omega), pu_some, pu_some]
  rw [if_neg (show ¬ (1 : Int32) = nI 0 by decide), show f_X6_within (nI k) (nI 0) 2 = some 1 from k_wi (a := 0) (b := 2) (Nat.zero_le _) (by omega) (by decide), pu_some, if_neg (show ¬ (1 : Int32) = nI 0 by decide)]
  rcases (show k = 0 ∨ k = 1 ∨ k = 2 by omega) with e | e | e <;> subst e <;> (simp (disch := omega) only [f_X4_told, pu_lit, nI_eq, Nat.reduceEqDiff, if_true, if_false, pu_inb, pu_bnd, pu_rd, pu_some])
theorem k_battery (P : PS) {b k : Nat} (hb : b < 2) (hk : k < 4) : f_X6_battery P (nI b) (nI k) = some (P.1 0 (13 + k) b) := by
  unfold f_X6_battery f_X6_isBattery
  rw [show f_X6_within (nI b) 0 1 = some 1 from k_wi (a := 0) (b := 1) (Nat.zero_le _) (by omega) (by decide), pu_some, pu_some, ite10, show f_X6_within (nI k) 0 4 = some 1 from k_wi (a := 0) (b := 4) (Nat.zero_le _) (by omega) (by decide), pu_some, ite10]
  rcases (show k = 0 ∨ k = 1 ∨ k = 2 ∨ k = 3 by omega) with e | e | e | e <;> subst e <;> (simp (disch := omega) only [f_X0_told, pu_lit, nI_eq, Nat.reduceEqDiff, if_true, if_false, pu_inb, pu_bnd, pu_rd, pu_some])
theorem k_battery4 (P : PS) {b : Nat} (hb : b < 2) : f_X6_battery P (nI b) 4 = some (cgv (P.1 0) b) := by
  unfold f_X6_battery f_X6_isBattery f_X0_told
  rw [show f_X6_within (nI b) 0 1 = some 1 from k_wi (a := 0) (b := 1) (Nat.zero_le _) (by omega) (by decide), pu_some, pu_some, ite10, show f_X6_within 4 0 4 = some 1 from k_wi (a := 0) (b := 4) (p := 4) (Nat.zero_le _) (by omega) (by decide), pu_some, ite10, if_neg (by decide), if_neg (by decide), if_neg (by decide), if_neg (by decide), sp_canGive hb, pu_some, pu_some]
theorem k_setting (P : PS) {k : Nat} (hk : k < 4) : f_X6_setting P (nI k) = some (P.1 0 17 k) := by
  unfold f_X6_setting f_X6_isSetting
  rw [show f_X6_within (nI k) 0 3 = some 1 from k_wi (a := 0) (b := 3) (Nat.zero_le _) (by omega) (by decide), pu_some, pu_some, ite10, pu_inb (by omega) (by decide), pu_bnd, pu_rd (by omega)]
theorem k_account (P : PS) {k : Nat} (hk : k < 8) (h5 : k ≠ 5) : f_X6_account P (nI k) = some (P.1 0 18 k) := by
  unfold f_X6_account
  rw [show f_X6_within (nI k) 0 7 = some 1 from k_wi (a := 0) (b := 7) (Nat.zero_le _) (by omega) (by decide), pu_some, ite10, if_neg (fun z : nI k = 5 => h5 (nI_inj0 (b := 5) (by omega) (by decide) z)), pu_inb (by omega) (by decide), pu_bnd, pu_rd (by omega)]
theorem k_account5 (P : PS) : f_X6_account P 5 = some (P.1 0 16 0 + P.1 0 16 1) := by
  unfold f_X6_account f_X0_chargeOfAll
  rw [show f_X6_within 5 0 7 = some 1 from k_wi (a := 0) (b := 7) (p := 5) (Nat.zero_le _) (by omega) (by decide), pu_some, ite10, if_pos rfl, show inb (0 : Int32) 2 = true by decide, show inb (1 : Int32) 2 = true by decide, pu_bnd, pu_bnd, pu_some, show rd (P.1 0) 16 (0 : Int32) = P.1 0 16 0 from pu_rd (i := 0) (by decide), show rd (P.1 0) 16 (1 : Int32) = P.1 0 16 1 from pu_rd (i := 1) (by decide)]
theorem k_feeder {P : PS} (g : GA (P.1 0)) {f : Nat} (hf : f < 3) : f_X6_feeder P (nI f) 0 = some (smF (szF (P.1 0) (nI f)) 0 (hsz (P.1 0)) 0) ∧ f_X6_feeder P (nI f) 1 = some (smF (drF (P.1 0) (nI f) (P.1 0 17 0)) 0 (hsz (P.1 0)) 0) ∧ f_X6_feeder P (nI f) 2 = some (smF (ofF (P.1 0) (nI f) (P.1 0 4)) 0 (hsz (P.1 0)) 0) ∧ f_X6_feeder P (nI f) 3 = some (P.1 0 19 f) ∧ f_X6_feeder P (nI f) 4 = some (P.1 0 20 f) := by
  have hw : f_X6_within (nI f) 0 2 = some 1 := k_wi (a := 0) (b := 2) (Nat.zero_le _) (by omega) (by decide)
  have hk : ∀ k, k ≤ 4 → f_X6_within (nI k) 0 4 = some 1 := fun k hk => k_wi (a := 0) (b := 4) (Nat.zero_le _) hk (by decide)
  refine ⟨?_, ?_, ?_, ?_, ?_⟩ <;> unfold f_X6_feeder <;> rw [hw, pu_some, ite10]
  · rw [show f_X6_within 0 0 4 = some 1 from hk 0 (by decide), pu_some, ite10, if_pos rfl, sp_sizeOf g, pu_some]
  · rw [show f_X6_within 1 0 4 = some 1 from hk 1 (by decide), pu_some, ite10, if_neg (by decide), if_pos rfl, show inb (0 : Int32) 4 = true by decide, pu_bnd, show rd (P.1 0) 17 (0 : Int32) = P.1 0 17 0 from pu_rd (i := 0) (by decide), sp_drawnFrom g, pu_some]
  · rw [show f_X6_within 2 0 4 = some 1 from hk 2 (by decide), pu_some, ite10, if_neg (by decide), if_neg (by decide), if_pos rfl, sp_sumFrom g (by decide), pu_some]
  · rw [show f_X6_within 3 0 4 = some 1 from hk 3 (by decide), pu_some, ite10, if_neg (by decide), if_neg (by decide), if_neg (by decide), if_pos rfl, pu_inb (by omega) (by decide), pu_bnd, pu_rd (by omega)]
  · rw [show f_X6_within 4 0 4 = some 1 from hk 4 (by decide), pu_some, ite10, if_neg (by decide), if_neg (by decide), if_neg (by decide), if_neg (by decide), pu_inb (by omega) (by decide), pu_bnd, pu_rd (by omega)]
theorem k_count {P : PS} (g : GA (P.1 0)) : f_X6_count P 0 = some (P.1 0 22 0) ∧ f_X6_count P 1 = some (P.1 0 22 1) ∧ f_X6_count P 2 = some (P.1 0 22 3) ∧ f_X6_count P 4 = some (P.1 0 22 4) ∧ f_X6_count P 7 = some (smF (ngF (P.1 0)) 0 (hsz (P.1 0)) 0) := by
  refine ⟨?_, ?_, ?_, ?_, ?_⟩ <;> unfold f_X6_count
  · rw [if_pos rfl]
  · rw [if_neg (by decide), if_pos rfl]
  · rw [if_neg (by decide), if_neg (by decide), if_pos rfl]
  · rw [if_neg (by decide), if_neg (by decide), if_neg (by decide), if_neg (by decide), if_pos rfl]
  · rw [if_neg (by decide), if_neg (by decide), if_neg (by decide), if_neg (by decide), if_neg (by decide), if_neg (by decide), if_neg (by decide), if_pos rfl, sp_overdrawn g, pu_some]
