/-! THE LAW'S ROWS IN THE WORLD -/
def lawW (cI : ClassId) (al : Nat → Nat) (R : VS) : va_W := arrI cI (al 0) 20 (R 0) :: arrI cI (al 1) 48 (R 1) :: arrI cI (al 2) 16 (R 2) :: arrI cI (al 3) 30 (R 3) :: arrI cI (al 4) 8 (R 4) :: arrI cI (al 5) 12 (R 5) :: []
def law0 : VS := fun _ => zr
set_option maxRecDepth 100000 in
set_option maxHeartbeats 4000000 in
theorem lawW_is (cI cZ cV : ClassId) (AD : Nat → Nat → Nat) (al : Nat → Nat) : IsLP cI cZ cV (fun Z => poolW cI cZ cV AD Z.1 ++ lawW cI al Z.2) AD al := by
  refine ⟨fun R => poolW_is cI cZ cV AD (lawW cI al R), ?_⟩
  have e : (fun Z : LQ => poolW cI cZ cV AD Z.1 ++ lawW cI al Z.2) = fun Z => (fun Z : LQ => poolW cI cZ cV AD Z.1) Z ++ ((fun Z : LQ => lawW cI al Z.2) Z ++ (fun _ : LQ => []) Z) := by funext Z; simp only [List.append_nil]
  rw [e]
  intro k hk
  match k, hk with
  | 0, _ => exact vAp.ctx (B := fun Z : LQ => lawW cI al Z.2) (fun S g => ⟨0, rfl, rfl⟩) (fun _ _ => rfl) (fun _ _ => rfl)
  | 1, _ => exact vAp.ctx (B := fun Z : LQ => lawW cI al Z.2) (fun S g => ⟨1, rfl, rfl⟩) (fun _ _ => rfl) (fun _ _ => rfl)
  | 2, _ => exact vAp.ctx (B := fun Z : LQ => lawW cI al Z.2) (fun S g => ⟨2, rfl, rfl⟩) (fun _ _ => rfl) (fun _ _ => rfl)
  | 3, _ => exact vAp.ctx (B := fun Z : LQ => lawW cI al Z.2) (fun S g => ⟨3, rfl, rfl⟩) (fun _ _ => rfl) (fun _ _ => rfl)
  | 4, _ => exact vAp.ctx (B := fun Z : LQ => lawW cI al Z.2) (fun S g => ⟨4, rfl, rfl⟩) (fun _ _ => rfl) (fun _ _ => rfl)
  | 5, _ => exact vAp.ctx (B := fun Z : LQ => lawW cI al Z.2) (fun S g => ⟨5, rfl, rfl⟩) (fun _ _ => rfl) (fun _ _ => rfl)
section CC
variable {X : JX va_W} {own C : String} {cc bytes : ByteArray} {rm rmc : Room} {pc k n index ci N a : Nat} {lv : List (Nat × Value)} {st : List Value} {ws rest pre post : va_W} {T : u_T} {fs : List Value}
theorem jc_newiW (h : OKw X own cc rm) {c : Int32} (c' : Nat) (hc : ¬ c < 0) (hc' : c.toNatClampNeg = c') (hc2 : c' ≤ 2000) (hk : k + 1 ≤ rm.cells) (hn : n + c' ≤ rm.slots) (hdg : decode cc pc = .ok (.newarray .int, 2)) (kk : ∀ q : Nat, J (XA X (k + 1) (n + c')) (pc + 2) lv (.ref q :: st) (ws ++ [(q, .inl (X.cI, c', .inl (fun _ => 0)))])) : J (XA X k n) pc lv (.int c :: st) ws := by
  obtain ⟨⟨hx, hb, hml, hown, hts, hK, hA, hR⟩, hE, hB⟩ := h
  intro ls H locs a1 a2 a3 a4
  have a2' : va_P X.D vwCl ws H := by have := a2; rw [show (XA X k n).B = X.B from rfl, hB] at this; exact this
  have a3' : va_D X.A ws := by have := a3; rw [show (XA X k n).B = X.B from rfl, hB] at this; exact this
  refine va_newa (atype := .int) hx hb (hts _ q1_73) (ty := .int) rfl hK a2' a3' a4 hA (a0 := (c', .inl (fun _ => 0))) (fun _ => rfl) hc hc' (by show c' * 4 ≤ _; omega) (by rw [hR]; exact hk) (by rw [hR]; exact hn) hdg (fun q cA H1 bK b2 b3 b4 => ?_)
  obtain rfl : cA = X.cI := ra_uniq_i (bK.2 3 (cA, .int) rfl).2 (bK.2 0 (X.cI, .int) rfl).2
  exact kk q ls H1 locs a1 (by rw [show (XA X (k + 1) (n + c')).B = X.B from rfl, hB]; exact b2) (by rw [show (XA X (k + 1) (n + c')).B = X.B from rfl, hB]; exact b3) b4
end CC
