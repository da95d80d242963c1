/-! the made worlds are worlds of the kind: a village, the text, the pool, the reference, inside any others -/
section CTX
variable {σ : Type} {B L N : σ → va_W} {a n ci k : Nat} {c : ClassId}
theorem ctx_get {A M R : va_W} {pos : Nat} {x : Nat × va_E} (h : M[pos]? = some x) : (A ++ (M ++ R))[A.length + pos]? = some x := by
  have hl := (List.getElem?_eq_some_iff.mp h).1
  rw [List.getElem?_append_right (Nat.le_add_right _ _), Nat.add_sub_cancel_left, List.getElem?_append_left hl]
  exact h
theorem ctx_set {A M R : va_W} {pos : Nat} {x y : Nat × va_E} (h : M[pos]? = some x) : (A ++ (M ++ R)).set (A.length + pos) y = A ++ (M.set pos y ++ R) := by
  have hl := (List.getElem?_eq_some_iff.mp h).1
  rw [List.set_append_right _ _ (Nat.le_add_right _ _), Nat.add_sub_cancel_left, List.set_append_left _ _ hl]
theorem vAp.ctx {get : σ → Nat → Int32} {put : σ → (Nat → Int32) → σ} (h : vAp c B a n get put) (hL : ∀ S g, L (put S g) = L S) (hN : ∀ S g, N (put S g) = N S) : vAp c (fun S => L S ++ (B S ++ N S)) a n get put := by
  intro S g
  obtain ⟨pos, h1, h2⟩ := h S g
  refine ⟨(L S).length + pos, ctx_get h1, ?_⟩
  rw [ctx_set h1, h2]
  show _ = L (put S g) ++ (B (put S g) ++ N (put S g))
  rw [hL, hN]
theorem vOp.ctx {fs : σ → List Value} {put : σ → Int32 → σ} (h : vOp B a ci fs k put) (hL : ∀ S g, L (put S g) = L S) (hN : ∀ S g, N (put S g) = N S) : vOp (fun S => L S ++ (B S ++ N S)) a ci fs k put := by
  intro S g
  obtain ⟨pos, h1, h2⟩ := h S g
  refine ⟨(L S).length + pos, ctx_get h1, ?_⟩
  rw [ctx_set h1, h2]
  show _ = L (put S g) ++ (B (put S g) ++ N (put S g))
  rw [hL, hN]
theorem vOpl.ctx {fs : σ → List Value} {put : σ → Int64 → σ} (h : vOpl B a ci fs k put) (hL : ∀ S g, L (put S g) = L S) (hN : ∀ S g, N (put S g) = N S) : vOpl (fun S => L S ++ (B S ++ N S)) a ci fs k put := by
  intro S g
  obtain ⟨pos, h1, h2⟩ := h S g
  refine ⟨(L S).length + pos, ctx_get h1, ?_⟩
  rw [ctx_set h1, h2]
  show _ = L (put S g) ++ (B (put S g) ++ N (put S g))
  rw [hL, hN]
theorem vO.ctx {fs : σ → List Value} (h : vO B a ci fs) : vO (fun S => L S ++ (B S ++ N S)) a ci fs := by
  intro S
  obtain ⟨pos, h1⟩ := h S
  exact ⟨(L S).length + pos, ctx_get h1⟩
theorem vQ.ctx {get : σ → Nat → Option Nat} (h : vQ c B a n get) : vQ c (fun S => L S ++ (B S ++ N S)) a n get := by
  intro S
  obtain ⟨pos, h1⟩ := h S
  exact ⟨(L S).length + pos, ctx_get h1⟩
theorem vQp.ctx {get : σ → Nat → Option Nat} {okv : σ → Nat → Nat → Prop} {put : σ → Nat → Nat → σ} (h : vQp c B a n get okv put) (hL : ∀ S j v, L (put S j v) = L S) (hN : ∀ S j v, N (put S j v) = N S) : vQp c (fun S => L S ++ (B S ++ N S)) a n get okv put := by
  intro S j v hv
  obtain ⟨pos, h1, h2⟩ := h S j v hv
  refine ⟨(L S).length + pos, ctx_get h1, ?_⟩
  rw [ctx_set h1, h2]
  show _ = L (put S j v) ++ (B (put S j v) ++ N (put S j v))
  rw [hL, hN]
theorem IsVL.ctx {get : σ → VS} {put : σ → VS → σ} {ad : Nat → Nat} (h : IsVL get put c B ad) (hL : ∀ S v, L (put S v) = L S) (hN : ∀ S v, N (put S v) = N S) : IsVL get put c (fun S => L S ++ (B S ++ N S)) ad :=
  ⟨fun k hk => (h.1 k hk).ctx (fun _ _ => hL _ _) (fun _ _ => hN _ _), h.2.1.ctx (fun _ _ => hL _ _) (fun _ _ => hN _ _), h.2.2.1.ctx (fun _ _ => hL _ _) (fun _ _ => hN _ _), h.2.2.2.1.ctx, h.2.2.2.2.1.ctx (fun _ _ => hL _ _) (fun _ _ => hN _ _), h.2.2.2.2.2.1.ctx (fun _ _ => hL _ _) (fun _ _ => hN _ _), h.2.2.2.2.2.2.ctx (fun _ _ => hL _ _) (fun _ _ => hN _ _)⟩
end CTX
set_option maxRecDepth 100000 in
set_option maxHeartbeats 4000000 in
theorem villW_is {σ : Type} {get : σ → VS} {put : σ → VS → σ} (cI : ClassId) (ad : Nat → Nat) (hgp : ∀ S v, get (put S v) = v) : IsVL get put cI (fun S => villW cI ad (get S)) ad := by
  refine ⟨fun k hk => ?_, fun S x => ⟨1, rfl, ?_⟩, fun S x => ⟨12, rfl, ?_⟩, fun S => ⟨16, rfl⟩, fun S x => ⟨0, rfl, ?_⟩, fun S x => ⟨0, rfl, ?_⟩, fun S x => ⟨0, rfl, ?_⟩⟩
  · match k, hk with
    | 0, _ => exact fun S g => ⟨2, rfl, by dsimp only; rw [hgp]; rfl⟩
    | 1, _ => exact fun S g => ⟨3, rfl, by dsimp only; rw [hgp]; rfl⟩
    | 2, _ => exact fun S g => ⟨4, rfl, by dsimp only; rw [hgp]; rfl⟩
    | 3, _ => exact fun S g => ⟨5, rfl, by dsimp only; rw [hgp]; rfl⟩
    | 4, _ => exact fun S g => ⟨6, rfl, by dsimp only; rw [hgp]; rfl⟩
    | 5, _ => exact fun S g => ⟨7, rfl, by dsimp only; rw [hgp]; rfl⟩
    | 6, _ => exact fun S g => ⟨8, rfl, by dsimp only; rw [hgp]; rfl⟩
    | 7, _ => exact fun S g => ⟨9, rfl, by dsimp only; rw [hgp]; rfl⟩
    | 8, _ => exact fun S g => ⟨10, rfl, by dsimp only; rw [hgp]; rfl⟩
    | 9, _ => exact fun S g => ⟨11, rfl, by dsimp only; rw [hgp]; rfl⟩
    | 10, _ => exact fun S g => ⟨13, rfl, by dsimp only; rw [hgp]; rfl⟩
    | 11, _ => exact fun S g => ⟨14, rfl, by dsimp only; rw [hgp]; rfl⟩
    | 12, _ => exact fun S g => ⟨15, rfl, by dsimp only; rw [hgp]; rfl⟩
    | 13, _ => exact fun S g => ⟨17, rfl, by dsimp only; rw [hgp]; rfl⟩
    | 14, _ => exact fun S g => ⟨18, rfl, by dsimp only; rw [hgp]; rfl⟩
    | 15, _ => exact fun S g => ⟨19, rfl, by dsimp only; rw [hgp]; rfl⟩
    | 16, _ => exact fun S g => ⟨20, rfl, by dsimp only; rw [hgp]; rfl⟩
    | 17, _ => exact fun S g => ⟨21, rfl, by dsimp only; rw [hgp]; rfl⟩
    | 18, _ => exact fun S g => ⟨22, rfl, by dsimp only; rw [hgp]; rfl⟩
    | 19, _ => exact fun S g => ⟨23, rfl, by dsimp only; rw [hgp]; rfl⟩
    | 20, _ => exact fun S g => ⟨24, rfl, by dsimp only; rw [hgp]; rfl⟩
    | 21, _ => exact fun S g => ⟨25, rfl, by dsimp only; rw [hgp]; rfl⟩
    | k + 22, h => exact absurd h (by omega)
  · dsimp only; rw [hgp]; rfl
  · dsimp only; rw [hgp]; rfl
  · dsimp only; rw [hgp]; rfl
  · dsimp only; rw [hgp]; rfl
  · dsimp only; rw [hgp]; rfl
set_option maxRecDepth 100000 in
set_option maxHeartbeats 4000000 in
theorem refW_is (cI : ClassId) (ad : Nat → Nat) (T : va_W) : IsRef cI (fun R => T ++ refW cI ad R) ad := by
  have e : (fun R => T ++ refW cI ad R) = fun R => (fun _ : RS => T) R ++ (refW cI ad R ++ (fun _ : RS => []) R) := by funext R; simp only [List.append_nil]
  rw [e]
  refine ⟨fun k hk => ?_, ?_, ?_, ?_, ?_, ?_, ?_, ?_, ?_, ?_⟩
  · match k, hk with
    | 0, _ => exact vAp.ctx (B := fun R => refW cI ad R) (fun S g => ⟨1, rfl, rfl⟩) (fun _ _ => rfl) (fun _ _ => rfl)
    | 1, _ => exact vAp.ctx (B := fun R => refW cI ad R) (fun S g => ⟨2, rfl, rfl⟩) (fun _ _ => rfl) (fun _ _ => rfl)
    | 2, _ => exact vAp.ctx (B := fun R => refW cI ad R) (fun S g => ⟨3, rfl, rfl⟩) (fun _ _ => rfl) (fun _ _ => rfl)
    | 3, _ => exact vAp.ctx (B := fun R => refW cI ad R) (fun S g => ⟨4, rfl, rfl⟩) (fun _ _ => rfl) (fun _ _ => rfl)
    | 4, _ => exact vAp.ctx (B := fun R => refW cI ad R) (fun S g => ⟨5, rfl, rfl⟩) (fun _ _ => rfl) (fun _ _ => rfl)
    | 5, _ => exact vAp.ctx (B := fun R => refW cI ad R) (fun S g => ⟨6, rfl, rfl⟩) (fun _ _ => rfl) (fun _ _ => rfl)
    | 6, _ => exact vAp.ctx (B := fun R => refW cI ad R) (fun S g => ⟨7, rfl, rfl⟩) (fun _ _ => rfl) (fun _ _ => rfl)
  · exact vOp.ctx (B := fun R => refW cI ad R) (fun S x => ⟨0, rfl, rfl⟩) (fun _ _ => rfl) (fun _ _ => rfl)
  · exact vOp.ctx (B := fun R => refW cI ad R) (fun S x => ⟨0, rfl, rfl⟩) (fun _ _ => rfl) (fun _ _ => rfl)
  · exact vOp.ctx (B := fun R => refW cI ad R) (fun S x => ⟨0, rfl, rfl⟩) (fun _ _ => rfl) (fun _ _ => rfl)
  · exact vOp.ctx (B := fun R => refW cI ad R) (fun S x => ⟨0, rfl, rfl⟩) (fun _ _ => rfl) (fun _ _ => rfl)
  · exact vOp.ctx (B := fun R => refW cI ad R) (fun S x => ⟨0, rfl, rfl⟩) (fun _ _ => rfl) (fun _ _ => rfl)
  · exact vOp.ctx (B := fun R => refW cI ad R) (fun S x => ⟨0, rfl, rfl⟩) (fun _ _ => rfl) (fun _ _ => rfl)
  · exact vOp.ctx (B := fun R => refW cI ad R) (fun S x => ⟨0, rfl, rfl⟩) (fun _ _ => rfl) (fun _ _ => rfl)
  · exact vOp.ctx (B := fun R => refW cI ad R) (fun S x => ⟨0, rfl, rfl⟩) (fun _ _ => rfl) (fun _ _ => rfl)
  · exact vOpl.ctx (B := fun R => refW cI ad R) (fun S x => ⟨0, rfl, rfl⟩) (fun _ _ => rfl) (fun _ _ => rfl)
set_option maxRecDepth 100000 in
set_option maxHeartbeats 4000000 in
theorem poolW_is (cI cZ cV : ClassId) (AD : Nat → Nat → Nat) (T : va_W) : IsPool cI cZ cV (fun S => poolW cI cZ cV AD S ++ T) AD := by
  refine ⟨fun i hi => ?_, ?_, ?_, ?_, ?_, ?_, ?_, ?_⟩
  · match i, hi with
    | 0, _ =>
      have e : (fun S : PS => poolW cI cZ cV AD S ++ T) = fun S => (fun S : PS => [(AD 12 7, .inr (6, fsP AD))]) S ++ ((fun S : PS => villW cI (AD 0) (S.1 0)) S ++ (fun S : PS => villW cI (AD 1) (S.1 1) ++ ([(AD 12 4, .inr (1, fsHi (AD 12) (S.1 12)))] ++ ([(AD 12 5, .inl (cV, 8, .inr (.inr (.inr (.inr (fun j => some (AD (S.2 j) 22)))))))] ++ (villW cI (AD 4) (S.1 4) ++ (villW cI (AD 5) (S.1 5) ++ (villW cI (AD 6) (S.1 6) ++ (villW cI (AD 7) (S.1 7) ++ (villW cI (AD 8) (S.1 8) ++ (villW cI (AD 9) (S.1 9) ++ (villW cI (AD 10) (S.1 10) ++ (villW cI (AD 11) (S.1 11) ++ ([(AD 12 6, .inl (cV, 2, .inr (.inr (.inr (.inr (fun j => some (AD (2 + j) 22)))))))] ++ ([(AD 12 3, .inl (cZ, 2, .inl (S.1 12 3)))] ++ (textW cI (AD 12) (S.1 12) ++ (villW cI (AD 2) (S.1 2) ++ (villW cI (AD 3) (S.1 3) ++ (T))))))))))))))))) S) := by
        funext S
        simp only [poolW, histW, List.append_assoc, List.cons_append, List.nil_append, List.append_nil, List.singleton_append]
      rw [e]
      exact (villW_is (get := fun S : PS => S.1 0) (put := fun S v => setV S 0 v) cI (AD 0) (fun S v => setV_at S 0 v)).ctx (fun _ _ => rfl) (fun _ _ => rfl)
    | 1, _ =>
      have e : (fun S : PS => poolW cI cZ cV AD S ++ T) = fun S => (fun S : PS => [(AD 12 7, .inr (6, fsP AD))] ++ (villW cI (AD 0) (S.1 0))) S ++ ((fun S : PS => villW cI (AD 1) (S.1 1)) S ++ (fun S : PS => [(AD 12 4, .inr (1, fsHi (AD 12) (S.1 12)))] ++ ([(AD 12 5, .inl (cV, 8, .inr (.inr (.inr (.inr (fun j => some (AD (S.2 j) 22)))))))] ++ (villW cI (AD 4) (S.1 4) ++ (villW cI (AD 5) (S.1 5) ++ (villW cI (AD 6) (S.1 6) ++ (villW cI (AD 7) (S.1 7) ++ (villW cI (AD 8) (S.1 8) ++ (villW cI (AD 9) (S.1 9) ++ (villW cI (AD 10) (S.1 10) ++ (villW cI (AD 11) (S.1 11) ++ ([(AD 12 6, .inl (cV, 2, .inr (.inr (.inr (.inr (fun j => some (AD (2 + j) 22)))))))] ++ ([(AD 12 3, .inl (cZ, 2, .inl (S.1 12 3)))] ++ (textW cI (AD 12) (S.1 12) ++ (villW cI (AD 2) (S.1 2) ++ (villW cI (AD 3) (S.1 3) ++ (T)))))))))))))))) S) := by
        funext S
        simp only [poolW, histW, List.append_assoc, List.cons_append, List.nil_append, List.append_nil, List.singleton_append]
      rw [e]
      exact (villW_is (get := fun S : PS => S.1 1) (put := fun S v => setV S 1 v) cI (AD 1) (fun S v => setV_at S 1 v)).ctx (fun _ _ => rfl) (fun _ _ => rfl)
    | 2, _ =>
      have e : (fun S : PS => poolW cI cZ cV AD S ++ T) = fun S => (fun S : PS => [(AD 12 7, .inr (6, fsP AD))] ++ (villW cI (AD 0) (S.1 0) ++ (villW cI (AD 1) (S.1 1) ++ ([(AD 12 4, .inr (1, fsHi (AD 12) (S.1 12)))] ++ ([(AD 12 5, .inl (cV, 8, .inr (.inr (.inr (.inr (fun j => some (AD (S.2 j) 22)))))))] ++ (villW cI (AD 4) (S.1 4) ++ (villW cI (AD 5) (S.1 5) ++ (villW cI (AD 6) (S.1 6) ++ (villW cI (AD 7) (S.1 7) ++ (villW cI (AD 8) (S.1 8) ++ (villW cI (AD 9) (S.1 9) ++ (villW cI (AD 10) (S.1 10) ++ (villW cI (AD 11) (S.1 11) ++ ([(AD 12 6, .inl (cV, 2, .inr (.inr (.inr (.inr (fun j => some (AD (2 + j) 22)))))))] ++ ([(AD 12 3, .inl (cZ, 2, .inl (S.1 12 3)))] ++ (textW cI (AD 12) (S.1 12))))))))))))))))) S ++ ((fun S : PS => villW cI (AD 2) (S.1 2)) S ++ (fun S : PS => villW cI (AD 3) (S.1 3) ++ (T)) S) := by
        funext S
        simp only [poolW, histW, List.append_assoc, List.cons_append, List.nil_append, List.append_nil, List.singleton_append]
      rw [e]
      exact (villW_is (get := fun S : PS => S.1 2) (put := fun S v => setV S 2 v) cI (AD 2) (fun S v => setV_at S 2 v)).ctx (fun _ _ => rfl) (fun _ _ => rfl)
    | 3, _ =>
      have e : (fun S : PS => poolW cI cZ cV AD S ++ T) = fun S => (fun S : PS => [(AD 12 7, .inr (6, fsP AD))] ++ (villW cI (AD 0) (S.1 0) ++ (villW cI (AD 1) (S.1 1) ++ ([(AD 12 4, .inr (1, fsHi (AD 12) (S.1 12)))] ++ ([(AD 12 5, .inl (cV, 8, .inr (.inr (.inr (.inr (fun j => some (AD (S.2 j) 22)))))))] ++ (villW cI (AD 4) (S.1 4) ++ (villW cI (AD 5) (S.1 5) ++ (villW cI (AD 6) (S.1 6) ++ (villW cI (AD 7) (S.1 7) ++ (villW cI (AD 8) (S.1 8) ++ (villW cI (AD 9) (S.1 9) ++ (villW cI (AD 10) (S.1 10) ++ (villW cI (AD 11) (S.1 11) ++ ([(AD 12 6, .inl (cV, 2, .inr (.inr (.inr (.inr (fun j => some (AD (2 + j) 22)))))))] ++ ([(AD 12 3, .inl (cZ, 2, .inl (S.1 12 3)))] ++ (textW cI (AD 12) (S.1 12) ++ (villW cI (AD 2) (S.1 2)))))))))))))))))) S ++ ((fun S : PS => villW cI (AD 3) (S.1 3)) S ++ (fun S : PS => T) S) := by
        funext S
        simp only [poolW, histW, List.append_assoc, List.cons_append, List.nil_append, List.append_nil, List.singleton_append]
      rw [e]
      exact (villW_is (get := fun S : PS => S.1 3) (put := fun S v => setV S 3 v) cI (AD 3) (fun S v => setV_at S 3 v)).ctx (fun _ _ => rfl) (fun _ _ => rfl)
    | 4, _ =>
      have e : (fun S : PS => poolW cI cZ cV AD S ++ T) = fun S => (fun S : PS => [(AD 12 7, .inr (6, fsP AD))] ++ (villW cI (AD 0) (S.1 0) ++ (villW cI (AD 1) (S.1 1) ++ ([(AD 12 4, .inr (1, fsHi (AD 12) (S.1 12)))] ++ ([(AD 12 5, .inl (cV, 8, .inr (.inr (.inr (.inr (fun j => some (AD (S.2 j) 22)))))))]))))) S ++ ((fun S : PS => villW cI (AD 4) (S.1 4)) S ++ (fun S : PS => villW cI (AD 5) (S.1 5) ++ (villW cI (AD 6) (S.1 6) ++ (villW cI (AD 7) (S.1 7) ++ (villW cI (AD 8) (S.1 8) ++ (villW cI (AD 9) (S.1 9) ++ (villW cI (AD 10) (S.1 10) ++ (villW cI (AD 11) (S.1 11) ++ ([(AD 12 6, .inl (cV, 2, .inr (.inr (.inr (.inr (fun j => some (AD (2 + j) 22)))))))] ++ ([(AD 12 3, .inl (cZ, 2, .inl (S.1 12 3)))] ++ (textW cI (AD 12) (S.1 12) ++ (villW cI (AD 2) (S.1 2) ++ (villW cI (AD 3) (S.1 3) ++ (T))))))))))))) S) := by
        funext S
        simp only [poolW, histW, List.append_assoc, List.cons_append, List.nil_append, List.append_nil, List.singleton_append]
      rw [e]
      exact (villW_is (get := fun S : PS => S.1 4) (put := fun S v => setV S 4 v) cI (AD 4) (fun S v => setV_at S 4 v)).ctx (fun _ _ => rfl) (fun _ _ => rfl)
    | 5, _ =>
      have e : (fun S : PS => poolW cI cZ cV AD S ++ T) = fun S => (fun S : PS => [(AD 12 7, .inr (6, fsP AD))] ++ (villW cI (AD 0) (S.1 0) ++ (villW cI (AD 1) (S.1 1) ++ ([(AD 12 4, .inr (1, fsHi (AD 12) (S.1 12)))] ++ ([(AD 12 5, .inl (cV, 8, .inr (.inr (.inr (.inr (fun j => some (AD (S.2 j) 22)))))))] ++ (villW cI (AD 4) (S.1 4))))))) S ++ ((fun S : PS => villW cI (AD 5) (S.1 5)) S ++ (fun S : PS => villW cI (AD 6) (S.1 6) ++ (villW cI (AD 7) (S.1 7) ++ (villW cI (AD 8) (S.1 8) ++ (villW cI (AD 9) (S.1 9) ++ (villW cI (AD 10) (S.1 10) ++ (villW cI (AD 11) (S.1 11) ++ ([(AD 12 6, .inl (cV, 2, .inr (.inr (.inr (.inr (fun j => some (AD (2 + j) 22)))))))] ++ ([(AD 12 3, .inl (cZ, 2, .inl (S.1 12 3)))] ++ (textW cI (AD 12) (S.1 12) ++ (villW cI (AD 2) (S.1 2) ++ (villW cI (AD 3) (S.1 3) ++ (T)))))))))))) S) := by
        funext S
        simp only [poolW, histW, List.append_assoc, List.cons_append, List.nil_append, List.append_nil, List.singleton_append]
      rw [e]
      exact (villW_is (get := fun S : PS => S.1 5) (put := fun S v => setV S 5 v) cI (AD 5) (fun S v => setV_at S 5 v)).ctx (fun _ _ => rfl) (fun _ _ => rfl)
    | 6, _ =>
      have e : (fun S : PS => poolW cI cZ cV AD S ++ T) = fun S => (fun S : PS => [(AD 12 7, .inr (6, fsP AD))] ++ (villW cI (AD 0) (S.1 0) ++ (villW cI (AD 1) (S.1 1) ++ ([(AD 12 4, .inr (1, fsHi (AD 12) (S.1 12)))] ++ ([(AD 12 5, .inl (cV, 8, .inr (.inr (.inr (.inr (fun j => some (AD (S.2 j) 22)))))))] ++ (villW cI (AD 4) (S.1 4) ++ (villW cI (AD 5) (S.1 5)))))))) S ++ ((fun S : PS => villW cI (AD 6) (S.1 6)) S ++ (fun S : PS => villW cI (AD 7) (S.1 7) ++ (villW cI (AD 8) (S.1 8) ++ (villW cI (AD 9) (S.1 9) ++ (villW cI (AD 10) (S.1 10) ++ (villW cI (AD 11) (S.1 11) ++ ([(AD 12 6, .inl (cV, 2, .inr (.inr (.inr (.inr (fun j => some (AD (2 + j) 22)))))))] ++ ([(AD 12 3, .inl (cZ, 2, .inl (S.1 12 3)))] ++ (textW cI (AD 12) (S.1 12) ++ (villW cI (AD 2) (S.1 2) ++ (villW cI (AD 3) (S.1 3) ++ (T))))))))))) S) := by
        funext S
        simp only [poolW, histW, List.append_assoc, List.cons_append, List.nil_append, List.append_nil, List.singleton_append]
      rw [e]
      exact (villW_is (get := fun S : PS => S.1 6) (put := fun S v => setV S 6 v) cI (AD 6) (fun S v => setV_at S 6 v)).ctx (fun _ _ => rfl) (fun _ _ => rfl)
    | 7, _ =>
      have e : (fun S : PS => poolW cI cZ cV AD S ++ T) = fun S => (fun S : PS => [(AD 12 7, .inr (6, fsP AD))] ++ (villW cI (AD 0) (S.1 0) ++ (villW cI (AD 1) (S.1 1) ++ ([(AD 12 4, .inr (1, fsHi (AD 12) (S.1 12)))] ++ ([(AD 12 5, .inl (cV, 8, .inr (.inr (.inr (.inr (fun j => some (AD (S.2 j) 22)))))))] ++ (villW cI (AD 4) (S.1 4) ++ (villW cI (AD 5) (S.1 5) ++ (villW cI (AD 6) (S.1 6))))))))) S ++ ((fun S : PS => villW cI (AD 7) (S.1 7)) S ++ (fun S : PS => villW cI (AD 8) (S.1 8) ++ (villW cI (AD 9) (S.1 9) ++ (villW cI (AD 10) (S.1 10) ++ (villW cI (AD 11) (S.1 11) ++ ([(AD 12 6, .inl (cV, 2, .inr (.inr (.inr (.inr (fun j => some (AD (2 + j) 22)))))))] ++ ([(AD 12 3, .inl (cZ, 2, .inl (S.1 12 3)))] ++ (textW cI (AD 12) (S.1 12) ++ (villW cI (AD 2) (S.1 2) ++ (villW cI (AD 3) (S.1 3) ++ (T)))))))))) S) := by
        funext S
        simp only [poolW, histW, List.append_assoc, List.cons_append, List.nil_append, List.append_nil, List.singleton_append]
      rw [e]
      exact (villW_is (get := fun S : PS => S.1 7) (put := fun S v => setV S 7 v) cI (AD 7) (fun S v => setV_at S 7 v)).ctx (fun _ _ => rfl) (fun _ _ => rfl)
    | 8, _ =>
      have e : (fun S : PS => poolW cI cZ cV AD S ++ T) = fun S => (fun S : PS => [(AD 12 7, .inr (6, fsP AD))] ++ (villW cI (AD 0) (S.1 0) ++ (villW cI (AD 1) (S.1 1) ++ ([(AD 12 4, .inr (1, fsHi (AD 12) (S.1 12)))] ++ ([(AD 12 5, .inl (cV, 8, .inr (.inr (.inr (.inr (fun j => some (AD (S.2 j) 22)))))))] ++ (villW cI (AD 4) (S.1 4) ++ (villW cI (AD 5) (S.1 5) ++ (villW cI (AD 6) (S.1 6) ++ (villW cI (AD 7) (S.1 7)))))))))) S ++ ((fun S : PS => villW cI (AD 8) (S.1 8)) S ++ (fun S : PS => villW cI (AD 9) (S.1 9) ++ (villW cI (AD 10) (S.1 10) ++ (villW cI (AD 11) (S.1 11) ++ ([(AD 12 6, .inl (cV, 2, .inr (.inr (.inr (.inr (fun j => some (AD (2 + j) 22)))))))] ++ ([(AD 12 3, .inl (cZ, 2, .inl (S.1 12 3)))] ++ (textW cI (AD 12) (S.1 12) ++ (villW cI (AD 2) (S.1 2) ++ (villW cI (AD 3) (S.1 3) ++ (T))))))))) S) := by
        funext S
        simp only [poolW, histW, List.append_assoc, List.cons_append, List.nil_append, List.append_nil, List.singleton_append]
      rw [e]
      exact (villW_is (get := fun S : PS => S.1 8) (put := fun S v => setV S 8 v) cI (AD 8) (fun S v => setV_at S 8 v)).ctx (fun _ _ => rfl) (fun _ _ => rfl)
    | 9, _ =>
      have e : (fun S : PS => poolW cI cZ cV AD S ++ T) = fun S => (fun S : PS => [(AD 12 7, .inr (6, fsP AD))] ++ (villW cI (AD 0) (S.1 0) ++ (villW cI (AD 1) (S.1 1) ++ ([(AD 12 4, .inr (1, fsHi (AD 12) (S.1 12)))] ++ ([(AD 12 5, .inl (cV, 8, .inr (.inr (.inr (.inr (fun j => some (AD (S.2 j) 22)))))))] ++ (villW cI (AD 4) (S.1 4) ++ (villW cI (AD 5) (S.1 5) ++ (villW cI (AD 6) (S.1 6) ++ (villW cI (AD 7) (S.1 7) ++ (villW cI (AD 8) (S.1 8))))))))))) S ++ ((fun S : PS => villW cI (AD 9) (S.1 9)) S ++ (fun S : PS => villW cI (AD 10) (S.1 10) ++ (villW cI (AD 11) (S.1 11) ++ ([(AD 12 6, .inl (cV, 2, .inr (.inr (.inr (.inr (fun j => some (AD (2 + j) 22)))))))] ++ ([(AD 12 3, .inl (cZ, 2, .inl (S.1 12 3)))] ++ (textW cI (AD 12) (S.1 12) ++ (villW cI (AD 2) (S.1 2) ++ (villW cI (AD 3) (S.1 3) ++ (T)))))))) S) := by
        funext S
        simp only [poolW, histW, List.append_assoc, List.cons_append, List.nil_append, List.append_nil, List.singleton_append]
      rw [e]
      exact (villW_is (get := fun S : PS => S.1 9) (put := fun S v => setV S 9 v) cI (AD 9) (fun S v => setV_at S 9 v)).ctx (fun _ _ => rfl) (fun _ _ => rfl)
    | 10, _ =>
      have e : (fun S : PS => poolW cI cZ cV AD S ++ T) = fun S => (fun S : PS => [(AD 12 7, .inr (6, fsP AD))] ++ (villW cI (AD 0) (S.1 0) ++ (villW cI (AD 1) (S.1 1) ++ ([(AD 12 4, .inr (1, fsHi (AD 12) (S.1 12)))] ++ ([(AD 12 5, .inl (cV, 8, .inr (.inr (.inr (.inr (fun j => some (AD (S.2 j) 22)))))))] ++ (villW cI (AD 4) (S.1 4) ++ (villW cI (AD 5) (S.1 5) ++ (villW cI (AD 6) (S.1 6) ++ (villW cI (AD 7) (S.1 7) ++ (villW cI (AD 8) (S.1 8) ++ (villW cI (AD 9) (S.1 9)))))))))))) S ++ ((fun S : PS => villW cI (AD 10) (S.1 10)) S ++ (fun S : PS => villW cI (AD 11) (S.1 11) ++ ([(AD 12 6, .inl (cV, 2, .inr (.inr (.inr (.inr (fun j => some (AD (2 + j) 22)))))))] ++ ([(AD 12 3, .inl (cZ, 2, .inl (S.1 12 3)))] ++ (textW cI (AD 12) (S.1 12) ++ (villW cI (AD 2) (S.1 2) ++ (villW cI (AD 3) (S.1 3) ++ (T))))))) S) := by
        funext S
        simp only [poolW, histW, List.append_assoc, List.cons_append, List.nil_append, List.append_nil, List.singleton_append]
      rw [e]
      exact (villW_is (get := fun S : PS => S.1 10) (put := fun S v => setV S 10 v) cI (AD 10) (fun S v => setV_at S 10 v)).ctx (fun _ _ => rfl) (fun _ _ => rfl)
    | 11, _ =>
      have e : (fun S : PS => poolW cI cZ cV AD S ++ T) = fun S => (fun S : PS => [(AD 12 7, .inr (6, fsP AD))] ++ (villW cI (AD 0) (S.1 0) ++ (villW cI (AD 1) (S.1 1) ++ ([(AD 12 4, .inr (1, fsHi (AD 12) (S.1 12)))] ++ ([(AD 12 5, .inl (cV, 8, .inr (.inr (.inr (.inr (fun j => some (AD (S.2 j) 22)))))))] ++ (villW cI (AD 4) (S.1 4) ++ (villW cI (AD 5) (S.1 5) ++ (villW cI (AD 6) (S.1 6) ++ (villW cI (AD 7) (S.1 7) ++ (villW cI (AD 8) (S.1 8) ++ (villW cI (AD 9) (S.1 9) ++ (villW cI (AD 10) (S.1 10))))))))))))) S ++ ((fun S : PS => villW cI (AD 11) (S.1 11)) S ++ (fun S : PS => [(AD 12 6, .inl (cV, 2, .inr (.inr (.inr (.inr (fun j => some (AD (2 + j) 22)))))))] ++ ([(AD 12 3, .inl (cZ, 2, .inl (S.1 12 3)))] ++ (textW cI (AD 12) (S.1 12) ++ (villW cI (AD 2) (S.1 2) ++ (villW cI (AD 3) (S.1 3) ++ (T)))))) S) := by
        funext S
        simp only [poolW, histW, List.append_assoc, List.cons_append, List.nil_append, List.append_nil, List.singleton_append]
      rw [e]
      exact (villW_is (get := fun S : PS => S.1 11) (put := fun S v => setV S 11 v) cI (AD 11) (fun S v => setV_at S 11 v)).ctx (fun _ _ => rfl) (fun _ _ => rfl)
  · have e : (fun S : PS => poolW cI cZ cV AD S ++ T) = fun S => (fun S : PS => [(AD 12 7, .inr (6, fsP AD))] ++ (villW cI (AD 0) (S.1 0) ++ (villW cI (AD 1) (S.1 1) ++ ([(AD 12 4, .inr (1, fsHi (AD 12) (S.1 12)))] ++ ([(AD 12 5, .inl (cV, 8, .inr (.inr (.inr (.inr (fun j => some (AD (S.2 j) 22)))))))] ++ (villW cI (AD 4) (S.1 4) ++ (villW cI (AD 5) (S.1 5) ++ (villW cI (AD 6) (S.1 6) ++ (villW cI (AD 7) (S.1 7) ++ (villW cI (AD 8) (S.1 8) ++ (villW cI (AD 9) (S.1 9) ++ (villW cI (AD 10) (S.1 10) ++ (villW cI (AD 11) (S.1 11) ++ ([(AD 12 6, .inl (cV, 2, .inr (.inr (.inr (.inr (fun j => some (AD (2 + j) 22)))))))] ++ ([(AD 12 3, .inl (cZ, 2, .inl (S.1 12 3)))]))))))))))))))) S ++ ((fun S : PS => textW cI (AD 12) (S.1 12)) S ++ (fun S : PS => villW cI (AD 2) (S.1 2) ++ (villW cI (AD 3) (S.1 3) ++ (T))) S) := by
      funext S
      simp only [poolW, histW, List.append_assoc, List.cons_append, List.nil_append, List.append_nil, List.singleton_append]
    rw [e]
    refine ⟨fun k hk => ?_, ?_, ?_, ?_, ?_⟩
    · match k, hk with
      | 0, _ => exact vAp.ctx (B := fun S : PS => textW cI (AD 12) (S.1 12)) (fun S g => ⟨1, rfl, rfl⟩) (fun _ _ => rfl) (fun _ _ => rfl)
      | 1, _ => exact vAp.ctx (B := fun S : PS => textW cI (AD 12) (S.1 12)) (fun S g => ⟨2, rfl, rfl⟩) (fun _ _ => rfl) (fun _ _ => rfl)
    · exact vOp.ctx (B := fun S : PS => textW cI (AD 12) (S.1 12)) (fun S x => ⟨0, rfl, rfl⟩) (fun _ _ => rfl) (fun _ _ => rfl)
    · exact vOp.ctx (B := fun S : PS => textW cI (AD 12) (S.1 12)) (fun S x => ⟨0, rfl, rfl⟩) (fun _ _ => rfl) (fun _ _ => rfl)
    · exact vOp.ctx (B := fun S : PS => textW cI (AD 12) (S.1 12)) (fun S x => ⟨0, rfl, rfl⟩) (fun _ _ => rfl) (fun _ _ => rfl)
    · exact vOp.ctx (B := fun S : PS => textW cI (AD 12) (S.1 12)) (fun S x => ⟨0, rfl, rfl⟩) (fun _ _ => rfl) (fun _ _ => rfl)
  · have e : (fun S : PS => poolW cI cZ cV AD S ++ T) = fun S => (fun S : PS => [(AD 12 7, .inr (6, fsP AD))] ++ (villW cI (AD 0) (S.1 0) ++ (villW cI (AD 1) (S.1 1) ++ ([(AD 12 4, .inr (1, fsHi (AD 12) (S.1 12)))] ++ ([(AD 12 5, .inl (cV, 8, .inr (.inr (.inr (.inr (fun j => some (AD (S.2 j) 22)))))))] ++ (villW cI (AD 4) (S.1 4) ++ (villW cI (AD 5) (S.1 5) ++ (villW cI (AD 6) (S.1 6) ++ (villW cI (AD 7) (S.1 7) ++ (villW cI (AD 8) (S.1 8) ++ (villW cI (AD 9) (S.1 9) ++ (villW cI (AD 10) (S.1 10) ++ (villW cI (AD 11) (S.1 11) ++ ([(AD 12 6, .inl (cV, 2, .inr (.inr (.inr (.inr (fun j => some (AD (2 + j) 22)))))))])))))))))))))) S ++ ((fun S : PS => [(AD 12 3, .inl (cZ, 2, .inl (S.1 12 3)))]) S ++ (fun S : PS => textW cI (AD 12) (S.1 12) ++ (villW cI (AD 2) (S.1 2) ++ (villW cI (AD 3) (S.1 3) ++ (T)))) S) := by
      funext S
      simp only [poolW, histW, List.append_assoc, List.cons_append, List.nil_append, List.append_nil, List.singleton_append]
    rw [e]
    exact vAp.ctx (B := fun S : PS => [(AD 12 3, .inl (cZ, 2, .inl (S.1 12 3)))]) (fun S g => ⟨0, rfl, rfl⟩) (fun _ _ => rfl) (fun _ _ => rfl)
  · have e : (fun S : PS => poolW cI cZ cV AD S ++ T) = fun S => (fun S : PS => [(AD 12 7, .inr (6, fsP AD))] ++ (villW cI (AD 0) (S.1 0) ++ (villW cI (AD 1) (S.1 1)))) S ++ ((fun S : PS => [(AD 12 4, .inr (1, fsHi (AD 12) (S.1 12)))]) S ++ (fun S : PS => [(AD 12 5, .inl (cV, 8, .inr (.inr (.inr (.inr (fun j => some (AD (S.2 j) 22)))))))] ++ (villW cI (AD 4) (S.1 4) ++ (villW cI (AD 5) (S.1 5) ++ (villW cI (AD 6) (S.1 6) ++ (villW cI (AD 7) (S.1 7) ++ (villW cI (AD 8) (S.1 8) ++ (villW cI (AD 9) (S.1 9) ++ (villW cI (AD 10) (S.1 10) ++ (villW cI (AD 11) (S.1 11) ++ ([(AD 12 6, .inl (cV, 2, .inr (.inr (.inr (.inr (fun j => some (AD (2 + j) 22)))))))] ++ ([(AD 12 3, .inl (cZ, 2, .inl (S.1 12 3)))] ++ (textW cI (AD 12) (S.1 12) ++ (villW cI (AD 2) (S.1 2) ++ (villW cI (AD 3) (S.1 3) ++ (T))))))))))))))) S) := by
      funext S
      simp only [poolW, histW, List.append_assoc, List.cons_append, List.nil_append, List.append_nil, List.singleton_append]
    rw [e]
    exact vOp.ctx (B := fun S : PS => [(AD 12 4, .inr (1, fsHi (AD 12) (S.1 12)))]) (fun S x => ⟨0, rfl, rfl⟩) (fun _ _ => rfl) (fun _ _ => rfl)
  · have e : (fun S : PS => poolW cI cZ cV AD S ++ T) = fun S => (fun S : PS => [(AD 12 7, .inr (6, fsP AD))] ++ (villW cI (AD 0) (S.1 0) ++ (villW cI (AD 1) (S.1 1) ++ ([(AD 12 4, .inr (1, fsHi (AD 12) (S.1 12)))] ++ ([(AD 12 5, .inl (cV, 8, .inr (.inr (.inr (.inr (fun j => some (AD (S.2 j) 22)))))))] ++ (villW cI (AD 4) (S.1 4) ++ (villW cI (AD 5) (S.1 5) ++ (villW cI (AD 6) (S.1 6) ++ (villW cI (AD 7) (S.1 7) ++ (villW cI (AD 8) (S.1 8) ++ (villW cI (AD 9) (S.1 9) ++ (villW cI (AD 10) (S.1 10) ++ (villW cI (AD 11) (S.1 11)))))))))))))) S ++ ((fun S : PS => [(AD 12 6, .inl (cV, 2, .inr (.inr (.inr (.inr (fun j => some (AD (2 + j) 22)))))))]) S ++ (fun S : PS => [(AD 12 3, .inl (cZ, 2, .inl (S.1 12 3)))] ++ (textW cI (AD 12) (S.1 12) ++ (villW cI (AD 2) (S.1 2) ++ (villW cI (AD 3) (S.1 3) ++ (T))))) S) := by
      funext S
      simp only [poolW, histW, List.append_assoc, List.cons_append, List.nil_append, List.append_nil, List.singleton_append]
    rw [e]
    exact vQ.ctx (B := fun S : PS => [(AD 12 6, .inl (cV, 2, .inr (.inr (.inr (.inr (fun j => some (AD (2 + j) 22)))))))]) (fun S => ⟨0, rfl⟩)
  · have e : (fun S : PS => poolW cI cZ cV AD S ++ T) = fun S => (fun S : PS => ([] : va_W)) S ++ ((fun S : PS => [(AD 12 7, .inr (6, fsP AD))]) S ++ (fun S : PS => villW cI (AD 0) (S.1 0) ++ (villW cI (AD 1) (S.1 1) ++ ([(AD 12 4, .inr (1, fsHi (AD 12) (S.1 12)))] ++ ([(AD 12 5, .inl (cV, 8, .inr (.inr (.inr (.inr (fun j => some (AD (S.2 j) 22)))))))] ++ (villW cI (AD 4) (S.1 4) ++ (villW cI (AD 5) (S.1 5) ++ (villW cI (AD 6) (S.1 6) ++ (villW cI (AD 7) (S.1 7) ++ (villW cI (AD 8) (S.1 8) ++ (villW cI (AD 9) (S.1 9) ++ (villW cI (AD 10) (S.1 10) ++ (villW cI (AD 11) (S.1 11) ++ ([(AD 12 6, .inl (cV, 2, .inr (.inr (.inr (.inr (fun j => some (AD (2 + j) 22)))))))] ++ ([(AD 12 3, .inl (cZ, 2, .inl (S.1 12 3)))] ++ (textW cI (AD 12) (S.1 12) ++ (villW cI (AD 2) (S.1 2) ++ (villW cI (AD 3) (S.1 3) ++ (T)))))))))))))))))) S) := by
      funext S
      simp only [poolW, histW, List.append_assoc, List.cons_append, List.nil_append, List.append_nil, List.singleton_append]
    rw [e]
    exact vO.ctx (B := fun S : PS => [(AD 12 7, .inr (6, fsP AD))]) (fun S => ⟨0, rfl⟩)
  · have e : (fun S : PS => poolW cI cZ cV AD S ++ T) = fun S => (fun S : PS => [(AD 12 7, .inr (6, fsP AD))] ++ (villW cI (AD 0) (S.1 0) ++ (villW cI (AD 1) (S.1 1) ++ ([(AD 12 4, .inr (1, fsHi (AD 12) (S.1 12)))])))) S ++ ((fun S : PS => [(AD 12 5, .inl (cV, 8, .inr (.inr (.inr (.inr (fun j => some (AD (S.2 j) 22)))))))]) S ++ (fun S : PS => villW cI (AD 4) (S.1 4) ++ (villW cI (AD 5) (S.1 5) ++ (villW cI (AD 6) (S.1 6) ++ (villW cI (AD 7) (S.1 7) ++ (villW cI (AD 8) (S.1 8) ++ (villW cI (AD 9) (S.1 9) ++ (villW cI (AD 10) (S.1 10) ++ (villW cI (AD 11) (S.1 11) ++ ([(AD 12 6, .inl (cV, 2, .inr (.inr (.inr (.inr (fun j => some (AD (2 + j) 22)))))))] ++ ([(AD 12 3, .inl (cZ, 2, .inl (S.1 12 3)))] ++ (textW cI (AD 12) (S.1 12) ++ (villW cI (AD 2) (S.1 2) ++ (villW cI (AD 3) (S.1 3) ++ (T)))))))))))))) S) := by
      funext S
      simp only [poolW, histW, List.append_assoc, List.cons_append, List.nil_append, List.append_nil, List.singleton_append]
    rw [e]
    exact vQ.ctx (B := fun S : PS => [(AD 12 5, .inl (cV, 8, .inr (.inr (.inr (.inr (fun j => some (AD (S.2 j) 22)))))))]) (fun S => ⟨0, rfl⟩)
  · intro i
    have e : (fun S : PS => poolW cI cZ cV AD S ++ T) = fun S => (fun S : PS => [(AD 12 7, .inr (6, fsP AD))] ++ (villW cI (AD 0) (S.1 0) ++ (villW cI (AD 1) (S.1 1) ++ ([(AD 12 4, .inr (1, fsHi (AD 12) (S.1 12)))])))) S ++ ((fun S : PS => [(AD 12 5, .inl (cV, 8, .inr (.inr (.inr (.inr (fun j => some (AD (S.2 j) 22)))))))]) S ++ (fun S : PS => villW cI (AD 4) (S.1 4) ++ (villW cI (AD 5) (S.1 5) ++ (villW cI (AD 6) (S.1 6) ++ (villW cI (AD 7) (S.1 7) ++ (villW cI (AD 8) (S.1 8) ++ (villW cI (AD 9) (S.1 9) ++ (villW cI (AD 10) (S.1 10) ++ (villW cI (AD 11) (S.1 11) ++ ([(AD 12 6, .inl (cV, 2, .inr (.inr (.inr (.inr (fun j => some (AD (2 + j) 22)))))))] ++ ([(AD 12 3, .inl (cZ, 2, .inl (S.1 12 3)))] ++ (textW cI (AD 12) (S.1 12) ++ (villW cI (AD 2) (S.1 2) ++ (villW cI (AD 3) (S.1 3) ++ (T)))))))))))))) S) := by
      funext S
      simp only [poolW, histW, List.append_assoc, List.cons_append, List.nil_append, List.append_nil, List.singleton_append]
    rw [e]
    refine vQp.ctx (B := fun S : PS => [(AD 12 5, .inl (cV, 8, .inr (.inr (.inr (.inr (fun j => some (AD (S.2 j) 22)))))))]) (fun S j v hv => ⟨0, rfl, ?_⟩) (fun _ _ _ => rfl) (fun _ _ _ => rfl)
    subst hv
    have hz : va_up (fun j => some (AD (S.2 j) 22)) j (some (AD i 22)) = fun z => some (AD ((setP S j i).2 z) 22) := by
      funext z
      by_cases hz : z = j
      · subst hz
        simp [va_up, setP]
      · simp [va_up, setP, hz]
    exact congrArg (fun f => ([(AD 12 5, .inl (cV, 8, .inr (.inr (.inr (.inr f)))))] : va_W)) hz
