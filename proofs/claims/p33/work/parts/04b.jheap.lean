/-! the world's family: what a cell holds at S, and what a write makes of S -/
def vO {σ : Type} (B : σ → va_W) (a ci : Nat) (fs : σ → List Value) : Prop := ∀ S, ∃ pos : Nat, (B S)[pos]? = some (a, .inr (ci, fs S))
def vOp {σ : Type} (B : σ → va_W) (a ci : Nat) (fs : σ → List Value) (k : Nat) (put : σ → Int32 → σ) : Prop := ∀ S x, ∃ pos : Nat, (B S)[pos]? = some (a, .inr (ci, fs S)) ∧ (B S).set pos (a, .inr (ci, (fs S).set k (.int x))) = B (put S x)
def vOpl {σ : Type} (B : σ → va_W) (a ci : Nat) (fs : σ → List Value) (k : Nat) (put : σ → Int64 → σ) : Prop := ∀ S x, ∃ pos : Nat, (B S)[pos]? = some (a, .inr (ci, fs S)) ∧ (B S).set pos (a, .inr (ci, (fs S).set k (.long x))) = B (put S x)
def vA {σ : Type} (cI : ClassId) (B : σ → va_W) (a n : Nat) (get : σ → Nat → Int32) : Prop := ∀ S, ∃ pos : Nat, (B S)[pos]? = some (a, .inl (cI, n, .inl (get S)))
def vAp {σ : Type} (cI : ClassId) (B : σ → va_W) (a n : Nat) (get : σ → Nat → Int32) (put : σ → (Nat → Int32) → σ) : Prop := ∀ S g, ∃ pos : Nat, (B S)[pos]? = some (a, .inl (cI, n, .inl (get S))) ∧ (B S).set pos (a, .inl (cI, n, .inl g)) = B (put S g)
def vQ {σ : Type} (cV : ClassId) (B : σ → va_W) (a n : Nat) (get : σ → Nat → Option Nat) : Prop := ∀ S, ∃ pos : Nat, (B S)[pos]? = some (a, .inl (cV, n, .inr (.inr (.inr (.inr (get S))))))
def vQp {σ : Type} (cV : ClassId) (B : σ → va_W) (a n : Nat) (get : σ → Nat → Option Nat) (okv : σ → Nat → Nat → Prop) (put : σ → Nat → Nat → σ) : Prop := ∀ S j v, okv S j v → ∃ pos : Nat, (B S)[pos]? = some (a, .inl (cV, n, .inr (.inr (.inr (.inr (get S)))))) ∧ (B S).set pos (a, .inl (cV, n, .inr (.inr (.inr (.inr (va_up (get S) j (some v))))))) = B (put S j v)
theorem vOp.o {σ : Type} {B : σ → va_W} {a ci : Nat} {fs : σ → List Value} {k : Nat} {put : σ → Int32 → σ} (h : vOp B a ci fs k put) : vO B a ci fs := fun S => let ⟨p, hp, _⟩ := h S 0; ⟨p, hp⟩
theorem vAp.a {σ : Type} {cI : ClassId} {B : σ → va_W} {a n : Nat} {get : σ → Nat → Int32} {put : σ → (Nat → Int32) → σ} (h : vAp cI B a n get put) : vA cI B a n get := fun S => let ⟨p, hp, _⟩ := h S (get S); ⟨p, hp⟩
def jmin (x y : Int32) : Int32 := if y < x then y else x
def jmax (x y : Int32) : Int32 := if x < y then y else x
section JH
variable {σ τ ρ : Type} {X : JX σ} {own : String} {cc : ByteArray} {rm : Room} {pc : Nat} {lv lv' : List (Nat × Value)} {st : List Value} {S S' : σ} {res : ρ}
theorem j_get (h : OK X own cc rm) {a ci N index : Nat} {C : String} {T : u_T} {fs : σ → List Value} {ref name desc : String} {fin : Bool} {v : Value} (hO : vO X.B a ci fs) (hin : ∀ w ∈ u_ws C T N, w ∈ lw_w) (hc : vwCl[ci]? = some (C, T, N)) (k : Nat) (hk : k < N) (hT : T k = (ref, name, desc, fin)) (hq : (Cond.fieldLink own index ref name desc) ∈ lw_w) (hv : (fs S)[k]? = some v) (hdg : decode cc pc = .ok (.getfield index, 3)) (kk : J X (pc + 3) lv (v :: st) S) : J X pc lv (.ref a :: st) S := by
  obtain ⟨hx, hb, hml, hown, hts, hK, hA, hR, hkc, hks⟩ := h
  intro ls H locs a1 a2 a3 a4
  obtain ⟨pos, hpos⟩ := hO S
  exact va_get hx hb hts hin hown hK a2 pos hpos hc k hk (ref := ref) (by rw [hT]; exact hts _ hq) (by rw [hT]; exact fun _ h => h) hv hdg (kk ls H locs a1 a2 a3 a4)
theorem j_put (h : OK X own cc rm) {a ci N index : Nat} {C : String} {T : u_T} {fs : σ → List Value} {ref name : String} {k : Nat} {put : σ → Int32 → σ} {ty0 : Nat → FieldType} {x : Int32} (hO : vOp X.B a ci fs k put) (hin : ∀ w ∈ u_ws C T N, w ∈ lw_w) (hty : ∀ k, k < N → parseFieldDescriptor (T k).2.2.1 = some (ty0 k)) (hnm : ∀ a, a < N → ∀ b, b < N → a ≠ b → (T a).2.1 ≠ (T b).2.1) (hc : vwCl[ci]? = some (C, T, N)) (hk : k < N) (hT : T k = (ref, name, "I", false)) (hq : (Cond.fieldLink own index ref name "I") ∈ lw_w) (hl : k < (fs S).length) (hdg : decode cc pc = .ok (.putfield index, 3)) (kk : J X (pc + 3) lv st (put S x)) : J X pc lv (.int x :: .ref a :: st) S := by
  obtain ⟨hx, hb, hml, hown, hts, hK, hA, hR, hkc, hks⟩ := h
  intro ls H locs a1 a2 a3 a4
  obtain ⟨pos, hpos, hset⟩ := hO S x
  refine va_put hx hb hts hin ty0 hty hnm hown hK a2 a3 a4 pos hpos hc k hk (ref := ref) (by rw [hT]; exact hts _ hq) (by rw [hT]; exact fun _ h => h) (by rw [hT]) (ty := .int) (by rw [hT]; show parseFieldDescriptor "I" = some .int; decide +kernel) rfl rfl hl hdg (fun H1 locs1 b2 b3 b4 => ?_)
  rw [hset] at b2 b3
  exact kk ls H1 locs1 a1 b2 b3 b4
theorem j_putl (h : OK X own cc rm) {a ci N index : Nat} {C : String} {T : u_T} {fs : σ → List Value} {ref name : String} {k : Nat} {put : σ → Int64 → σ} {ty0 : Nat → FieldType} {x : Int64} (hO : vOpl X.B a ci fs k put) (hin : ∀ w ∈ u_ws C T N, w ∈ lw_w) (hty : ∀ k, k < N → parseFieldDescriptor (T k).2.2.1 = some (ty0 k)) (hnm : ∀ a, a < N → ∀ b, b < N → a ≠ b → (T a).2.1 ≠ (T b).2.1) (hc : vwCl[ci]? = some (C, T, N)) (hk : k < N) (hT : T k = (ref, name, "J", false)) (hq : (Cond.fieldLink own index ref name "J") ∈ lw_w) (hl : k < (fs S).length) (hdg : decode cc pc = .ok (.putfield index, 3)) (kk : J X (pc + 3) lv st (put S x)) : J X pc lv (.long x :: .ref a :: st) S := by
  obtain ⟨hx, hb, hml, hown, hts, hK, hA, hR, hkc, hks⟩ := h
  intro ls H locs a1 a2 a3 a4
  obtain ⟨pos, hpos, hset⟩ := hO S x
  refine va_put hx hb hts hin ty0 hty hnm hown hK a2 a3 a4 pos hpos hc k hk (ref := ref) (by rw [hT]; exact hts _ hq) (by rw [hT]; exact fun _ h => h) (by rw [hT]) (ty := .long) (by rw [hT]; show parseFieldDescriptor "J" = some .long; decide +kernel) rfl rfl hl hdg (fun H1 locs1 b2 b3 b4 => ?_)
  rw [hset] at b2 b3
  exact kk ls H1 locs1 a1 b2 b3 b4
theorem j_iald (h : OK X own cc rm) {a n : Nat} {get : σ → Nat → Int32} {i : Int32} (hA1 : vA X.cI X.B a n get) (hin : inb i n = true) (hdg : decode cc pc = .ok (.iaload, 1)) (kk : J X (pc + 1) lv (.int (get S i.toNatClampNeg) :: st) S) : J X pc lv (.int i :: .ref a :: st) S := by
  obtain ⟨hx, hb, hml, hown, hts, hK, hA, hR, hkc, hks⟩ := h
  intro ls H locs a1 a2 a3 a4
  obtain ⟨pos, hpos⟩ := hA1 S
  exact va_iald hx hb hK a2 pos 0 hpos rfl (inb_vp hin) hdg (kk ls H locs a1 a2 a3 a4)
theorem j_iast (h : OK X own cc rm) {a n : Nat} {get : σ → Nat → Int32} {put : σ → (Nat → Int32) → σ} {i x : Int32} (hA1 : vAp X.cI X.B a n get put) (hin : inb i n = true) (hdg : decode cc pc = .ok (.iastore, 1)) (kk : J X (pc + 1) lv st (put S (upd (get S) i.toNatClampNeg x))) : J X pc lv (.int x :: .int i :: .ref a :: st) S := by
  obtain ⟨hx, hb, hml, hown, hts, hK, hA, hR, hkc, hks⟩ := h
  intro ls H locs a1 a2 a3 a4
  obtain ⟨pos, hpos, hset⟩ := hA1 S (upd (get S) i.toNatClampNeg x)
  refine va_iast hx hb hK a2 a3 a4 pos 0 hpos rfl (inb_vp hin) hdg (fun H1 locs1 b2 b3 b4 => ?_)
  rw [hset] at b2 b3
  exact kk ls H1 locs1 a1 b2 b3 b4
theorem j_zald (h : OK X own cc rm) {a n : Nat} {get : σ → Nat → Int32} {i : Int32} (hA1 : vA X.cZ X.B a n get) (hin : inb i n = true) (hdg : decode cc pc = .ok (.baload, 1)) (kk : J X (pc + 1) lv (.int (get S i.toNatClampNeg) :: st) S) : J X pc lv (.int i :: .ref a :: st) S := by
  obtain ⟨hx, hb, hml, hown, hts, hK, hA, hR, hkc, hks⟩ := h
  intro ls H locs a1 a2 a3 a4
  obtain ⟨pos, hpos⟩ := hA1 S
  exact va_zald hx hb hK a2 pos 1 hpos rfl (inb_vp hin) hdg (kk ls H locs a1 a2 a3 a4)
theorem j_zast (h : OK X own cc rm) {a n : Nat} {get : σ → Nat → Int32} {put : σ → (Nat → Int32) → σ} {i x : Int32} (hA1 : vAp X.cZ X.B a n get put) (hin : inb i n = true) (hn : vp_nar .boolean x = x) (hdg : decode cc pc = .ok (.bastore, 1)) (kk : J X (pc + 1) lv st (put S (upd (get S) i.toNatClampNeg x))) : J X pc lv (.int x :: .int i :: .ref a :: st) S := by
  obtain ⟨hx, hb, hml, hown, hts, hK, hA, hR, hkc, hks⟩ := h
  intro ls H locs a1 a2 a3 a4
  obtain ⟨pos, hpos, hset⟩ := hA1 S (upd (get S) i.toNatClampNeg x)
  refine va_zast hx hb hK a2 a3 a4 pos 1 hpos rfl (inb_vp hin) hdg (fun H1 locs1 b2 b3 b4 => ?_)
  rw [hn, hset] at b2 b3
  exact kk ls H1 locs1 a1 b2 b3 b4
theorem j_aald (h : OK X own cc rm) {a n r : Nat} {get : σ → Nat → Option Nat} {i : Int32} (hA1 : vQ X.cV X.B a n get) (hin : inb i n = true) (hr : get S i.toNatClampNeg = some r) (hdg : decode cc pc = .ok (.aaload, 1)) (kk : J X (pc + 1) lv (.ref r :: st) S) : J X pc lv (.int i :: .ref a :: st) S := by
  obtain ⟨hx, hb, hml, hown, hts, hK, hA, hR, hkc, hks⟩ := h
  intro ls H locs a1 a2 a3 a4
  obtain ⟨pos, hpos⟩ := hA1 S
  refine va_aldq hx hb hK a2 pos 2 hpos rfl (inb_vp hin) hdg ?_
  rw [hr]
  exact kk ls H locs a1 a2 a3 a4
theorem j_aast (h : OK X own cc rm) {a n v : Nat} {get : σ → Nat → Option Nat} {okv : σ → Nat → Nat → Prop} {put : σ → Nat → Nat → σ} {i : Int32} {fs : σ → List Value} (hA1 : vQp X.cV X.B a n get okv put) (hin : inb i n = true) (hok : okv S i.toNatClampNeg v) (hO : vO X.B v 5 fs) (hdg : decode cc pc = .ok (.aastore, 1)) (kk : J X (pc + 1) lv st (put S i.toNatClampNeg v)) : J X pc lv (.ref v :: .int i :: .ref a :: st) S := by
  obtain ⟨hx, hb, hml, hown, hts, hK, hA, hR, hkc, hks⟩ := h
  intro ls H locs a1 a2 a3 a4
  obtain ⟨pos, hpos, hset⟩ := hA1 S i.toNatClampNeg v hok
  obtain ⟨pv, hpv⟩ := hO S
  refine va_astq (r := (RX5, TX5, 11)) hx hb hK a2 a3 a4 pos 2 pv 5 hpos rfl hpv rfl (inb_vp hin) hdg (fun H1 locs1 b2 b3 b4 => ?_)
  rw [hset] at b2 b3
  exact kk ls H1 locs1 a1 b2 b3 b4
theorem j_copy (h : OK X own cc rm) {a0 a n0 n1 index : Nat} {f g : σ → Nat → Int32} {put : σ → (Nat → Int32) → σ} {sp dp n : Int32} (sp' dp' n' : Nat) (hA0 : vA X.cI X.B a0 n0 f) (hA1 : vAp X.cI X.B a n1 g put) (e1 : sp.toNatClampNeg = sp') (e2 : dp.toNatClampNeg = dp') (e3 : n.toNatClampNeg = n') (h1 : ¬ sp < 0) (h2 : ¬ dp < 0) (h3 : ¬ n < 0) (h4 : sp' + n' ≤ n0) (h5 : dp' + n' ≤ n1) (hq : (Cond.methodLink own index arraycopyName) ∈ lw_w)
    (hfr : 1 ≤ rm.frames ∧ (st.map fun v => v.category).sum + (nativeFrameWords "java/lang/System" "arraycopy" 5 + 11) ≤ rm.locals) (hdg : decode cc pc = .ok (.invokestatic index, 3)) (kk : J X (pc + 3) lv st (put S (va_cpy (f S) (g S) sp' dp' n'))) : J X pc lv (.int n :: .int dp :: .ref a :: .int sp :: .ref a0 :: st) S := by
  obtain ⟨hx, hb, hml, hown, hts, hK, hA, hR, hkc, hks⟩ := h
  intro ls H locs a1 a2 a3 a4
  subst e1; subst e2; subst e3
  obtain ⟨p0, hp0⟩ := hA0 S
  obtain ⟨pos, hpos, hset⟩ := hA1 S (va_cpy (f S) (g S) sp.toNatClampNeg dp.toNatClampNeg n.toNatClampNeg)
  refine va_copyi hx hb (by rw [hml]; exact a1.1.symm) hown (hts _ hq) (hts _ q2_19) (hts _ q2_18) (hts _ q1_9) hK a2 a3 a4 p0 pos 0 0 hp0 hpos (ty := .int) rfl rfl rfl h1 h2 h3 h4 h5 (fun _ _ => rfl) (by rw [hR]; exact hfr.1) (by rw [hR]; exact hfr.2) hdg (fun H1 locs1 b2 b3 b4 => ?_)
  rw [hset] at b2 b3
  exact kk ls H1 locs1 a1 b2 b3 b4
theorem j_min (h : OK X own cc rm) {index : Nat} {x y : Int32} (hq : (Cond.methodLink own index Lib.Math.min.name) ∈ lw_w) (hfr : 1 ≤ rm.frames ∧ (st.map fun v => v.category).sum + 13 ≤ rm.locals) (hdg : decode cc pc = .ok (.invokestatic index, 3)) (kk : J X (pc + 3) lv (.int (jmin x y) :: st) S) : J X pc lv (.int y :: .int x :: st) S := by
  obtain ⟨hx, hb, hml, hown, hts, hK, hA, hR, hkc, hks⟩ := h
  intro ls H locs a1 a2 a3 a4
  exact va_mmin hx hb (by rw [hml]; exact a1.1.symm) hown (hts _ hq) (hts _ q2_89) (hts _ q1_8) (hts _ q2_90) (by rw [hR]; exact hfr.1) (by rw [hR]; exact hfr.2) (by rw [hR]; exact hkc) (by rw [hR]; exact hks) hdg (kk ls H locs a1 a2 a3 a4)
theorem j_max (h : OK X own cc rm) {index : Nat} {x y : Int32} (hq : (Cond.methodLink own index Lib.Math.max.name) ∈ lw_w) (hfr : 1 ≤ rm.frames ∧ (st.map fun v => v.category).sum + 13 ≤ rm.locals) (hdg : decode cc pc = .ok (.invokestatic index, 3)) (kk : J X (pc + 3) lv (.int (jmax x y) :: st) S) : J X pc lv (.int y :: .int x :: st) S := by
  obtain ⟨hx, hb, hml, hown, hts, hK, hA, hR, hkc, hks⟩ := h
  intro ls H locs a1 a2 a3 a4
  exact va_mmax hx hb (by rw [hml]; exact a1.1.symm) hown (hts _ hq) (hts _ q2_100) (hts _ q1_8) (hts _ q2_101) (by rw [hR]; exact hfr.1) (by rw [hR]; exact hfr.2) (by rw [hR]; exact hkc) (by rw [hR]; exact hks) hdg (kk ls H locs a1 a2 a3 a4)
end JH
/-! contracts over a world's family: from the world of S the method returns r, and the world is that of S' -/
def PreB {τ : Type} (D : va_G) (tys : List (ClassId × FieldType)) (B : τ → va_W) (T : τ) (sz : Nat) : State → Prop := fun U => U.heap.size = sz ∧ va_P D vwCl (B T) U.heap ∧ va_K D vwCl tys U ∧ va_D (fun _ => True) (B T)
def PostB {τ : Type} (D : va_G) (tys : List (ClassId × FieldType)) (B : τ → va_W) (T T' : τ) (sz : Nat) : State → Prop := fun t => va_P D vwCl (B T') t.heap ∧ va_K D vwCl tys t ∧ va_D (va_A (B T) sz) (B T')
def CTi {τ : Type} (l : Launch) (D : va_G) (tys : List (ClassId × FieldType)) (y : MethodName) (bytes : ByteArray) (maxL : Nat) (ret : Option FieldType) (rm : Room) (B : τ → va_W) (av : List Value) (T : τ) (r : Int32) (T' : τ) : Prop := ∀ sz, Met l y (.code y bytes maxL ret :: lw_w) rm (va_Pc av (PreB D tys B T sz)) (va_Qi (fun (r1 : Int32) (_ : Unit) => r1 = r) (fun _ => PostB D tys B T T' sz) (va_A (B T) sz)) 0 0 (va_A (B T) sz)
def CTl {τ : Type} (l : Launch) (D : va_G) (tys : List (ClassId × FieldType)) (y : MethodName) (bytes : ByteArray) (maxL : Nat) (ret : Option FieldType) (rm : Room) (B : τ → va_W) (av : List Value) (T : τ) (r : Int64) (T' : τ) : Prop := ∀ sz, Met l y (.code y bytes maxL ret :: lw_w) rm (va_Pc av (PreB D tys B T sz)) (va_Ql (fun (r1 : Int64) (_ : Unit) => r1 = r) (fun _ => PostB D tys B T T' sz) (va_A (B T) sz)) 0 0 (va_A (B T) sz)
def CTd {τ : Type} (l : Launch) (D : va_G) (tys : List (ClassId × FieldType)) (y : MethodName) (bytes : ByteArray) (maxL : Nat) (ret : Option FieldType) (rm : Room) (B : τ → va_W) (av : List Value) (T : τ) (r : UInt64) (T' : τ) : Prop := ∀ sz, Met l y (.code y bytes maxL ret :: lw_w) rm (va_Pc av (PreB D tys B T sz)) (va_Qd (fun (r1 : UInt64) (_ : Unit) => r1 = r) (fun _ => PostB D tys B T T' sz) (va_A (B T) sz)) 0 0 (va_A (B T) sz)
def CTv {τ : Type} (l : Launch) (D : va_G) (tys : List (ClassId × FieldType)) (y : MethodName) (bytes : ByteArray) (maxL : Nat) (ret : Option FieldType) (rm : Room) (B : τ → va_W) (av : List Value) (T : τ) (T' : τ) : Prop := ∀ sz, Met l y (.code y bytes maxL ret :: lw_w) rm (va_Pc av (PreB D tys B T sz)) (va_Qv (fun (_ : Unit) => True) (fun _ => PostB D tys B T T' sz) (va_A (B T) sz)) 0 0 (va_A (B T) sz)
def CTz {τ : Type} (l : Launch) (D : va_G) (tys : List (ClassId × FieldType)) (y : MethodName) (bytes : ByteArray) (maxL : Nat) (ret : Option FieldType) (rm : Room) (B : τ → va_W) (av : List Value) (T : τ) (r : Int32) (T' : τ) : Prop := ∀ sz, Met l y (.code y bytes maxL ret :: lw_w) rm (va_Pc av (PreB D tys B T sz)) (va_Qi (fun (r1 : Int32) (_ : Unit) => r1 = r ∧ narrow .boolean (.int r) = .int r) (fun _ => PostB D tys B T T' sz) (va_A (B T) sz)) 0 0 (va_A (B T) sz)
theorem PreB.blind {τ : Type} {D : va_G} {tys : List (ClassId × FieldType)} {B : τ → va_W} {T : τ} {sz : Nat} {av : List Value} : FrameBlind (va_Pc av (PreB D tys B T sz)) := fun a U g mk q => by
  obtain ⟨q0, q1, qP, qK, qD⟩ := q
  exact ⟨q0, q1, qP, va_K.moved (u := U) (U := U.calling g mk a) (Vm.Alike.refl U.vm) qK, qD⟩
def CWv (C : String) (y : MethodName) (bytes : ByteArray) (maxL : Nat) (ret : Option FieldType) (n : Nat) : Prop := Cond.instanceMethod y ∈ lw_w ∧ Cond.selects C y y ∈ lw_w ∧ Cond.initialized C ∈ lw_w ∧ Cond.code y bytes maxL ret ∈ lw_w ∧ (y.cls = C ∧ y.cls ≠ "java/lang/invoke/MethodHandle" ∧ y.cls ≠ "java/lang/invoke/VarHandle" ∧ (parseMethodDescriptor y.desc).map (fun d => d.parameters.length) = some n)
def CWs (y : MethodName) (bytes : ByteArray) (maxL : Nat) (ret : Option FieldType) (n : Nat) : Prop := Cond.static y ∈ lw_w ∧ Cond.initialized y.cls ∈ lw_w ∧ Cond.code y bytes maxL ret ∈ lw_w ∧ (y.cls ≠ "java/lang/invoke/MethodHandle" ∧ y.cls ≠ "java/lang/invoke/VarHandle" ∧ (parseMethodDescriptor y.desc).map (fun d => d.parameters.length) = some n)
theorem gi_v {own C : String} {index : Nat} {y : MethodName} {bytes : ByteArray} {maxL n : Nat} {ret : Option FieldType} (q1 : Cond.methodLink own index y ∈ lw_w) (cw : CWv C y bytes maxL ret n) : GoodIn lw_w (wsV own index C y (.code y bytes maxL ret :: lw_w)) := by
  intro w hw
  have hm : w ∈ lw_w := by
    unfold wsV at hw
    simp only [List.cons_append, List.nil_append, List.mem_cons] at hw
    rcases hw with rfl | rfl | rfl | rfl | rfl | hw
    · exact q1
    · exact cw.1
    · exact cw.2.1
    · exact cw.2.2.1
    · exact cw.2.2.2.1
    · exact hw
  exact lw_gi w hm
theorem gi_s {own : String} {index : Nat} {y : MethodName} {bytes : ByteArray} {maxL n : Nat} {ret : Option FieldType} (q1 : Cond.methodLink own index y ∈ lw_w) (cw : CWs y bytes maxL ret n) : GoodIn lw_w (va_wsS own index y (.code y bytes maxL ret :: lw_w)) := by
  intro w hw
  have hm : w ∈ lw_w := by
    unfold va_wsS at hw
    simp only [List.cons_append, List.nil_append, List.mem_cons] at hw
    rcases hw with rfl | rfl | rfl | rfl | hw
    · exact q1
    · exact cw.1
    · exact cw.2.1
    · exact cw.2.2.1
    · exact hw
  exact lw_gi w hm
section JC
variable {σ τ ρ : Type} {X : JX σ} {own C : String} {cc bytes : ByteArray} {rm rmc : Room} {pc index maxL n ci a : Nat} {lv lv' : List (Nat × Value)} {st As : List Value} {S S' : σ} {res : ρ} {y : MethodName} {ret : Option FieldType} {B' : τ → va_W} {T T' : τ} {fs : σ → List Value} {q : vw_C}
def RoomOk (rm rmc : Room) (maxL : Nat) : Prop := rmc.cells = 0 ∧ rmc.slots = 0 ∧ rmc.frames + 1 ≤ rm.frames ∧ 8 + (maxL + 11) + rmc.locals ≤ rm.locals
theorem freeB (hA : ∀ q, X.s.heap.size ≤ q → X.A q) {H : Heap} {locs : List Loc} (hB : B' T = X.B S) (a3 : va_D X.A (X.B S)) (a4 : va_S X.A X.s.heap H locs) : ∀ q, va_A (B' T) H.size q → X.A q := by
  intro q hq
  rcases hq with ⟨k, e, hk⟩ | hq
  · rw [hB] at hk; exact a3.2 k (q, e) hk
  · exact hA q (Nat.le_trans a4.1 hq)
theorem preB {D : va_G} {tys : List (ClassId × FieldType)} {s : State} {H : Heap} {B : σ → va_W} {A : Nat → Prop} (hB : B' T = B S) (hK : va_K D vwCl tys s) (a2 : va_P D vwCl (B S) H) (a3 : va_D A (B S)) (U : State) (hU : U.heap = H) (hW : s.WarmedH U.vm) : PreB D tys B' T H.size U := ⟨by rw [hU], by rw [hU, hB]; exact a2, va_K.moved hW.alike hK, by rw [hB]; exact a3.weaken (fun _ _ _ _ => trivial)⟩
theorem j_callVi (h : OK X own cc rm) {r : Int32} (hM : CTi X.l X.D (jtys X.cI X.cZ X.cV) y bytes maxL ret rmc B' (.ref a :: As) T r T') (hB : B' T = X.B S) (hB' : B' T' = X.B S') (q1 : Cond.methodLink own index y ∈ lw_w) (cw : CWv C y bytes maxL ret n) (hO : vO X.B a ci fs) (hc : vwCl[ci]? = some q) (hC : q.1 = C) (hn : As.length = n) (hroom : RoomOk rm rmc maxL) (st0 : List Value) (hst0 : st0 = As.reverse ++ .ref a :: st) (hst : (st.map fun v => v.category).sum ≤ 8) (hdg : decode cc pc = .ok (.invokevirtual index, 3)) (kk : J X (pc + 3) lv (.int r :: st) S') : J X pc lv st0 S := by
  obtain ⟨hx, hb, hml, hown, hts, hK, hA, hR, hkc, hks⟩ := h
  subst hst0
  intro ls H locs a1 a2 a3 a4
  have hFc := freeB (T := T) hA hB a3 a4
  refine va_calli (va_runV (As := As) (rest := st) ⟨hx, hb, hml, hown, hts⟩ (hM H.size) (cwV n hts (gi_v q1 cw) rfl hroom.1 hroom.2.1 cw.2.2.2.2 (by rw [hR]; exact hroom.2.2)) ⟨PreB.blind, by obtain ⟨pos, hpos⟩ := hO S; rw [← hC]; exact va_recv hK a2 hc hpos, fun U hU hW => ⟨rfl, preB hB hK a2 a3 U hU hW⟩⟩ rfl hn a1.1 rfl (lv_room hst) hdg ⟨by rw [hR]; exact hkc, by rw [hR]; exact hks⟩) a4 (fun q _ h => hFc q h) hFc (fun r1 u t H1 locs1 ht hvm hw hB1 hz1 hk1 hS1 => ?_)
  obtain ⟨hP1, hK1, hD1⟩ := hB1
  subst hw
  rw [ht] at hP1
  exact kk ls H1 locs1 a1 (by rw [← hB']; exact hP1) (by rw [← hB']; exact hD1.weaken (fun k q _ hq => hFc q.1 hq)) hS1
theorem j_callSi (h : OK X own cc rm) {r : Int32} (hM : CTi X.l X.D (jtys X.cI X.cZ X.cV) y bytes maxL ret rmc B' (As) T r T') (hB : B' T = X.B S) (hB' : B' T' = X.B S') (q1 : Cond.methodLink own index y ∈ lw_w) (cw : CWs y bytes maxL ret n) (hn : As.length = n) (hroom : RoomOk rm rmc maxL) (st0 : List Value) (hst0 : st0 = As.reverse ++ st) (hst : (st.map fun v => v.category).sum ≤ 8) (hdg : decode cc pc = .ok (.invokestatic index, 3)) (kk : J X (pc + 3) lv (.int r :: st) S') : J X pc lv st0 S := by
  obtain ⟨hx, hb, hml, hown, hts, hK, hA, hR, hkc, hks⟩ := h
  subst hst0
  intro ls H locs a1 a2 a3 a4
  have hFc := freeB (T := T) hA hB a3 a4
  refine va_calli (va_runS (As := As) (rest := st) ⟨hx, hb, hml, hown, hts⟩ (hM H.size) (va_cwS n hts (gi_s q1 cw) rfl hroom.1 hroom.2.1 cw.2.2.2 (by rw [hR]; exact hroom.2.2)) ⟨PreB.blind, fun U hU hW => ⟨rfl, preB hB hK a2 a3 U hU hW⟩⟩ rfl hn a1.1 rfl (lv_room hst) hdg ⟨by rw [hR]; exact hkc, by rw [hR]; exact hks⟩) a4 (fun q _ h => hFc q h) hFc (fun r1 u t H1 locs1 ht hvm hw hB1 hz1 hk1 hS1 => ?_)
  obtain ⟨hP1, hK1, hD1⟩ := hB1
  subst hw
  rw [ht] at hP1
  exact kk ls H1 locs1 a1 (by rw [← hB']; exact hP1) (by rw [← hB']; exact hD1.weaken (fun k q _ hq => hFc q.1 hq)) hS1
theorem j_callVz (h : OK X own cc rm) {r : Int32} (hM : CTz X.l X.D (jtys X.cI X.cZ X.cV) y bytes maxL ret rmc B' (.ref a :: As) T r T') (hB : B' T = X.B S) (hB' : B' T' = X.B S') (q1 : Cond.methodLink own index y ∈ lw_w) (cw : CWv C y bytes maxL ret n) (hO : vO X.B a ci fs) (hc : vwCl[ci]? = some q) (hC : q.1 = C) (hn : As.length = n) (hroom : RoomOk rm rmc maxL) (st0 : List Value) (hst0 : st0 = As.reverse ++ .ref a :: st) (hst : (st.map fun v => v.category).sum ≤ 8) (hdg : decode cc pc = .ok (.invokevirtual index, 3)) (kk : narrow .boolean (.int r) = .int r → J X (pc + 3) lv (.int r :: st) S') : J X pc lv st0 S := by
  obtain ⟨hx, hb, hml, hown, hts, hK, hA, hR, hkc, hks⟩ := h
  subst hst0
  intro ls H locs a1 a2 a3 a4
  have hFc := freeB (T := T) hA hB a3 a4
  refine va_calli (va_runV (As := As) (rest := st) ⟨hx, hb, hml, hown, hts⟩ (hM H.size) (cwV n hts (gi_v q1 cw) rfl hroom.1 hroom.2.1 cw.2.2.2.2 (by rw [hR]; exact hroom.2.2)) ⟨PreB.blind, by obtain ⟨pos, hpos⟩ := hO S; rw [← hC]; exact va_recv hK a2 hc hpos, fun U hU hW => ⟨rfl, preB hB hK a2 a3 U hU hW⟩⟩ rfl hn a1.1 rfl (lv_room hst) hdg ⟨by rw [hR]; exact hkc, by rw [hR]; exact hks⟩) a4 (fun q _ h => hFc q h) hFc (fun r1 u t H1 locs1 ht hvm hw hB1 hz1 hk1 hS1 => ?_)
  obtain ⟨hP1, hK1, hD1⟩ := hB1
  obtain ⟨hw, hz⟩ := hw
  subst hw
  rw [ht] at hP1
  exact kk hz ls H1 locs1 a1 (by rw [← hB']; exact hP1) (by rw [← hB']; exact hD1.weaken (fun k q _ hq => hFc q.1 hq)) hS1
theorem j_callSz (h : OK X own cc rm) {r : Int32} (hM : CTz X.l X.D (jtys X.cI X.cZ X.cV) y bytes maxL ret rmc B' (As) T r T') (hB : B' T = X.B S) (hB' : B' T' = X.B S') (q1 : Cond.methodLink own index y ∈ lw_w) (cw : CWs y bytes maxL ret n) (hn : As.length = n) (hroom : RoomOk rm rmc maxL) (st0 : List Value) (hst0 : st0 = As.reverse ++ st) (hst : (st.map fun v => v.category).sum ≤ 8) (hdg : decode cc pc = .ok (.invokestatic index, 3)) (kk : narrow .boolean (.int r) = .int r → J X (pc + 3) lv (.int r :: st) S') : J X pc lv st0 S := by
  obtain ⟨hx, hb, hml, hown, hts, hK, hA, hR, hkc, hks⟩ := h
  subst hst0
  intro ls H locs a1 a2 a3 a4
  have hFc := freeB (T := T) hA hB a3 a4
  refine va_calli (va_runS (As := As) (rest := st) ⟨hx, hb, hml, hown, hts⟩ (hM H.size) (va_cwS n hts (gi_s q1 cw) rfl hroom.1 hroom.2.1 cw.2.2.2 (by rw [hR]; exact hroom.2.2)) ⟨PreB.blind, fun U hU hW => ⟨rfl, preB hB hK a2 a3 U hU hW⟩⟩ rfl hn a1.1 rfl (lv_room hst) hdg ⟨by rw [hR]; exact hkc, by rw [hR]; exact hks⟩) a4 (fun q _ h => hFc q h) hFc (fun r1 u t H1 locs1 ht hvm hw hB1 hz1 hk1 hS1 => ?_)
  obtain ⟨hP1, hK1, hD1⟩ := hB1
  obtain ⟨hw, hz⟩ := hw
  subst hw
  rw [ht] at hP1
  exact kk hz ls H1 locs1 a1 (by rw [← hB']; exact hP1) (by rw [← hB']; exact hD1.weaken (fun k q _ hq => hFc q.1 hq)) hS1
theorem j_callVl (h : OK X own cc rm) {r : Int64} (hM : CTl X.l X.D (jtys X.cI X.cZ X.cV) y bytes maxL ret rmc B' (.ref a :: As) T r T') (hB : B' T = X.B S) (hB' : B' T' = X.B S') (q1 : Cond.methodLink own index y ∈ lw_w) (cw : CWv C y bytes maxL ret n) (hO : vO X.B a ci fs) (hc : vwCl[ci]? = some q) (hC : q.1 = C) (hn : As.length = n) (hroom : RoomOk rm rmc maxL) (st0 : List Value) (hst0 : st0 = As.reverse ++ .ref a :: st) (hst : (st.map fun v => v.category).sum ≤ 8) (hdg : decode cc pc = .ok (.invokevirtual index, 3)) (kk : J X (pc + 3) lv (.long r :: st) S') : J X pc lv st0 S := by
  obtain ⟨hx, hb, hml, hown, hts, hK, hA, hR, hkc, hks⟩ := h
  subst hst0
  intro ls H locs a1 a2 a3 a4
  have hFc := freeB (T := T) hA hB a3 a4
  refine va_calll (va_runV (As := As) (rest := st) ⟨hx, hb, hml, hown, hts⟩ (hM H.size) (cwV n hts (gi_v q1 cw) rfl hroom.1 hroom.2.1 cw.2.2.2.2 (by rw [hR]; exact hroom.2.2)) ⟨PreB.blind, by obtain ⟨pos, hpos⟩ := hO S; rw [← hC]; exact va_recv hK a2 hc hpos, fun U hU hW => ⟨rfl, preB hB hK a2 a3 U hU hW⟩⟩ rfl hn a1.1 rfl (lv_room hst) hdg ⟨by rw [hR]; exact hkc, by rw [hR]; exact hks⟩) a4 (fun q _ h => hFc q h) hFc (fun r1 u t H1 locs1 ht hvm hw hB1 hz1 hk1 hS1 => ?_)
  obtain ⟨hP1, hK1, hD1⟩ := hB1
  subst hw
  rw [ht] at hP1
  exact kk ls H1 locs1 a1 (by rw [← hB']; exact hP1) (by rw [← hB']; exact hD1.weaken (fun k q _ hq => hFc q.1 hq)) hS1
theorem j_callSl (h : OK X own cc rm) {r : Int64} (hM : CTl X.l X.D (jtys X.cI X.cZ X.cV) y bytes maxL ret rmc B' (As) T r T') (hB : B' T = X.B S) (hB' : B' T' = X.B S') (q1 : Cond.methodLink own index y ∈ lw_w) (cw : CWs y bytes maxL ret n) (hn : As.length = n) (hroom : RoomOk rm rmc maxL) (st0 : List Value) (hst0 : st0 = As.reverse ++ st) (hst : (st.map fun v => v.category).sum ≤ 8) (hdg : decode cc pc = .ok (.invokestatic index, 3)) (kk : J X (pc + 3) lv (.long r :: st) S') : J X pc lv st0 S := by
  obtain ⟨hx, hb, hml, hown, hts, hK, hA, hR, hkc, hks⟩ := h
  subst hst0
  intro ls H locs a1 a2 a3 a4
  have hFc := freeB (T := T) hA hB a3 a4
  refine va_calll (va_runS (As := As) (rest := st) ⟨hx, hb, hml, hown, hts⟩ (hM H.size) (va_cwS n hts (gi_s q1 cw) rfl hroom.1 hroom.2.1 cw.2.2.2 (by rw [hR]; exact hroom.2.2)) ⟨PreB.blind, fun U hU hW => ⟨rfl, preB hB hK a2 a3 U hU hW⟩⟩ rfl hn a1.1 rfl (lv_room hst) hdg ⟨by rw [hR]; exact hkc, by rw [hR]; exact hks⟩) a4 (fun q _ h => hFc q h) hFc (fun r1 u t H1 locs1 ht hvm hw hB1 hz1 hk1 hS1 => ?_)
  obtain ⟨hP1, hK1, hD1⟩ := hB1
  subst hw
  rw [ht] at hP1
  exact kk ls H1 locs1 a1 (by rw [← hB']; exact hP1) (by rw [← hB']; exact hD1.weaken (fun k q _ hq => hFc q.1 hq)) hS1
theorem j_callVd (h : OK X own cc rm) {r : UInt64} (hM : CTd X.l X.D (jtys X.cI X.cZ X.cV) y bytes maxL ret rmc B' (.ref a :: As) T r T') (hB : B' T = X.B S) (hB' : B' T' = X.B S') (q1 : Cond.methodLink own index y ∈ lw_w) (cw : CWv C y bytes maxL ret n) (hO : vO X.B a ci fs) (hc : vwCl[ci]? = some q) (hC : q.1 = C) (hn : As.length = n) (hroom : RoomOk rm rmc maxL) (st0 : List Value) (hst0 : st0 = As.reverse ++ .ref a :: st) (hst : (st.map fun v => v.category).sum ≤ 8) (hdg : decode cc pc = .ok (.invokevirtual index, 3)) (kk : J X (pc + 3) lv (.double r :: st) S') : J X pc lv st0 S := by
  obtain ⟨hx, hb, hml, hown, hts, hK, hA, hR, hkc, hks⟩ := h
  subst hst0
  intro ls H locs a1 a2 a3 a4
  have hFc := freeB (T := T) hA hB a3 a4
  refine va_calld (va_runV (As := As) (rest := st) ⟨hx, hb, hml, hown, hts⟩ (hM H.size) (cwV n hts (gi_v q1 cw) rfl hroom.1 hroom.2.1 cw.2.2.2.2 (by rw [hR]; exact hroom.2.2)) ⟨PreB.blind, by obtain ⟨pos, hpos⟩ := hO S; rw [← hC]; exact va_recv hK a2 hc hpos, fun U hU hW => ⟨rfl, preB hB hK a2 a3 U hU hW⟩⟩ rfl hn a1.1 rfl (lv_room hst) hdg ⟨by rw [hR]; exact hkc, by rw [hR]; exact hks⟩) a4 (fun q _ h => hFc q h) hFc (fun r1 u t H1 locs1 ht hvm hw hB1 hz1 hk1 hS1 => ?_)
  obtain ⟨hP1, hK1, hD1⟩ := hB1
  subst hw
  rw [ht] at hP1
  exact kk ls H1 locs1 a1 (by rw [← hB']; exact hP1) (by rw [← hB']; exact hD1.weaken (fun k q _ hq => hFc q.1 hq)) hS1
theorem j_callSd (h : OK X own cc rm) {r : UInt64} (hM : CTd X.l X.D (jtys X.cI X.cZ X.cV) y bytes maxL ret rmc B' (As) T r T') (hB : B' T = X.B S) (hB' : B' T' = X.B S') (q1 : Cond.methodLink own index y ∈ lw_w) (cw : CWs y bytes maxL ret n) (hn : As.length = n) (hroom : RoomOk rm rmc maxL) (st0 : List Value) (hst0 : st0 = As.reverse ++ st) (hst : (st.map fun v => v.category).sum ≤ 8) (hdg : decode cc pc = .ok (.invokestatic index, 3)) (kk : J X (pc + 3) lv (.double r :: st) S') : J X pc lv st0 S := by
  obtain ⟨hx, hb, hml, hown, hts, hK, hA, hR, hkc, hks⟩ := h
  subst hst0
  intro ls H locs a1 a2 a3 a4
  have hFc := freeB (T := T) hA hB a3 a4
  refine va_calld (va_runS (As := As) (rest := st) ⟨hx, hb, hml, hown, hts⟩ (hM H.size) (va_cwS n hts (gi_s q1 cw) rfl hroom.1 hroom.2.1 cw.2.2.2 (by rw [hR]; exact hroom.2.2)) ⟨PreB.blind, fun U hU hW => ⟨rfl, preB hB hK a2 a3 U hU hW⟩⟩ rfl hn a1.1 rfl (lv_room hst) hdg ⟨by rw [hR]; exact hkc, by rw [hR]; exact hks⟩) a4 (fun q _ h => hFc q h) hFc (fun r1 u t H1 locs1 ht hvm hw hB1 hz1 hk1 hS1 => ?_)
  obtain ⟨hP1, hK1, hD1⟩ := hB1
  subst hw
  rw [ht] at hP1
  exact kk ls H1 locs1 a1 (by rw [← hB']; exact hP1) (by rw [← hB']; exact hD1.weaken (fun k q _ hq => hFc q.1 hq)) hS1
theorem j_callVv (h : OK X own cc rm) (hM : CTv X.l X.D (jtys X.cI X.cZ X.cV) y bytes maxL ret rmc B' (.ref a :: As) T T') (hB : B' T = X.B S) (hB' : B' T' = X.B S') (q1 : Cond.methodLink own index y ∈ lw_w) (cw : CWv C y bytes maxL ret n) (hO : vO X.B a ci fs) (hc : vwCl[ci]? = some q) (hC : q.1 = C) (hn : As.length = n) (hroom : RoomOk rm rmc maxL) (st0 : List Value) (hst0 : st0 = As.reverse ++ .ref a :: st) (hst : (st.map fun v => v.category).sum ≤ 8) (hdg : decode cc pc = .ok (.invokevirtual index, 3)) (kk : J X (pc + 3) lv st S') : J X pc lv st0 S := by
  obtain ⟨hx, hb, hml, hown, hts, hK, hA, hR, hkc, hks⟩ := h
  subst hst0
  intro ls H locs a1 a2 a3 a4
  have hFc := freeB (T := T) hA hB a3 a4
  refine va_callv (va_runV (As := As) (rest := st) ⟨hx, hb, hml, hown, hts⟩ (hM H.size) (cwV n hts (gi_v q1 cw) rfl hroom.1 hroom.2.1 cw.2.2.2.2 (by rw [hR]; exact hroom.2.2)) ⟨PreB.blind, by obtain ⟨pos, hpos⟩ := hO S; rw [← hC]; exact va_recv hK a2 hc hpos, fun U hU hW => ⟨rfl, preB hB hK a2 a3 U hU hW⟩⟩ rfl hn a1.1 rfl (lv_room hst) hdg ⟨by rw [hR]; exact hkc, by rw [hR]; exact hks⟩) a4 (fun q _ h => hFc q h) hFc (fun u t H1 locs1 ht hvm hw hB1 hz1 hk1 hS1 => ?_)
  obtain ⟨hP1, hK1, hD1⟩ := hB1
  rw [ht] at hP1
  exact kk ls H1 locs1 a1 (by rw [← hB']; exact hP1) (by rw [← hB']; exact hD1.weaken (fun k q _ hq => hFc q.1 hq)) hS1
theorem j_callSv (h : OK X own cc rm) (hM : CTv X.l X.D (jtys X.cI X.cZ X.cV) y bytes maxL ret rmc B' (As) T T') (hB : B' T = X.B S) (hB' : B' T' = X.B S') (q1 : Cond.methodLink own index y ∈ lw_w) (cw : CWs y bytes maxL ret n) (hn : As.length = n) (hroom : RoomOk rm rmc maxL) (st0 : List Value) (hst0 : st0 = As.reverse ++ st) (hst : (st.map fun v => v.category).sum ≤ 8) (hdg : decode cc pc = .ok (.invokestatic index, 3)) (kk : J X (pc + 3) lv st S') : J X pc lv st0 S := by
  obtain ⟨hx, hb, hml, hown, hts, hK, hA, hR, hkc, hks⟩ := h
  subst hst0
  intro ls H locs a1 a2 a3 a4
  have hFc := freeB (T := T) hA hB a3 a4
  refine va_callv (va_runS (As := As) (rest := st) ⟨hx, hb, hml, hown, hts⟩ (hM H.size) (va_cwS n hts (gi_s q1 cw) rfl hroom.1 hroom.2.1 cw.2.2.2 (by rw [hR]; exact hroom.2.2)) ⟨PreB.blind, fun U hU hW => ⟨rfl, preB hB hK a2 a3 U hU hW⟩⟩ rfl hn a1.1 rfl (lv_room hst) hdg ⟨by rw [hR]; exact hkc, by rw [hR]; exact hks⟩) a4 (fun q _ h => hFc q h) hFc (fun u t H1 locs1 ht hvm hw hB1 hz1 hk1 hS1 => ?_)
  obtain ⟨hP1, hK1, hD1⟩ := hB1
  rw [ht] at hP1
  exact kk ls H1 locs1 a1 (by rw [← hB']; exact hP1) (by rw [← hB']; exact hD1.weaken (fun k q _ hq => hFc q.1 hq)) hS1
end JC
def EXi {σ : Type} (X : JX σ) (cc : ByteArray) (r : Int32) (S : σ) : Prop := ∀ (pc : Nat) (lv : List (Nat × Value)), decode cc pc = .ok (.ireturn, 1) → J X pc lv [.int r] S
def EXl {σ : Type} (X : JX σ) (cc : ByteArray) (r : Int64) (S : σ) : Prop := ∀ (pc : Nat) (lv : List (Nat × Value)), decode cc pc = .ok (.lreturn, 1) → J X pc lv [.long r] S
def EXd {σ : Type} (X : JX σ) (cc : ByteArray) (r : UInt64) (S : σ) : Prop := ∀ (pc : Nat) (lv : List (Nat × Value)), decode cc pc = .ok (.dreturn, 1) → J X pc lv [.double r] S
def EXz {σ : Type} (X : JX σ) (cc : ByteArray) (r : Int32) (S : σ) : Prop := ∀ (pc : Nat) (lv : List (Nat × Value)), decode cc pc = .ok (.ireturn, 1) → narrow .boolean (.int r) = .int r → J X pc lv [.int r] S
def EXv {σ : Type} (X : JX σ) (cc : ByteArray) (S : σ) : Prop := ∀ (pc : Nat) (lv : List (Nat × Value)), decode cc pc = .ok (.return_, 1) → J X pc lv [] S
set_option maxHeartbeats 1000000 in
theorem CTi.of {τ : Type} {l : Launch} {D : va_G} {cI cZ cV : ClassId} {y : MethodName} {bytes : ByteArray} {maxL : Nat} {rm : Room} {B : τ → va_W} {av : List Value} {T T' : τ} {r : Int32} (lv0 : List (Nat × Value)) (hlv : lv_args 0 av = lv0) (hsl : (lg_sl av).length ≤ maxL) (hy : plainName y.cls = true) (hrm : rm.cells = 0 ∧ rm.slots = 0) 
    (body : ∀ X : JX τ, X.l = l → X.D = D → X.cI = cI → X.cZ = cZ → X.cV = cV → X.B = B → X.nL = maxL → OK X y.cls bytes rm → EXi X bytes r T' → J X 0 lv0 [] T) : CTi l D (jtys cI cZ cV) y bytes maxL (some .int) rm B av T r T' := by
  intro sz
  refine Met.ofW (cc := bytes) (maxL := maxL) (ret := some .int) hy rfl ?_
  intro p e s m args below meth c s₁ Bd hml hv
  obtain ⟨rfl, hsz, hP, hK, hD0⟩ := hv
  subst hsz
  have hx := Bd.exec
  have hb := Bd.bytes
  have hr := Bd.returns
  have hts0 := atoms_spec (ws := .code y bytes maxL (some .int) :: lw_w) Bd.pre
  have hts : ∀ w ∈ lw_w, w.before av.toArray s = true := fun w hw => hts0 w (List.mem_cons_of_mem _ hw)
  have hown : s.vm.findClass y.cls = some m.cls := findClass_of_methodNamed Bd.named
  have hlocks := Bd.notSynchronized
  have hD := hD0.self (sz := s.heap.size)
  have hA : ∀ q : Nat, s.heap.size ≤ q → va_A (B T) s.heap.size q := fun q h => Or.inr h
  have hS : va_S (va_A (B T) s.heap.size) s.heap s.heap [] := va_S.rf
  have hl := lv_entry av (n := maxL) hsl
  rw [lg_entry_eq]
  rw [hlv] at hl
  exact body ((p, l, e, rm, s), (m, av.toArray, below, meth, c), (maxL, D, cI, cZ, cV), (0, 0), (va_A (B T) s.heap.size, MQ below (va_Qi (fun (r1 : Int32) (_ : Unit) => r1 = r) (fun _ => PostB D (jtys cI cZ cV) B T T' s.heap.size) (va_A (B T) s.heap.size)) av.toArray s 0 0 (va_A (B T) s.heap.size), B)) rfl rfl rfl rfl rfl rfl rfl ⟨hx, hb, hml, hown, hts, hK, hA, rfl, Nat.zero_le _, Nat.zero_le _⟩
    (fun pc lv hdg ls H locs a1 a2 a3 a4 => W.iret hx hb hr (fun t ht hW => ⟨⟨r, (), rfl, rfl, (by rw [ht]; exact a2), va_K.moved hW.alike hK, a3⟩, a4.F ht⟩) a4.2.2 hdg) _ _ _ hl hP hD hS
set_option maxHeartbeats 1000000 in
theorem CTl.of {τ : Type} {l : Launch} {D : va_G} {cI cZ cV : ClassId} {y : MethodName} {bytes : ByteArray} {maxL : Nat} {rm : Room} {B : τ → va_W} {av : List Value} {T T' : τ} {r : Int64} (lv0 : List (Nat × Value)) (hlv : lv_args 0 av = lv0) (hsl : (lg_sl av).length ≤ maxL) (hy : plainName y.cls = true) (hrm : rm.cells = 0 ∧ rm.slots = 0) 
    (body : ∀ X : JX τ, X.l = l → X.D = D → X.cI = cI → X.cZ = cZ → X.cV = cV → X.B = B → X.nL = maxL → OK X y.cls bytes rm → EXl X bytes r T' → J X 0 lv0 [] T) : CTl l D (jtys cI cZ cV) y bytes maxL (some .long) rm B av T r T' := by
  intro sz
  refine Met.ofW (cc := bytes) (maxL := maxL) (ret := some .long) hy rfl ?_
  intro p e s m args below meth c s₁ Bd hml hv
  obtain ⟨rfl, hsz, hP, hK, hD0⟩ := hv
  subst hsz
  have hx := Bd.exec
  have hb := Bd.bytes
  have hr := Bd.returns
  have hts0 := atoms_spec (ws := .code y bytes maxL (some .long) :: lw_w) Bd.pre
  have hts : ∀ w ∈ lw_w, w.before av.toArray s = true := fun w hw => hts0 w (List.mem_cons_of_mem _ hw)
  have hown : s.vm.findClass y.cls = some m.cls := findClass_of_methodNamed Bd.named
  have hlocks := Bd.notSynchronized
  have hD := hD0.self (sz := s.heap.size)
  have hA : ∀ q : Nat, s.heap.size ≤ q → va_A (B T) s.heap.size q := fun q h => Or.inr h
  have hS : va_S (va_A (B T) s.heap.size) s.heap s.heap [] := va_S.rf
  have hl := lv_entry av (n := maxL) hsl
  rw [lg_entry_eq]
  rw [hlv] at hl
  exact body ((p, l, e, rm, s), (m, av.toArray, below, meth, c), (maxL, D, cI, cZ, cV), (0, 0), (va_A (B T) s.heap.size, MQ below (va_Ql (fun (r1 : Int64) (_ : Unit) => r1 = r) (fun _ => PostB D (jtys cI cZ cV) B T T' s.heap.size) (va_A (B T) s.heap.size)) av.toArray s 0 0 (va_A (B T) s.heap.size), B)) rfl rfl rfl rfl rfl rfl rfl ⟨hx, hb, hml, hown, hts, hK, hA, rfl, Nat.zero_le _, Nat.zero_le _⟩
    (fun pc lv hdg ls H locs a1 a2 a3 a4 => W.lret hx hb hr (fun t ht hW => ⟨⟨r, (), rfl, rfl, (by rw [ht]; exact a2), va_K.moved hW.alike hK, a3⟩, a4.F ht⟩) a4.2.2 hdg) _ _ _ hl hP hD hS
set_option maxHeartbeats 1000000 in
theorem CTd.of {τ : Type} {l : Launch} {D : va_G} {cI cZ cV : ClassId} {y : MethodName} {bytes : ByteArray} {maxL : Nat} {rm : Room} {B : τ → va_W} {av : List Value} {T T' : τ} {r : UInt64} (lv0 : List (Nat × Value)) (hlv : lv_args 0 av = lv0) (hsl : (lg_sl av).length ≤ maxL) (hy : plainName y.cls = true) (hrm : rm.cells = 0 ∧ rm.slots = 0) 
    (body : ∀ X : JX τ, X.l = l → X.D = D → X.cI = cI → X.cZ = cZ → X.cV = cV → X.B = B → X.nL = maxL → OK X y.cls bytes rm → EXd X bytes r T' → J X 0 lv0 [] T) : CTd l D (jtys cI cZ cV) y bytes maxL (some .double) rm B av T r T' := by
  intro sz
  refine Met.ofW (cc := bytes) (maxL := maxL) (ret := some .double) hy rfl ?_
  intro p e s m args below meth c s₁ Bd hml hv
  obtain ⟨rfl, hsz, hP, hK, hD0⟩ := hv
  subst hsz
  have hx := Bd.exec
  have hb := Bd.bytes
  have hr := Bd.returns
  have hts0 := atoms_spec (ws := .code y bytes maxL (some .double) :: lw_w) Bd.pre
  have hts : ∀ w ∈ lw_w, w.before av.toArray s = true := fun w hw => hts0 w (List.mem_cons_of_mem _ hw)
  have hown : s.vm.findClass y.cls = some m.cls := findClass_of_methodNamed Bd.named
  have hlocks := Bd.notSynchronized
  have hD := hD0.self (sz := s.heap.size)
  have hA : ∀ q : Nat, s.heap.size ≤ q → va_A (B T) s.heap.size q := fun q h => Or.inr h
  have hS : va_S (va_A (B T) s.heap.size) s.heap s.heap [] := va_S.rf
  have hl := lv_entry av (n := maxL) hsl
  rw [lg_entry_eq]
  rw [hlv] at hl
  exact body ((p, l, e, rm, s), (m, av.toArray, below, meth, c), (maxL, D, cI, cZ, cV), (0, 0), (va_A (B T) s.heap.size, MQ below (va_Qd (fun (r1 : UInt64) (_ : Unit) => r1 = r) (fun _ => PostB D (jtys cI cZ cV) B T T' s.heap.size) (va_A (B T) s.heap.size)) av.toArray s 0 0 (va_A (B T) s.heap.size), B)) rfl rfl rfl rfl rfl rfl rfl ⟨hx, hb, hml, hown, hts, hK, hA, rfl, Nat.zero_le _, Nat.zero_le _⟩
    (fun pc lv hdg ls H locs a1 a2 a3 a4 => W.dret hx hb hr (fun t ht hW => ⟨⟨r, (), rfl, rfl, (by rw [ht]; exact a2), va_K.moved hW.alike hK, a3⟩, a4.F ht⟩) a4.2.2 hdg) _ _ _ hl hP hD hS
set_option maxHeartbeats 1000000 in
theorem CTz.of {τ : Type} {l : Launch} {D : va_G} {cI cZ cV : ClassId} {y : MethodName} {bytes : ByteArray} {maxL : Nat} {rm : Room} {B : τ → va_W} {av : List Value} {T T' : τ} {r : Int32} (lv0 : List (Nat × Value)) (hlv : lv_args 0 av = lv0) (hsl : (lg_sl av).length ≤ maxL) (hy : plainName y.cls = true) (hrm : rm.cells = 0 ∧ rm.slots = 0) 
    (body : ∀ X : JX τ, X.l = l → X.D = D → X.cI = cI → X.cZ = cZ → X.cV = cV → X.B = B → X.nL = maxL → OK X y.cls bytes rm → EXz X bytes r T' → J X 0 lv0 [] T) : CTz l D (jtys cI cZ cV) y bytes maxL (some .boolean) rm B av T r T' := by
  intro sz
  refine Met.ofW (cc := bytes) (maxL := maxL) (ret := some .boolean) hy rfl ?_
  intro p e s m args below meth c s₁ Bd hml hv
  obtain ⟨rfl, hsz, hP, hK, hD0⟩ := hv
  subst hsz
  have hx := Bd.exec
  have hb := Bd.bytes
  have hr := Bd.returns
  have hts0 := atoms_spec (ws := .code y bytes maxL (some .boolean) :: lw_w) Bd.pre
  have hts : ∀ w ∈ lw_w, w.before av.toArray s = true := fun w hw => hts0 w (List.mem_cons_of_mem _ hw)
  have hown : s.vm.findClass y.cls = some m.cls := findClass_of_methodNamed Bd.named
  have hlocks := Bd.notSynchronized
  have hD := hD0.self (sz := s.heap.size)
  have hA : ∀ q : Nat, s.heap.size ≤ q → va_A (B T) s.heap.size q := fun q h => Or.inr h
  have hS : va_S (va_A (B T) s.heap.size) s.heap s.heap [] := va_S.rf
  have hl := lv_entry av (n := maxL) hsl
  rw [lg_entry_eq]
  rw [hlv] at hl
  exact body ((p, l, e, rm, s), (m, av.toArray, below, meth, c), (maxL, D, cI, cZ, cV), (0, 0), (va_A (B T) s.heap.size, MQ below (va_Qi (fun (r1 : Int32) (_ : Unit) => r1 = r ∧ narrow .boolean (.int r) = .int r) (fun _ => PostB D (jtys cI cZ cV) B T T' s.heap.size) (va_A (B T) s.heap.size)) av.toArray s 0 0 (va_A (B T) s.heap.size), B)) rfl rfl rfl rfl rfl rfl rfl ⟨hx, hb, hml, hown, hts, hK, hA, rfl, Nat.zero_le _, Nat.zero_le _⟩
    (fun pc lv hdg hnr ls H locs a1 a2 a3 a4 => W.zret hx hb hr hnr (fun t ht hW => ⟨⟨r, (), rfl, ⟨rfl, hnr⟩, (by rw [ht]; exact a2), va_K.moved hW.alike hK, a3⟩, a4.F ht⟩) a4.2.2 hdg) _ _ _ hl hP hD hS
set_option maxHeartbeats 1000000 in
theorem CTv.of {τ : Type} {l : Launch} {D : va_G} {cI cZ cV : ClassId} {y : MethodName} {bytes : ByteArray} {maxL : Nat} {rm : Room} {B : τ → va_W} {av : List Value} {T T' : τ} (lv0 : List (Nat × Value)) (hlv : lv_args 0 av = lv0) (hsl : (lg_sl av).length ≤ maxL) (hy : plainName y.cls = true) (hrm : rm.cells = 0 ∧ rm.slots = 0) 
    (body : ∀ X : JX τ, X.l = l → X.D = D → X.cI = cI → X.cZ = cZ → X.cV = cV → X.B = B → X.nL = maxL → OK X y.cls bytes rm → EXv X bytes T' → J X 0 lv0 [] T) : CTv l D (jtys cI cZ cV) y bytes maxL (none) rm B av T T' := by
  intro sz
  refine Met.ofW (cc := bytes) (maxL := maxL) (ret := none) hy rfl ?_
  intro p e s m args below meth c s₁ Bd hml hv
  obtain ⟨rfl, hsz, hP, hK, hD0⟩ := hv
  subst hsz
  have hx := Bd.exec
  have hb := Bd.bytes
  have hr := Bd.returns
  have hts0 := atoms_spec (ws := .code y bytes maxL (none) :: lw_w) Bd.pre
  have hts : ∀ w ∈ lw_w, w.before av.toArray s = true := fun w hw => hts0 w (List.mem_cons_of_mem _ hw)
  have hown : s.vm.findClass y.cls = some m.cls := findClass_of_methodNamed Bd.named
  have hlocks := Bd.notSynchronized
  have hD := hD0.self (sz := s.heap.size)
  have hA : ∀ q : Nat, s.heap.size ≤ q → va_A (B T) s.heap.size q := fun q h => Or.inr h
  have hS : va_S (va_A (B T) s.heap.size) s.heap s.heap [] := va_S.rf
  have hl := lv_entry av (n := maxL) hsl
  rw [lg_entry_eq]
  rw [hlv] at hl
  exact body ((p, l, e, rm, s), (m, av.toArray, below, meth, c), (maxL, D, cI, cZ, cV), (0, 0), (va_A (B T) s.heap.size, MQ below (va_Qv (fun (_ : Unit) => True) (fun _ => PostB D (jtys cI cZ cV) B T T' s.heap.size) (va_A (B T) s.heap.size)) av.toArray s 0 0 (va_A (B T) s.heap.size), B)) rfl rfl rfl rfl rfl rfl rfl ⟨hx, hb, hml, hown, hts, hK, hA, rfl, Nat.zero_le _, Nat.zero_le _⟩
    (fun pc lv hdg ls H locs a1 a2 a3 a4 => W.vret hx hb hr (fun t ht hW => ⟨⟨(), rfl, trivial, (by rw [ht]; exact a2), va_K.moved hW.alike hK, a3⟩, a4.F ht⟩) a4.2.2 hdg) _ _ _ hl hP hD hS
