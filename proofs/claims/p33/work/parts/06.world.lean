/-! THE STATES. VS: a village, a text or the reference's rows: row k, place j. PS: villages by number (0 now, 1 ahead, 2 3 images, 4..11 the history's), 12 the text and the rest; and which village stands at a place of the history. RS: the reference. -/
abbrev VS : Type := Nat → Nat → Int32
abbrev PS : Type := (Nat → VS) × (Nat → Nat)
abbrev RS : Type := VS × Int64
def rd (v : VS) (k : Nat) (i : Int32) : Int32 := v k i.toNatClampNeg
def wn (v : VS) (k j : Nat) (x : Int32) : VS := va_up v k (upd (v k) j x)
def wr (v : VS) (k : Nat) (i x : Int32) : VS := wn v k i.toNatClampNeg x
def cpy (v : VS) (k : Nat) (f : Nat → Int32) (n : Nat) : VS := va_up v k (va_cpy f (v k) 0 0 n)
def setV (S : PS) (i : Nat) (v : VS) : PS := (va_up S.1 i v, S.2)
def setP (S : PS) (j p : Nat) : PS := (S.1, va_up S.2 j p)
def setR (S : RS) (v : VS) : RS := (v, S.2)
def setH (S : RS) (x : Int64) : RS := (S.1, x)
def n64 (r : UInt64) : Bool := decide (r &&& 0x7fffffffffffffff ≤ 0x7ff0000000000000)
theorem n64_v {r : UInt64} (h : n64 r = true) : vf_n64 r := by
  unfold n64 at h
  unfold vf_n64
  exact of_decide_eq_true h
theorem va_up_id {α : Type} (f : Nat → α) (k : Nat) : va_up f k (f k) = f := by
  funext j
  by_cases h : j = k
  · subst h; simp [va_up]
  · simp [va_up, h]
theorem va_up_up {α : Type} (f : Nat → α) (k : Nat) (x y : α) : va_up (va_up f k x) k y = va_up f k y := by
  funext j
  by_cases h : j = k
  · subst h; simp [va_up]
  · simp [va_up, h]
theorem va_up_at {α : Type} (f : Nat → α) (k : Nat) (x : α) : va_up f k x k = x := by simp [va_up]
theorem setV_id (S : PS) (i : Nat) : setV S i (S.1 i) = S := by unfold setV; rw [va_up_id]
theorem setV_up (S : PS) (i : Nat) (v w : VS) : setV (setV S i v) i w = setV S i w := by unfold setV; rw [va_up_up]
theorem setV_at (S : PS) (i : Nat) (v : VS) : (setV S i v).1 i = v := va_up_at _ _ _
def vlen : Nat → Nat
  | 0 => 10 | 1 => 10 | 2 => 10 | 3 => 10 | 4 => 10 | 5 => 10 | 6 => 10 | 7 => 10 | 8 => 10 | 9 => 10
  | 10 => 12 | 11 => 12 | 12 => 12 | 13 => 2 | 14 => 2 | 15 => 2 | 16 => 2 | 17 => 4 | 18 => 8 | 19 => 3 | 20 => 3 | _ => 48
def rlen : Nat → Nat
  | 0 => 198 | 1 => 198 | 2 => 1584 | 3 => 396 | 4 => 60 | 5 => 10 | _ => 48
def tlen : Nat → Nat
  | 0 => 60 | _ => 48
def fsH (ad : Nat → Nat) (v : VS) : List Value := [.int (v 22 0), .ref (ad 0), .ref (ad 1), .ref (ad 2), .ref (ad 3), .ref (ad 4), .ref (ad 5), .ref (ad 6), .ref (ad 7), .ref (ad 8), .ref (ad 9)]
def fsL (ad : Nat → Nat) (v : VS) : List Value := [.int (v 22 1), .ref (ad 10), .ref (ad 11), .ref (ad 12)]
def fsB (ad : Nat → Nat) (_ : VS) : List Value := [.ref (ad 13), .ref (ad 14), .ref (ad 15), .ref (ad 16)]
def fsV (ad : Nat → Nat) (v : VS) : List Value := [.ref (ad 23), .ref (ad 24), .ref (ad 25), .ref (ad 17), .ref (ad 18), .ref (ad 19), .ref (ad 20), .ref (ad 21), .int (v 22 2), .int (v 22 3), .int (v 22 4)]
def fsT (ad : Nat → Nat) (v : VS) : List Value := [.int (v 2 0), .ref (ad 0), .int (v 2 1), .ref (ad 1), .int (v 2 2), .int (v 2 3)]
def fsHi (ad : Nat → Nat) (v : VS) : List Value := [.int (v 2 4), .ref (ad 5)]
def fsP (AD : Nat → Nat → Nat) : List Value := [.ref (AD 0 22), .ref (AD 1 22), .ref (AD 12 4), .ref (AD 12 6), .ref (AD 12 3), .ref (AD 12 2)]
def fsM (ad : Nat → Nat) (S : RS) : List Value := [.ref (ad 0), .ref (ad 1), .int (S.1 7 0), .ref (ad 2), .int (S.1 7 1), .ref (ad 3), .int (S.1 7 2), .ref (ad 4), .ref (ad 5), .ref (ad 6), .int (S.1 7 3), .int (S.1 7 4), .int (S.1 7 5), .int (S.1 7 6), .int (S.1 7 7), .long S.2]
/-- a village at the addresses ad, seen through get and put -/
def IsVL {σ : Type} (get : σ → VS) (put : σ → VS → σ) (cI : ClassId) (B : σ → va_W) (ad : Nat → Nat) : Prop :=
  (∀ k, k < 22 → vAp cI B (ad k) (vlen k) (fun S => get S k) (fun S g => put S (va_up (get S) k g))) ∧ vOp B (ad 23) 2 (fun S => fsH ad (get S)) 0 (fun S x => put S (wn (get S) 22 0 x)) ∧ vOp B (ad 24) 4 (fun S => fsL ad (get S)) 0 (fun S x => put S (wn (get S) 22 1 x)) ∧ vO B (ad 25) 0 (fun S => fsB ad (get S)) ∧ vOp B (ad 22) 5 (fun S => fsV ad (get S)) 8 (fun S x => put S (wn (get S) 22 2 x)) ∧ vOp B (ad 22) 5 (fun S => fsV ad (get S)) 9 (fun S x => put S (wn (get S) 22 3 x)) ∧ vOp B (ad 22) 5 (fun S => fsV ad (get S)) 10 (fun S x => put S (wn (get S) 22 4 x))
abbrev IsVill (cI : ClassId) (B : VS → va_W) (ad : Nat → Nat) : Prop := IsVL (fun v => v) (fun _ v => v) cI B ad
theorem vAp.down {σ : Type} {get : σ → VS} {put : σ → VS → σ} {cI : ClassId} {B : σ → va_W} {a n k : Nat} (hgp : ∀ S v, get (put S v) = v) (hpp : ∀ S v w, put (put S v) w = put S w) (h : vAp cI B a n (fun S => get S k) (fun S g => put S (va_up (get S) k g))) (S : σ) : vAp cI (fun v => B (put S v)) a n (fun v => v k) (fun v g => va_up v k g) := by
  intro v g
  obtain ⟨pos, h1, h2⟩ := h (put S v) g
  dsimp only at h1 h2
  rw [hgp] at h1 h2
  rw [hpp] at h2
  exact ⟨pos, h1, h2⟩
theorem vOp.down {σ : Type} {get : σ → VS} {put : σ → VS → σ} {B : σ → va_W} {a ci k : Nat} {fs : VS → List Value} {w : VS → Int32 → VS} (hgp : ∀ S v, get (put S v) = v) (hpp : ∀ S v w, put (put S v) w = put S w) (h : vOp B a ci (fun S => fs (get S)) k (fun S x => put S (w (get S) x))) (S : σ) : vOp (fun v => B (put S v)) a ci (fun v => fs v) k (fun v x => w v x) := by
  intro v x
  obtain ⟨pos, h1, h2⟩ := h (put S v) x
  dsimp only at h1 h2
  rw [hgp] at h1 h2
  rw [hpp] at h2
  exact ⟨pos, h1, h2⟩
theorem vO.down {σ : Type} {get : σ → VS} {put : σ → VS → σ} {B : σ → va_W} {a ci : Nat} {fs : VS → List Value} (hgp : ∀ S v, get (put S v) = v) (h : vO B a ci (fun S => fs (get S))) (S : σ) : vO (fun v => B (put S v)) a ci (fun v => fs v) := by
  intro v
  obtain ⟨pos, h1⟩ := h (put S v)
  dsimp only at h1
  rw [hgp] at h1
  exact ⟨pos, h1⟩
theorem IsVL.down {σ : Type} {get : σ → VS} {put : σ → VS → σ} {cI : ClassId} {B : σ → va_W} {ad : Nat → Nat} (hgp : ∀ S v, get (put S v) = v) (hpp : ∀ S v w, put (put S v) w = put S w) (h : IsVL get put cI B ad) (S : σ) : IsVill cI (fun v => B (put S v)) ad :=
  ⟨fun k hk => (h.1 k hk).down hgp hpp S, h.2.1.down hgp hpp S, h.2.2.1.down hgp hpp S, h.2.2.2.1.down hgp S, h.2.2.2.2.1.down hgp hpp S, h.2.2.2.2.2.1.down hgp hpp S, h.2.2.2.2.2.2.down hgp hpp S⟩
/-- the text -/
def IsTL {σ : Type} (get : σ → VS) (put : σ → VS → σ) (cI : ClassId) (B : σ → va_W) (ad : Nat → Nat) : Prop :=
  (∀ k, k < 2 → vAp cI B (ad k) (tlen k) (fun S => get S k) (fun S g => put S (va_up (get S) k g))) ∧ vOp B (ad 2) 3 (fun S => fsT ad (get S)) 0 (fun S x => put S (wn (get S) 2 0 x)) ∧ vOp B (ad 2) 3 (fun S => fsT ad (get S)) 2 (fun S x => put S (wn (get S) 2 1 x)) ∧ vOp B (ad 2) 3 (fun S => fsT ad (get S)) 4 (fun S x => put S (wn (get S) 2 2 x)) ∧ vOp B (ad 2) 3 (fun S => fsT ad (get S)) 5 (fun S x => put S (wn (get S) 2 3 x))
abbrev IsText (cI : ClassId) (B : VS → va_W) (ad : Nat → Nat) : Prop := IsTL (fun v => v) (fun _ v => v) cI B ad
theorem IsTL.down {σ : Type} {get : σ → VS} {put : σ → VS → σ} {cI : ClassId} {B : σ → va_W} {ad : Nat → Nat} (hgp : ∀ S v, get (put S v) = v) (hpp : ∀ S v w, put (put S v) w = put S w) (h : IsTL get put cI B ad) (S : σ) : IsText cI (fun v => B (put S v)) ad :=
  ⟨fun k hk => (h.1 k hk).down hgp hpp S, h.2.1.down hgp hpp S, h.2.2.1.down hgp hpp S, h.2.2.2.1.down hgp hpp S, h.2.2.2.2.down hgp hpp S⟩
/-- the pool -/
def IsPool (cI cZ cV : ClassId) (B : PS → va_W) (AD : Nat → Nat → Nat) : Prop :=
  (∀ i, i < 12 → IsVL (fun S : PS => S.1 i) (fun S v => setV S i v) cI B (AD i)) ∧ IsTL (fun S : PS => S.1 12) (fun S v => setV S 12 v) cI B (AD 12) ∧ vAp cZ B (AD 12 3) 2 (fun S => S.1 12 3) (fun S g => setV S 12 (va_up (S.1 12) 3 g)) ∧ vOp B (AD 12 4) 1 (fun S => fsHi (AD 12) (S.1 12)) 0 (fun S x => setV S 12 (wn (S.1 12) 2 4 x)) ∧ vQ cV B (AD 12 6) 2 (fun _ j => some (AD (2 + j) 22)) ∧ vO B (AD 12 7) 6 (fun _ => fsP AD) ∧
  vQ cV B (AD 12 5) 8 (fun S j => some (AD (S.2 j) 22)) ∧ ∀ i, vQp cV B (AD 12 5) 8 (fun S j => some (AD (S.2 j) 22)) (fun _ _ v => v = AD i 22) (fun S j _ => setP S j i)
theorem IsPool.v {cI cZ cV : ClassId} {B : PS → va_W} {AD : Nat → Nat → Nat} (h : IsPool cI cZ cV B AD) (S : PS) (i : Nat) (hi : i < 12) : IsVill cI (fun v => B (setV S i v)) (AD i) := (h.1 i hi).down (fun S v => setV_at S i v) (fun S v w => setV_up S i v w) S
theorem IsPool.t {cI cZ cV : ClassId} {B : PS → va_W} {AD : Nat → Nat → Nat} (h : IsPool cI cZ cV B AD) (S : PS) : IsText cI (fun v => B (setV S 12 v)) (AD 12) := h.2.1.down (fun S v => setV_at S 12 v) (fun S v w => setV_up S 12 v w) S
/-- the reference -/
def IsRef (cI : ClassId) (B : RS → va_W) (ad : Nat → Nat) : Prop :=
  (∀ k, k < 7 → vAp cI B (ad k) (rlen k) (fun S => S.1 k) (fun S g => setR S (va_up S.1 k g))) ∧ vOp B (ad 7) 7 (fsM ad) 2 (fun S x => setR S (wn S.1 7 0 x)) ∧ vOp B (ad 7) 7 (fsM ad) 4 (fun S x => setR S (wn S.1 7 1 x)) ∧ vOp B (ad 7) 7 (fsM ad) 6 (fun S x => setR S (wn S.1 7 2 x)) ∧ vOp B (ad 7) 7 (fsM ad) 10 (fun S x => setR S (wn S.1 7 3 x)) ∧ vOp B (ad 7) 7 (fsM ad) 11 (fun S x => setR S (wn S.1 7 4 x)) ∧ vOp B (ad 7) 7 (fsM ad) 12 (fun S x => setR S (wn S.1 7 5 x)) ∧ vOp B (ad 7) 7 (fsM ad) 13 (fun S x => setR S (wn S.1 7 6 x)) ∧ vOp B (ad 7) 7 (fsM ad) 14 (fun S x => setR S (wn S.1 7 7 x)) ∧ vOpl B (ad 7) 7 (fsM ad) 15 (fun S x => setH S x)
def nz (y : Int32) : Bool := decide (¬ y = 0)
theorem nz_v {y : Int32} (h : nz y = true) : ¬ y = 0 := of_decide_eq_true h
def isB (y : Int32) : Bool := decide (y = 0) || decide (y = 1)
theorem isB_v {y : Int32} (h : isB y = true) : narrow .boolean (.int y) = .int y := by
  unfold isB at h
  rw [Bool.or_eq_true, decide_eq_true_eq, decide_eq_true_eq] at h
  rcases h with rfl | rfl <;> rfl
def fuel : Nat := 100000
theorem sw_ne {x : Int32} {n : Int} {y : Int32} (h : ¬ x = y) (e : y.toInt = n) : x.toInt ≠ n := fun z => h (Int32.toInt_inj.mp (z.trans e.symm))
section JW
variable {σ ρ : Type} {X : JX σ} {own : String} {cc : ByteArray} {rm : Room} {pc : Nat} {lv : List (Nat × Value)} {st : List Value} {S : σ} {res : ρ}
theorem j_letS {e : σ} {f : σ → Option ρ} (hF : letv e f = some res) (k : ∀ y : σ, f y = some res → J X pc lv st y) : J X pc lv st e := k e hF
theorem j_letN {AD : Nat → Nat → Nat} {e : Nat} {f : Nat → Option ρ} (hF : letv e f = some res) (k : ∀ y : Nat, y = e → f y = some res → J X pc lv (.ref (AD y 22) :: st) S) : J X pc lv (.ref (AD e 22) :: st) S := k e rfl hF
theorem j_case {c : Prop} {dc : Decidable c} {fa fb : Option ρ} (hF : (if c then fa else fb) = some res) (ka : c → fa = some res → J X pc lv st S) (kb : ¬ c → fb = some res → J X pc lv st S) : J X pc lv st S := by
  by_cases hc : c
  · exact ka hc (ite_t hc hF)
  · exact kb hc (ite_f hc hF)
theorem ja_iald (h : OK X own cc rm) {a n k : Nat} {get : σ → VS} {put : σ → VS → σ} {i : Int32} (hA1 : vAp X.cI X.B a n (fun S => get S k) (fun S g => put S (va_up (get S) k g))) (hin : inb i n = true) (hdg : decode cc pc = .ok (.iaload, 1)) (kk : J X (pc + 1) lv (.int (rd (get S) k i) :: st) S) : J X pc lv (.int i :: .ref a :: st) S := j_iald h hA1.a hin hdg kk
theorem ja_iast (h : OK X own cc rm) {a n k : Nat} {get : σ → VS} {put : σ → VS → σ} {i x : Int32} (hA1 : vAp X.cI X.B a n (fun S => get S k) (fun S g => put S (va_up (get S) k g))) (hin : inb i n = true) (hdg : decode cc pc = .ok (.iastore, 1)) (kk : J X (pc + 1) lv st (put S (wr (get S) k i x))) : J X pc lv (.int x :: .int i :: .ref a :: st) S := j_iast h hA1 hin hdg kk
end JW
