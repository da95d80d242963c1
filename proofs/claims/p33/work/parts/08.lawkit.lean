/-! THE LAW'S ROWS: d 0, ho 1, go 2, lo 3, ba 4, li 5 -/
def llen : Nat → Nat
  | 0 => 20 | 1 => 48 | 2 => 16 | 3 => 30 | 4 => 8 | _ => 12
abbrev LQ : Type := PS × VS
def IsLL {σ : Type} (get : σ → VS) (put : σ → VS → σ) (cI : ClassId) (B : σ → va_W) (al : Nat → Nat) : Prop := ∀ k, k < 6 → vAp cI B (al k) (llen k) (fun S => get S k) (fun S g => put S (va_up (get S) k g))
abbrev IsLaw (cI : ClassId) (B : VS → va_W) (al : Nat → Nat) : Prop := IsLL (fun v => v) (fun _ v => v) cI B al
theorem IsLL.down {cI : ClassId} {B : LQ → va_W} {al : Nat → Nat} (h : IsLL (fun S : LQ => S.2) (fun S v => (S.1, v)) cI B al) (P : PS) : IsLaw cI (fun R => B (P, R)) al := fun k hk v g => h k hk (P, v) g
def IsLP (cI cZ cV : ClassId) (B : LQ → va_W) (AD : Nat → Nat → Nat) (al : Nat → Nat) : Prop := (∀ R, IsPool cI cZ cV (fun S => B (S, R)) AD) ∧ IsLL (fun S : LQ => S.2) (fun S v => (S.1, v)) cI B al
theorem IsLP.o {cI cZ cV : ClassId} {B : LQ → va_W} {AD : Nat → Nat → Nat} {al : Nat → Nat} (h : IsLP cI cZ cV B AD al) : vO B (AD 12 7) 6 (fun _ => fsP AD) := fun Z => (h.1 Z.2).2.2.2.2.2.1 Z.1
section JL
variable {σ ρ : Type} {X : JX σ} {own : String} {cc : ByteArray} {rm : Room} {pc : Nat} {lv : List (Nat × Value)} {st : List Value} {S : σ}
theorem j_iushr (h : OK X own cc rm) {x y : Int32} (hdg : decode cc pc = .ok (.iushr, 1)) (k : J X (pc + 1) lv (.int ((x.toUInt32 >>> (y.toUInt32 &&& Int32.toUInt32 31)).toInt32) :: st) S) : J X pc lv (.int y :: .int x :: st) S := fun ls H locs a1 a2 a3 a4 => lv_iushr h.1 h.2.1 hdg rfl (k ls H locs a1 a2 a3 a4)
theorem j_dup_x2 (h : OK X own cc rm) {v u w : Value} (hv : v.category = 1) (hu : u.category = 1) (hw : w.category = 1) (hdg : decode cc pc = .ok (.dup_x2, 1)) (k : J X (pc + 1) lv (v :: u :: w :: v :: st) S) : J X pc lv (v :: u :: w :: st) S := fun ls H locs a1 a2 a3 a4 => lv_dup_x2 h.1 h.2.1 hdg hv hu hw (k ls H locs a1 a2 a3 a4)
end JL
def CTzs {τ : Type} (t : Nat → Nat) (l : Launch) (D : va_G) (tys : List (ClassId × FieldType)) (y : MethodName) (bytes : ByteArray) (maxL : Nat) (ret : Option FieldType) (rm : Room) (B : τ → va_W) (av : List Value) (T : τ) (r : Int32) (T' : τ) : Prop := ∀ sz, Met l y (.code y bytes maxL ret :: lw_w) rm (va_Pc av (fun U => PreB D tys B T sz U ∧ Stat t (va_A (B T) sz) U U.heap)) (va_Qi (fun (r1 : Int32) (_ : Unit) => r1 = r ∧ narrow .boolean (.int r) = .int r) (fun _ => PostB D tys B T T' sz) (va_A (B T) sz)) 0 0 (va_A (B T) sz)
set_option maxHeartbeats 1000000 in
theorem CTzs.of {t : Nat → Nat} {τ : Type} {l : Launch} {D : va_G} {cI cZ cV : ClassId} {y : MethodName} {bytes : ByteArray} {maxL : Nat} {rm : Room} {B : τ → va_W} {av : List Value} {T T' : τ} {r : Int32} (lv0 : List (Nat × Value)) (hlv : lv_args 0 av = lv0) (hsl : (lg_sl av).length ≤ maxL) (hy : plainName y.cls = true) (hrm : rm.cells = 0 ∧ rm.slots = 0) 
    (body : ∀ X : JX τ, X.l = l → X.D = D → X.cI = cI → X.cZ = cZ → X.cV = cV → X.B = B → X.nL = maxL → OK X y.cls bytes rm → Stat t X.A X.s X.s.heap → EXz X bytes r T' → J X 0 lv0 [] T) : CTzs t l D (jtys cI cZ cV) y bytes maxL (some .boolean) rm B av T r T' := by
  intro sz
  refine Met.ofW (cc := bytes) (maxL := maxL) (ret := some .boolean) hy rfl ?_
  intro p e s m args below meth c s₁ Bd hml hv
  obtain ⟨rfl, ⟨hsz, hP, hK, hD0⟩, hSt⟩ := hv
  subst hsz
  have hx := Bd.exec
  have hb := Bd.bytes
  have hr := Bd.returns
  have hts0 := atoms_spec (ws := .code y bytes maxL (some .boolean) :: lw_w) Bd.pre
  have hts : ∀ w ∈ lw_w, w.before av.toArray s = true := fun w hw => hts0 w (List.mem_cons_of_mem _ hw)
  have hown : s.vm.findClass y.cls = some m.cls := findClass_of_methodNamed Bd.named
  have hlocks := Bd.notSynchronized
  have hD := hD0.self (sz := s.heap.size)
  have hA : ∀ q : Nat, s.heap.size ≤ q → va_A (B T) s.heap.size q := fun q h => Or.inr h
  have hS : va_S (va_A (B T) s.heap.size) s.heap s.heap [] := va_S.rf
  have hl := lv_entry av (n := maxL) hsl
  rw [lg_entry_eq]
  rw [hlv] at hl
  exact body ((p, l, e, rm, s), (m, av.toArray, below, meth, c), (maxL, D, cI, cZ, cV), (0, 0), (va_A (B T) s.heap.size, MQ below (va_Qi (fun (r1 : Int32) (_ : Unit) => r1 = r ∧ narrow .boolean (.int r) = .int r) (fun _ => PostB D (jtys cI cZ cV) B T T' s.heap.size) (va_A (B T) s.heap.size)) av.toArray s 0 0 (va_A (B T) s.heap.size), B)) rfl rfl rfl rfl rfl rfl rfl ⟨hx, hb, hml, hown, hts, hK, hA, rfl, Nat.zero_le _, Nat.zero_le _⟩ hSt
    (fun pc lv hdg hnr ls H locs a1 a2 a3 a4 => W.zret hx hb hr hnr (fun t ht hW => ⟨⟨r, (), rfl, ⟨rfl, hnr⟩, (by rw [ht]; exact a2), va_K.moved hW.alike hK, a3⟩, a4.F ht⟩) a4.2.2 hdg) _ _ _ hl hP hD hS
theorem j_callSzs {σ τ : Type} {X : JX σ} {own : String} {cc bytes : ByteArray} {rm rmc : Room} {pc index maxL n : Nat} {lv : List (Nat × Value)} {st As : List Value} {S S' : σ} {y : MethodName} {ret : Option FieldType} {B' : τ → va_W} {T T' : τ} {t : Nat → Nat} (hSt : Stat t X.A X.s X.s.heap) (h : OK X own cc rm) {r : Int32} (hM : CTzs t X.l X.D (jtys X.cI X.cZ X.cV) y bytes maxL ret rmc B' As T r T') (hB : B' T = X.B S) (hB' : B' T' = X.B S') (q1 : Cond.methodLink own index y ∈ lw_w) (cw : CWs y bytes maxL ret n) (hn : As.length = n) (hroom : RoomOk rm rmc maxL) (st0 : List Value) (hst0 : st0 = As.reverse ++ st) (hst : (st.map fun v => v.category).sum ≤ 8) (hdg : decode cc pc = .ok (.invokestatic index, 3)) (kk : narrow .boolean (.int r) = .int r → J X (pc + 3) lv (.int r :: st) S') : J X pc lv st0 S := by
  obtain ⟨hx, hb, hml, hown, hts, hK, hA, hR, hkc, hks⟩ := h
  subst hst0
  intro ls H locs a1 a2 a3 a4
  have hFc := freeB (T := T) hA hB a3 a4
  refine va_calli (va_runS (As := As) (rest := st) ⟨hx, hb, hml, hown, hts⟩ (hM H.size) (va_cwS n hts (gi_s q1 cw) rfl hroom.1 hroom.2.1 cw.2.2.2 (by rw [hR]; exact hroom.2.2)) ⟨fun a U g mk q => ⟨(PreB.blind (av := As) a U g mk ⟨q.1, q.2.1⟩).1, (PreB.blind (av := As) a U g mk ⟨q.1, q.2.1⟩).2, Stat.moved (u := U) (U := U.calling g mk a) (Vm.Alike.refl U.vm) q.2.2⟩, fun U hU hW => ⟨rfl, preB hB hK a2 a3 U hU hW, by rw [hU]; exact ((hSt.moved hW.alike).kept a4.2.1).narrow hFc⟩⟩ rfl hn a1.1 rfl (lv_room hst) hdg ⟨by rw [hR]; exact hkc, by rw [hR]; exact hks⟩) a4 (fun q _ h => hFc q h) hFc (fun r1 u t H1 locs1 ht hvm hw hB1 hz1 hk1 hS1 => ?_)
  obtain ⟨hP1, hK1, hD1⟩ := hB1
  obtain ⟨hw, hz⟩ := hw
  subst hw
  rw [ht] at hP1
  exact kk hz ls H1 locs1 a1 (by rw [← hB']; exact hP1) (by rw [← hB']; exact hD1.weaken (fun k q _ hq => hFc q.1 hq)) hS1
/-- the script, that nobody writes -/
def Scr (b L : Nat) (xs : Nat → Int32) (A : Nat → Prop) (U : State) (H : Heap) : Prop := va_X b L xs U H ∧ b < H.size ∧ ¬ A b
theorem Scr.moved {b L : Nat} {xs : Nat → Int32} {A : Nat → Prop} {u U : State} {H : Heap} (hvm : u.vm.Alike U.vm) (h : Scr b L xs A u H) : Scr b L xs A U H := ⟨h.1.moved hvm, h.2.1, h.2.2⟩
theorem Scr.kept {b L : Nat} {xs : Nat → Int32} {A : Nat → Prop} {U : State} {H H1 : Heap} (h : Scr b L xs A U H) (hq : ∀ a : Nat, a < H.size → ¬ A a → H1[a]? = H[a]?) : Scr b L xs A U H1 := by
  have e := hq b h.2.1 h.2.2
  refine ⟨h.1.kept e, ?_, h.2.2⟩
  obtain ⟨scr, h1, -⟩ := h.1
  rw [← e] at h1
  exact (Array.getElem?_eq_some_iff.mp h1).1
theorem Scr.narrow {b L : Nat} {xs : Nat → Int32} {A B : Nat → Prop} {U : State} {H : Heap} (h : Scr b L xs A U H) (hq : ∀ q, B q → A q) : Scr b L xs B U H := ⟨h.1, h.2.1, fun z => h.2.2 (hq _ z)⟩
section JL2
variable {σ ρ : Type} {X : JX σ} {own : String} {cc : ByteArray} {rm : Room} {pc b L : Nat} {xs : Nat → Int32} {lv : List (Nat × Value)} {st : List Value} {S : σ}
theorem j_sldG (h : OK X own cc rm) (hS : Scr b L xs X.A X.s X.s.heap) {i : Int32} (hin : inb i L = true) (hdg : decode cc pc = .ok (.iaload, 1)) (kk : J X (pc + 1) lv (.int (xs i.toNatClampNeg) :: st) S) : J X pc lv (.int i :: .ref b :: st) S := fun ls H locs a1 a2 a3 a4 => va_sld h.1 h.2.1 hS.1 hS.2.1 hS.2.2 a4 (inb_vp hin) hdg (kk ls H locs a1 a2 a3 a4)
theorem j_slenG (h : OK X own cc rm) (hS : Scr b L xs X.A X.s X.s.heap) (hdg : decode cc pc = .ok (.arraylength, 1)) (kk : J X (pc + 1) lv (.int (Int32.ofNat L) :: st) S) : J X pc lv (.ref b :: st) S := fun ls H locs a1 a2 a3 a4 => va_slen h.1 h.2.1 hS.1 hS.2.1 hS.2.2 a4 hdg (kk ls H locs a1 a2 a3 a4)
end JL2
def f_L_cell (sc : Nat × (Nat → Int32)) (p2 : Int32) : Option (Int32) := if Int32.ofNat sc.1 ≤ p2 then some ((1541459225 : Int32) * (p2 + (97 : Int32))) else bnd (inb p2 sc.1) (some (sc.2 p2.toNatClampNeg))
def CTix {τ : Type} (b L : Nat) (xs : Nat → Int32) (l : Launch) (D : va_G) (tys : List (ClassId × FieldType)) (y : MethodName) (bytes : ByteArray) (maxL : Nat) (ret : Option FieldType) (rm : Room) (B : τ → va_W) (av : List Value) (T : τ) (r : Int32) (T' : τ) : Prop := ∀ sz, Met l y (.code y bytes maxL ret :: lw_w) rm (va_Pc av (fun U => PreB D tys B T sz U ∧ Scr b L xs (va_A (B T) sz) U U.heap)) (va_Qi (fun (r1 : Int32) (_ : Unit) => r1 = r) (fun _ => PostB D tys B T T' sz) (va_A (B T) sz)) 0 0 (va_A (B T) sz)
set_option maxHeartbeats 1000000 in
theorem CTix.of {b L : Nat} {xs : Nat → Int32} {τ : Type} {l : Launch} {D : va_G} {cI cZ cV : ClassId} {y : MethodName} {bytes : ByteArray} {maxL : Nat} {rm : Room} {B : τ → va_W} {av : List Value} {T T' : τ} {r : Int32} (lv0 : List (Nat × Value)) (hlv : lv_args 0 av = lv0) (hsl : (lg_sl av).length ≤ maxL) (hy : plainName y.cls = true) (hrm : rm.cells = 0 ∧ rm.slots = 0) 
    (body : ∀ X : JX τ, X.l = l → X.D = D → X.cI = cI → X.cZ = cZ → X.cV = cV → X.B = B → X.nL = maxL → OK X y.cls bytes rm → Scr b L xs X.A X.s X.s.heap → EXi X bytes r T' → J X 0 lv0 [] T) : CTix b L xs l D (jtys cI cZ cV) y bytes maxL (some .int) rm B av T r T' := by
  intro sz
  refine Met.ofW (cc := bytes) (maxL := maxL) (ret := some .int) hy rfl ?_
  intro p e s m args below meth c s₁ Bd hml hv
  obtain ⟨rfl, ⟨hsz, hP, hK, hD0⟩, hSc⟩ := hv
  subst hsz
  have hx := Bd.exec
  have hb := Bd.bytes
  have hr := Bd.returns
  have hts0 := atoms_spec (ws := .code y bytes maxL (some .int) :: lw_w) Bd.pre
  have hts : ∀ w ∈ lw_w, w.before av.toArray s = true := fun w hw => hts0 w (List.mem_cons_of_mem _ hw)
  have hown : s.vm.findClass y.cls = some m.cls := findClass_of_methodNamed Bd.named
  have hlocks := Bd.notSynchronized
  have hD := hD0.self (sz := s.heap.size)
  have hA : ∀ q : Nat, s.heap.size ≤ q → va_A (B T) s.heap.size q := fun q h => Or.inr h
  have hS : va_S (va_A (B T) s.heap.size) s.heap s.heap [] := va_S.rf
  have hl := lv_entry av (n := maxL) hsl
  rw [lg_entry_eq]
  rw [hlv] at hl
  exact body ((p, l, e, rm, s), (m, av.toArray, below, meth, c), (maxL, D, cI, cZ, cV), (0, 0), (va_A (B T) s.heap.size, MQ below (va_Qi (fun (r1 : Int32) (_ : Unit) => r1 = r) (fun _ => PostB D (jtys cI cZ cV) B T T' s.heap.size) (va_A (B T) s.heap.size)) av.toArray s 0 0 (va_A (B T) s.heap.size), B)) rfl rfl rfl rfl rfl rfl rfl ⟨hx, hb, hml, hown, hts, hK, hA, rfl, Nat.zero_le _, Nat.zero_le _⟩ hSc
    (fun pc lv hdg ls H locs a1 a2 a3 a4 => W.iret hx hb hr (fun t ht hW => ⟨⟨r, (), rfl, rfl, (by rw [ht]; exact a2), va_K.moved hW.alike hK, a3⟩, a4.F ht⟩) a4.2.2 hdg) _ _ _ hl hP hD hS
theorem j_callSix {σ τ : Type} {X : JX σ} {own : String} {cc bytes : ByteArray} {rm rmc : Room} {pc index maxL n : Nat} {lv : List (Nat × Value)} {st As : List Value} {S S' : σ} {y : MethodName} {ret : Option FieldType} {B' : τ → va_W} {T T' : τ} {b L : Nat} {xs : Nat → Int32} (hSc : Scr b L xs X.A X.s X.s.heap) (h : OK X own cc rm) {r : Int32} (hM : CTix b L xs X.l X.D (jtys X.cI X.cZ X.cV) y bytes maxL ret rmc B' As T r T') (hB : B' T = X.B S) (hB' : B' T' = X.B S') (q1 : Cond.methodLink own index y ∈ lw_w) (cw : CWs y bytes maxL ret n) (hn : As.length = n) (hroom : RoomOk rm rmc maxL) (st0 : List Value) (hst0 : st0 = As.reverse ++ st) (hst : (st.map fun v => v.category).sum ≤ 8) (hdg : decode cc pc = .ok (.invokestatic index, 3)) (kk : J X (pc + 3) lv (.int r :: st) S') : J X pc lv st0 S := by
  obtain ⟨hx, hb, hml, hown, hts, hK, hA, hR, hkc, hks⟩ := h
  subst hst0
  intro ls H locs a1 a2 a3 a4
  have hFc := freeB (T := T) hA hB a3 a4
  refine va_calli (va_runS (As := As) (rest := st) ⟨hx, hb, hml, hown, hts⟩ (hM H.size) (va_cwS n hts (gi_s q1 cw) rfl hroom.1 hroom.2.1 cw.2.2.2 (by rw [hR]; exact hroom.2.2)) ⟨fun a U g mk q => ⟨(PreB.blind (av := As) a U g mk ⟨q.1, q.2.1⟩).1, (PreB.blind (av := As) a U g mk ⟨q.1, q.2.1⟩).2, Scr.moved (u := U) (U := U.calling g mk a) (Vm.Alike.refl U.vm) q.2.2⟩, fun U hU hW => ⟨rfl, preB hB hK a2 a3 U hU hW, by rw [hU]; exact ((hSc.moved hW.alike).kept a4.2.1).narrow hFc⟩⟩ rfl hn a1.1 rfl (lv_room hst) hdg ⟨by rw [hR]; exact hkc, by rw [hR]; exact hks⟩) a4 (fun q _ h => hFc q h) hFc (fun r1 u t H1 locs1 ht hvm hw hB1 hz1 hk1 hS1 => ?_)
  obtain ⟨hP1, hK1, hD1⟩ := hB1
  subst hw
  rw [ht] at hP1
  exact kk ls H1 locs1 a1 (by rw [← hB']; exact hP1) (by rw [← hB']; exact hD1.weaken (fun k q _ hq => hFc q.1 hq)) hS1
