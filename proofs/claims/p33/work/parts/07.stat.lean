/-! the class's own tables: static arrays that nobody writes -/
def stHM : Nat → Int32 := fun j => match j with | 0 => 2 | 1 => 50 | 2 => 1000 | _ => 1
def stSM : Nat → Int32 := fun j => match j with | 0 => 50 | _ => 100
def stBL : Nat → Int32 := fun j => match j with | 2 => 50 | _ => 0
def stBM : Nat → Int32 := fun j => match j with | 0 => 500 | _ => 100
def Stat (t : Nat → Nat) (A : Nat → Prop) (U : State) (H : Heap) : Prop := (va_Z RX6 "HOUSE_MOST" "[I" (.ref (t 0)) A U H ∧ va_T .int (t 0) 4 (fun j => .int (stHM j)) A U H) ∧ (va_Z RX6 "SETTING_MOST" "[I" (.ref (t 1)) A U H ∧ va_T .int (t 1) 4 (fun j => .int (stSM j)) A U H) ∧ (va_Z RX6 "BATTERY_LEAST" "[I" (.ref (t 2)) A U H ∧ va_T .int (t 2) 3 (fun j => .int (stBL j)) A U H) ∧ (va_Z RX6 "BATTERY_MOST" "[I" (.ref (t 3)) A U H ∧ va_T .int (t 3) 3 (fun j => .int (stBM j)) A U H)
theorem Stat.moved {t : Nat → Nat} {A : Nat → Prop} {u U : State} {H : Heap} (hvm : u.vm.Alike U.vm) (h : Stat t A u H) : Stat t A U H := ⟨⟨h.1.1.moved hvm, h.1.2.moved hvm⟩, ⟨h.2.1.1.moved hvm, h.2.1.2.moved hvm⟩, ⟨h.2.2.1.1.moved hvm, h.2.2.1.2.moved hvm⟩, ⟨h.2.2.2.1.moved hvm, h.2.2.2.2.moved hvm⟩⟩
theorem Stat.kept {t : Nat → Nat} {A : Nat → Prop} {U : State} {H H1 : Heap} (h : Stat t A U H) (hq : ∀ a : Nat, a < H.size → ¬ A a → H1[a]? = H[a]?) : Stat t A U H1 := ⟨⟨h.1.1.kept hq, h.1.2.kept hq⟩, ⟨h.2.1.1.kept hq, h.2.1.2.kept hq⟩, ⟨h.2.2.1.1.kept hq, h.2.2.1.2.kept hq⟩, ⟨h.2.2.2.1.kept hq, h.2.2.2.2.kept hq⟩⟩
theorem Stat.narrow {t : Nat → Nat} {A B : Nat → Prop} {U : State} {H : Heap} (h : Stat t A U H) (hq : ∀ q, B q → A q) : Stat t B U H := ⟨⟨h.1.1.narrow hq, h.1.2.narrow hq⟩, ⟨h.2.1.1.narrow hq, h.2.1.2.narrow hq⟩, ⟨h.2.2.1.1.narrow hq, h.2.2.1.2.narrow hq⟩, ⟨h.2.2.2.1.narrow hq, h.2.2.2.2.narrow hq⟩⟩
section JS
variable {σ ρ : Type} {X : JX σ} {own : String} {cc : ByteArray} {rm : Room} {pc : Nat} {lv : List (Nat × Value)} {st : List Value} {S : σ}
theorem j_gets (h : OK X own cc rm) {name desc ref : String} {v : Value} {index : Nat} (hz : va_Z ref name desc v X.A X.s X.s.heap) (hq : (Cond.fieldLink own index ref name desc) ∈ lw_w) (hdg : decode cc pc = .ok (.getstatic index, 3)) (kk : J X (pc + 3) lv (v :: st) S) : J X pc lv st S := fun ls H locs a1 a2 a3 a4 => va_gets h.1 h.2.1 hz a4 h.2.2.2.1 (h.2.2.2.2.1 _ hq) (fun _ z => z) hdg (kk ls H locs a1 a2 a3 a4)
theorem j_sald (h : OK X own cc rm) {t N : Nat} {f : Nat → Int32} {i : Int32} (hT : va_T .int t N (fun j => .int (f j)) X.A X.s X.s.heap) (hin : inb i N = true) (hdg : decode cc pc = .ok (.iaload, 1)) (kk : J X (pc + 1) lv (.int (f i.toNatClampNeg) :: st) S) : J X pc lv (.int i :: .ref t :: st) S := fun ls H locs a1 a2 a3 a4 => va_ti h.1 h.2.1 hT a4 (inb_vp hin) rfl hdg (kk ls H locs a1 a2 a3 a4)
end JS
def CTis {τ : Type} (t : Nat → Nat) (l : Launch) (D : va_G) (tys : List (ClassId × FieldType)) (y : MethodName) (bytes : ByteArray) (maxL : Nat) (ret : Option FieldType) (rm : Room) (B : τ → va_W) (av : List Value) (T : τ) (r : Int32) (T' : τ) : Prop := ∀ sz, Met l y (.code y bytes maxL ret :: lw_w) rm (va_Pc av (fun U => PreB D tys B T sz U ∧ Stat t (va_A (B T) sz) U U.heap)) (va_Qi (fun (r1 : Int32) (_ : Unit) => r1 = r) (fun _ => PostB D tys B T T' sz) (va_A (B T) sz)) 0 0 (va_A (B T) sz)
set_option maxHeartbeats 1000000 in
theorem CTis.of {t : Nat → Nat} {τ : Type} {l : Launch} {D : va_G} {cI cZ cV : ClassId} {y : MethodName} {bytes : ByteArray} {maxL : Nat} {rm : Room} {B : τ → va_W} {av : List Value} {T T' : τ} {r : Int32} (lv0 : List (Nat × Value)) (hlv : lv_args 0 av = lv0) (hsl : (lg_sl av).length ≤ maxL) (hy : plainName y.cls = true) (hrm : rm.cells = 0 ∧ rm.slots = 0) 
    (body : ∀ X : JX τ, X.l = l → X.D = D → X.cI = cI → X.cZ = cZ → X.cV = cV → X.B = B → X.nL = maxL → OK X y.cls bytes rm → Stat t X.A X.s X.s.heap → EXi X bytes r T' → J X 0 lv0 [] T) : CTis t l D (jtys cI cZ cV) y bytes maxL (some .int) rm B av T r T' := by
  intro sz
  refine Met.ofW (cc := bytes) (maxL := maxL) (ret := some .int) hy rfl ?_
  intro p e s m args below meth c s₁ Bd hml hv
  obtain ⟨rfl, ⟨hsz, hP, hK, hD0⟩, hSt⟩ := hv
  subst hsz
  have hx := Bd.exec
  have hb := Bd.bytes
  have hr := Bd.returns
  have hts0 := atoms_spec (ws := .code y bytes maxL (some .int) :: lw_w) Bd.pre
  have hts : ∀ w ∈ lw_w, w.before av.toArray s = true := fun w hw => hts0 w (List.mem_cons_of_mem _ hw)
  have hown : s.vm.findClass y.cls = some m.cls := findClass_of_methodNamed Bd.named
  have hlocks := Bd.notSynchronized
  have hD := hD0.self (sz := s.heap.size)
  have hA : ∀ q : Nat, s.heap.size ≤ q → va_A (B T) s.heap.size q := fun q h => Or.inr h
  have hS : va_S (va_A (B T) s.heap.size) s.heap s.heap [] := va_S.rf
  have hl := lv_entry av (n := maxL) hsl
  rw [lg_entry_eq]
  rw [hlv] at hl
  exact body ((p, l, e, rm, s), (m, av.toArray, below, meth, c), (maxL, D, cI, cZ, cV), (0, 0), (va_A (B T) s.heap.size, MQ below (va_Qi (fun (r1 : Int32) (_ : Unit) => r1 = r) (fun _ => PostB D (jtys cI cZ cV) B T T' s.heap.size) (va_A (B T) s.heap.size)) av.toArray s 0 0 (va_A (B T) s.heap.size), B)) rfl rfl rfl rfl rfl rfl rfl ⟨hx, hb, hml, hown, hts, hK, hA, rfl, Nat.zero_le _, Nat.zero_le _⟩ hSt
    (fun pc lv hdg ls H locs a1 a2 a3 a4 => W.iret hx hb hr (fun t ht hW => ⟨⟨r, (), rfl, rfl, (by rw [ht]; exact a2), va_K.moved hW.alike hK, a3⟩, a4.F ht⟩) a4.2.2 hdg) _ _ _ hl hP hD hS
theorem j_callVis {σ τ : Type} {X : JX σ} {own C : String} {cc bytes : ByteArray} {rm rmc : Room} {pc index maxL n ci a : Nat} {lv : List (Nat × Value)} {st As : List Value} {S S' : σ} {y : MethodName} {ret : Option FieldType} {B' : τ → va_W} {T T' : τ} {fs : σ → List Value} {q : vw_C} {t : Nat → Nat} (hSt : Stat t X.A X.s X.s.heap) (h : OK X own cc rm) {r : Int32} (hM : CTis t X.l X.D (jtys X.cI X.cZ X.cV) y bytes maxL ret rmc B' (.ref a :: As) T r T') (hB : B' T = X.B S) (hB' : B' T' = X.B S') (q1 : Cond.methodLink own index y ∈ lw_w) (cw : CWv C y bytes maxL ret n) (hO : vO X.B a ci fs) (hc : vwCl[ci]? = some q) (hC : q.1 = C) (hn : As.length = n) (hroom : RoomOk rm rmc maxL) (st0 : List Value) (hst0 : st0 = As.reverse ++ .ref a :: st) (hst : (st.map fun v => v.category).sum ≤ 8) (hdg : decode cc pc = .ok (.invokevirtual index, 3)) (kk : J X (pc + 3) lv (.int r :: st) S') : J X pc lv st0 S := by
  obtain ⟨hx, hb, hml, hown, hts, hK, hA, hR, hkc, hks⟩ := h
  subst hst0
  intro ls H locs a1 a2 a3 a4
  have hFc := freeB (T := T) hA hB a3 a4
  refine va_calli (va_runV (As := As) (rest := st) ⟨hx, hb, hml, hown, hts⟩ (hM H.size) (cwV n hts (gi_v q1 cw) rfl hroom.1 hroom.2.1 cw.2.2.2.2 (by rw [hR]; exact hroom.2.2)) ⟨fun a U g mk q => ⟨(PreB.blind (av := .ref _ :: As) a U g mk ⟨q.1, q.2.1⟩).1, (PreB.blind (av := .ref _ :: As) a U g mk ⟨q.1, q.2.1⟩).2, Stat.moved (u := U) (U := U.calling g mk a) (Vm.Alike.refl U.vm) q.2.2⟩, by obtain ⟨pos, hpos⟩ := hO S; rw [← hC]; exact va_recv hK a2 hc hpos, fun U hU hW => ⟨rfl, preB hB hK a2 a3 U hU hW, by rw [hU]; exact ((hSt.moved hW.alike).kept a4.2.1).narrow hFc⟩⟩ rfl hn a1.1 rfl (lv_room hst) hdg ⟨by rw [hR]; exact hkc, by rw [hR]; exact hks⟩) a4 (fun q _ h => hFc q h) hFc (fun r1 u t H1 locs1 ht hvm hw hB1 hz1 hk1 hS1 => ?_)
  obtain ⟨hP1, hK1, hD1⟩ := hB1
  subst hw
  rw [ht] at hP1
  exact kk ls H1 locs1 a1 (by rw [← hB']; exact hP1) (by rw [← hB']; exact hD1.weaken (fun k q _ hq => hFc q.1 hq)) hS1
