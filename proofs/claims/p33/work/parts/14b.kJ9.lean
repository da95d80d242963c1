/-! a method of java.lang.Math: the class has rows of its own among the natives, the method has none -/
theorem Met.ofWF {l : Launch} {y : MethodName} {ws ws' : List Cond} {rm : Room} {Pc : Array Value → State → Prop} {Qc : Array Value → State → Outcome → State → Prop} {mc ms : Nat} {free : Addr → Prop} {cc : ByteArray} {maxL : Nat} {ret : Option FieldType}
    (hy : plainFor y = true) (hw : ws = Cond.code y cc maxL ret :: ws')
    (body : ∀ p e s m args below meth c s₁, BodyLoose p l y (headSpec ws rm) cc maxL ret e s m args below meth c s₁ → c.maxLocals = maxL → Pc args s →
      W p l e (headSpec ws rm).room s m args below meth c s.heap [] 0 0 (MQ below Qc args s mc ms free) (entryFrame m args maxL)) : Met l y ws rm Pc Qc mc ms free := by
  refine MetFree.of_bodySF (code := cc) (maxLocals := maxL) (ret := ret) hy ?_ ?_
  · intro args s m h hn
    obtain ⟨meth, c, h1, h2, h3, h4, h5, h6, -, -⟩ := Cond.code_spec hn (atoms_spec (ws := ws) h _ (by rw [hw]; exact List.mem_cons_self))
    exact ⟨meth, c, h1, h2, h3, h4, h5, h6⟩
  · intro p e s m args below meth c s₁ B hml hP _
    have hh0 : s₁.heap = s.heap := by rw [B.state]; rfl
    obtain ⟨t, a1, o, b1, b2, b3⟩ := body p e s m args below meth c s₁ B hml hP s₁ hh0 (Stand.of_body B)
    exact ⟨t, o, a1, b1, b2, ⟨b3.1, b3.2⟩⟩
set_option maxHeartbeats 1000000 in
theorem CTi.ofF {τ : Type} {l : Launch} {D : va_G} {cI cZ cV : ClassId} {y : MethodName} {bytes : ByteArray} {maxL : Nat} {rm : Room} {B : τ → va_W} {av : List Value} {T T' : τ} {r : Int32} (lv0 : List (Nat × Value)) (hlv : lv_args 0 av = lv0) (hsl : (lg_sl av).length ≤ maxL) (hy : plainFor y = true) (hrm : rm.cells = 0 ∧ rm.slots = 0) 
    (body : ∀ X : JX τ, X.l = l → X.D = D → X.cI = cI → X.cZ = cZ → X.cV = cV → X.B = B → X.nL = maxL → OK X y.cls bytes rm → EXi X bytes r T' → J X 0 lv0 [] T) : CTi l D (jtys cI cZ cV) y bytes maxL (some .int) rm B av T r T' := by
  intro sz
  refine Met.ofWF (cc := bytes) (maxL := maxL) (ret := some .int) hy rfl ?_
  intro p e s m args below meth c s₁ Bd hml hv
  obtain ⟨rfl, hsz, hP, hK, hD0⟩ := hv
  subst hsz
  have hx := Bd.exec
  have hb := Bd.bytes
  have hr := Bd.returns
  have hts0 := atoms_spec (ws := .code y bytes maxL (some .int) :: lw_w) Bd.pre
  have hts : ∀ w ∈ lw_w, w.before av.toArray s = true := fun w hw => hts0 w (List.mem_cons_of_mem _ hw)
  have hown : s.vm.findClass y.cls = some m.cls := findClass_of_methodNamed Bd.named
  have hlocks := Bd.notSynchronized
  have hD := hD0.self (sz := s.heap.size)
  have hA : ∀ q : Nat, s.heap.size ≤ q → va_A (B T) s.heap.size q := fun q h => Or.inr h
  have hS : va_S (va_A (B T) s.heap.size) s.heap s.heap [] := va_S.rf
  have hl := lv_entry av (n := maxL) hsl
  rw [lg_entry_eq]
  rw [hlv] at hl
  exact body ((p, l, e, rm, s), (m, av.toArray, below, meth, c), (maxL, D, cI, cZ, cV), (0, 0), (va_A (B T) s.heap.size, MQ below (va_Qi (fun (r1 : Int32) (_ : Unit) => r1 = r) (fun _ => PostB D (jtys cI cZ cV) B T T' s.heap.size) (va_A (B T) s.heap.size)) av.toArray s 0 0 (va_A (B T) s.heap.size), B)) rfl rfl rfl rfl rfl rfl rfl ⟨hx, hb, hml, hown, hts, hK, hA, rfl, Nat.zero_le _, Nat.zero_le _⟩
    (fun pc lv hdg ls H locs a1 a2 a3 a4 => W.iret hx hb hr (fun t ht hW => ⟨⟨r, (), rfl, rfl, (by rw [ht]; exact a2), va_K.moved hW.alike hK, a3⟩, a4.F ht⟩) a4.2.2 hdg) _ _ _ hl hP hD hS
abbrev rmJ9_floorMod_7cf53 : Room := { frames := 0, cells := 0, slots := 0, locals := 0 }
theorem cw_J9_floorMod_7cf53 : CWs yJ9_floorMod_7cf53 cJ9_floorMod_7cf53 3 (some .int) 2 := ⟨q2_197, q1_8, q2_198, ⟨by decide +kernel, by decide +kernel, by decide +kernel⟩⟩
set_option maxHeartbeats 4000000 in
set_option maxRecDepth 100000 in
theorem k_J9_floorMod_7cf53 {τ : Type} {X : JX τ} (h : OK X RJ9 cJ9_floorMod_7cf53 rmJ9_floorMod_7cf53) (hnL : X.nL = 3) {res : Int32} {S : τ} {p1 : Int32} {p2 : Int32} (hE : EXi X cJ9_floorMod_7cf53 res S) (hF : f_J9_floorMod_7cf53 p1 p2 = some res) : J X 0 [(0, .int p1), (1, .int p2)] [] S := by
  rw [f_J9_floorMod_7cf53] at hF
  refine j_iload_n h 0 rfl rfl dJ9_floorMod_7cf53_0 ?_
  refine j_iload_n h 1 rfl rfl dJ9_floorMod_7cf53_1 ?_
  obtain ⟨hb_1, hF⟩ := bnd_row hF
  refine j_irem h (nz_v hb_1) dJ9_floorMod_7cf53_2 ?_
  refine j_let hF (fun x_2 hF => ?_)
  refine j_istore_n h hnL [(2, .int x_2), (0, .int p1), (1, .int p2)] rfl (by decide) rfl dJ9_floorMod_7cf53_3 ?_
  refine j_iload_n h 1 rfl rfl dJ9_floorMod_7cf53_4 ?_
  refine j_iload_n h 2 rfl rfl dJ9_floorMod_7cf53_5 ?_
  refine j_ixor h dJ9_floorMod_7cf53_6 ?_
  refine j_if_ge h 18 (by decide) dJ9_floorMod_7cf53_7 hF (fun hF => ?_) (fun hF => ?_)
  · refine j_iload_n h 0 rfl rfl dJ9_floorMod_7cf53_18 ?_
    cases hF
    exact hE _ _ dJ9_floorMod_7cf53_19
  · refine j_iload_n h 0 rfl rfl dJ9_floorMod_7cf53_10 ?_
    refine j_if_eq h 18 (by decide) dJ9_floorMod_7cf53_11 hF (fun hF => ?_) (fun hF => ?_)
    · refine j_iload_n h 0 rfl rfl dJ9_floorMod_7cf53_18 ?_
      cases hF
      exact hE _ _ dJ9_floorMod_7cf53_19
    · refine j_iload_n h 0 rfl rfl dJ9_floorMod_7cf53_14 ?_
      refine j_iload_n h 2 rfl rfl dJ9_floorMod_7cf53_15 ?_
      refine j_iadd h dJ9_floorMod_7cf53_16 ?_
      cases hF
      exact hE _ _ dJ9_floorMod_7cf53_17
theorem c_J9_floorMod_7cf53 (l : Launch) (D : va_G) (cI cZ cV : ClassId) {τ : Type} {B : τ → va_W} (S : τ) (p1 : Int32) (p2 : Int32) {r : Int32} (hF : f_J9_floorMod_7cf53 p1 p2 = some r) : CTi l D (jtys cI cZ cV) yJ9_floorMod_7cf53 cJ9_floorMod_7cf53 3 (some .int) rmJ9_floorMod_7cf53 B [.int p1, .int p2] S r S := by
  refine CTi.ofF [(0, .int p1), (1, .int p2)] rfl (Nat.le_of_ble_eq_true rfl) (by decide +kernel) ⟨rfl, rfl⟩ (fun X e1 e2 e3 e4 e5 e6 e7 h hE => ?_)
  subst e1; subst e2; subst e3; subst e4; subst e5; subst e6
  exact k_J9_floorMod_7cf53 h e7 hE hF
