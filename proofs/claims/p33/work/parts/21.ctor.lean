/-! CONSTRUCTORS: worlds as plain lists that grow -/
abbrev XA {σ : Type} (X : JX σ) (k n : Nat) : JX σ := (X.1, X.2.1, X.2.2.1, (k, n), X.2.2.2.2)
def EW (U : State) : Prop := va_Nw (.methodLinkNest RX5 11 yX2_init "MeterPool") U ∧ va_Nw (.methodLinkNest RX5 20 yX4_init "MeterPool") U ∧ va_Nw (.methodLinkNest RX6 36 yX3_init "MeterPool") U ∧ va_AO RX5 U
theorem EW.warm {s U : State} (hW : s.WarmedH U.vm) (h : EW s) : EW U := ⟨va_Nw.warmM hW h.1, va_Nw.warmM hW h.2.1, va_Nw.warmM hW h.2.2.1, h.2.2.2.moved hW.alike⟩
theorem EW.same {s U : State} (hv : s.vm = U.vm) (h : EW s) : EW U := ⟨va_Nw.same rfl hv h.1, va_Nw.same rfl hv h.2.1, va_Nw.same rfl hv h.2.2.1, h.2.2.2.moved (by rw [hv]; exact Vm.Alike.refl _)⟩
def OKc (X : JX va_W) (own : String) (cc : ByteArray) (rm : Room) : Prop :=
  (X.p.tables.exec = Jvm.exec ∧ X.c.code = cc ∧ X.c.maxLocals = X.nL ∧ X.s.vm.findClass own = some X.m.cls ∧ (∀ w ∈ lw_w, w.before X.args X.s = true) ∧ va_K X.D vwCl (jtys X.cI X.cZ X.cV) X.s ∧ (∀ q, X.s.heap.size ≤ q → X.A q) ∧ X.R = rm) ∧ EW X.s ∧ X.B = (fun w => w) ∧ X.meth.name = "<init>"
def OKw (X : JX va_W) (own : String) (cc : ByteArray) (rm : Room) : Prop :=
  (X.p.tables.exec = Jvm.exec ∧ X.c.code = cc ∧ X.c.maxLocals = X.nL ∧ X.s.vm.findClass own = some X.m.cls ∧ (∀ w ∈ lw_w, w.before X.args X.s = true) ∧ va_K X.D vwCl (jtys X.cI X.cZ X.cV) X.s ∧ (∀ q, X.s.heap.size ≤ q → X.A q) ∧ X.R = rm) ∧ EW X.s ∧ X.B = (fun w => w)
theorem OKc.w {X : JX va_W} {own : String} {cc : ByteArray} {rm : Room} (h : OKc X own cc rm) : OKw X own cc rm := ⟨h.1, h.2.1, h.2.2.1⟩
theorem OKw.ok {X : JX va_W} {own : String} {cc : ByteArray} {rm : Room} (h : OKw X own cc rm) {k n : Nat} (hk : k ≤ rm.cells) (hn : n ≤ rm.slots) : OK (XA X k n) own cc rm := ⟨h.1.1, h.1.2.1, h.1.2.2.1, h.1.2.2.2.1, h.1.2.2.2.2.1, h.1.2.2.2.2.2.1, h.1.2.2.2.2.2.2.1, h.1.2.2.2.2.2.2.2, hk, hn⟩
theorem OKc.ok {X : JX va_W} {own : String} {cc : ByteArray} {rm : Room} (h : OKc X own cc rm) {k n : Nat} (hk : k ≤ rm.cells) (hn : n ≤ rm.slots) : OK (XA X k n) own cc rm := ⟨h.1.1, h.1.2.1, h.1.2.2.1, h.1.2.2.2.1, h.1.2.2.2.2.1, h.1.2.2.2.2.2.1, h.1.2.2.2.2.2.2.1, h.1.2.2.2.2.2.2.2, hk, hn⟩
/-- two arrays' classes of one type are one class -/
theorem ra_uniq_i {U : State} {cA cB : ClassId} (h1 : va_RA U cA .int) (h2 : va_RA U cB .int) : cA = cB := Option.some.inj (h1.symm.trans h2)
theorem ra_uniq_z {U : State} {cA cB : ClassId} (h1 : va_RA U cA .boolean) (h2 : va_RA U cB .boolean) : cA = cB := Option.some.inj (h1.symm.trans h2)
theorem ra_uniq_q {U : State} {C : String} {cA cB : ClassId} (h1 : va_RA U cA (.object C)) (h2 : va_RA U cB (.object C)) : cA = cB := by
  obtain ⟨k1, c1, -, -, -, e1⟩ := h1
  obtain ⟨k2, c2, -, -, -, e2⟩ := h2
  exact Option.some.inj (e1.symm.trans e2)
theorem va_joinL {A0 : Nat → Prop} {D : va_G} {cl : List vw_C} {ws wc w1 : va_W} {H H1 : Heap} (hP : va_P D cl (ws ++ wc) H) (hD : va_D A0 (ws ++ wc)) (hk : ∀ q : Nat, q < H.size → ¬ va_A wc H.size q → H1[q]? = H[q]?) (hF : ∀ q, va_A wc H.size q → A0 q) (hP1 : va_P D cl w1 H1) (hD1 : va_D (va_A wc H.size) w1) : va_P D cl (ws ++ w1) H1 ∧ va_D A0 (ws ++ w1) := by
  have hl : ∀ (k : Nat) (q : Nat × va_E), ws[k]? = some q → (ws ++ wc)[k]? = some q ∧ k < ws.length := fun k q hq => by
    have h1 := (List.getElem?_eq_some_iff.mp hq).1
    exact ⟨by rw [List.getElem?_append_left h1]; exact hq, h1⟩
  have apart : ∀ (k : Nat) (q : Nat × va_E), ws[k]? = some q → q.1 < H.size ∧ ¬ va_A wc H.size q.1 := by
    intro k q hq
    obtain ⟨h1, h2⟩ := hl k q hq
    have hlt := (hP k q h1).lt
    refine ⟨hlt, fun h => ?_⟩
    rcases h with ⟨k2, e, h⟩ | h
    · have h3 : (ws ++ wc)[ws.length + k2]? = some (q.1, e) := by
        rw [List.getElem?_append_right (Nat.le_add_right _ _), Nat.add_sub_cancel_left]; exact h
      have := hD.1 k (ws.length + k2) q (q.1, e) h1 h3 rfl
      omega
    · omega
  refine ⟨va_P.app (fun k q hq => ?_) hP1, va_D.app ⟨fun i j p q hp hq e => hD.1 i j p q (hl i p hp).1 (hl j q hq).1 e, fun k q hq => hD.2 k q (hl k q hq).1⟩ (hD1.weaken (fun k q _ h => hF q.1 h)) (fun i j x y hx hy hxy => ?_)⟩
  · obtain ⟨g1, g2⟩ := apart k q hq
    exact (hP k q (hl k q hq).1).kept (hk q.1 g1 g2)
  · exact (apart i x hx).2 (by rw [hxy]; exact hD1.2 j y hy)
def CTn (l : Launch) (D : va_G) (tys : List (ClassId × FieldType)) (y : MethodName) (bytes : ByteArray) (maxL : Nat) (rm : Room) (ci : Nat) (fs0 : List Value) (Post : Nat → va_W → Prop) : Prop := ∀ sz h0, Met l y (.code y bytes maxL none :: lw_w) rm (va_Pc [.ref h0] (fun U => EW U ∧ PreB D tys (fun _ : Unit => [(h0, .inr (ci, fs0))]) () sz U)) (va_Qv (fun w : va_W => Post h0 w) (fun w t => va_P D vwCl w t.heap ∧ va_K D vwCl tys t ∧ va_D (va_A [(h0, .inr (ci, fs0))] sz) w) (va_A [(h0, .inr (ci, fs0))] sz)) rm.cells rm.slots (va_A [(h0, .inr (ci, fs0))] sz)
section CC
variable {X : JX va_W} {own C : String} {cc bytes : ByteArray} {rm rmc : Room} {pc k n index ci N a : Nat} {lv : List (Nat × Value)} {st : List Value} {ws rest pre post : va_W} {T : u_T} {fs : List Value}
theorem jc_eq {ws' : va_W} (e : ws = ws') (kk : J (XA X k n) pc lv st ws') : J (XA X k n) pc lv st ws := e ▸ kk
theorem jc_obj (h : OKc X own cc rm) {x : Nat} (hk : k ≤ rm.cells) (hn : n ≤ rm.slots) (q1 : Cond.methodLink own index objectInit ∈ lw_w) (hfr : 1 ≤ rm.frames ∧ (st.map fun v => v.category).sum + 12 ≤ rm.locals) (hdg : decode cc pc = .ok (.invokespecial index, 3)) (kk : J (XA X k n) (pc + 3) lv st ws) : J (XA X k n) pc lv (.ref x :: st) ws := by
  obtain ⟨⟨hx, hb, hml, hown, hts, hK, hA, hR⟩, hE, hB, hin⟩ := h
  intro ls H locs a1 a2 a3 a4
  refine W.objInit hx hb hown (hts _ q1) (hts _ q1_16) (hts _ q1_17) rfl (by rw [hml]; exact a1.1) rfl hdg (by rw [hR]; exact hfr.1) (by rw [hR]; show 2 * 0 + _ + 12 ≤ _; have := hfr.2; omega) ?_
  exact kk ls H locs a1 a2 a3 a4
theorem jc_newi (h : OKc X own cc rm) {c : Int32} (c' : Nat) (hc : ¬ c < 0) (hc' : c.toNatClampNeg = c') (hc2 : c' ≤ 2000) (hk : k + 1 ≤ rm.cells) (hn : n + c' ≤ rm.slots) (hdg : decode cc pc = .ok (.newarray .int, 2)) (kk : ∀ q : Nat, J (XA X (k + 1) (n + c')) (pc + 2) lv (.ref q :: st) (ws ++ [(q, .inl (X.cI, c', .inl (fun _ => 0)))])) : J (XA X k n) pc lv (.int c :: st) ws := by
  obtain ⟨⟨hx, hb, hml, hown, hts, hK, hA, hR⟩, hE, hB, hin⟩ := h
  intro ls H locs a1 a2 a3 a4
  have a2' : va_P X.D vwCl ws H := by have := a2; rw [show (XA X k n).B = X.B from rfl, hB] at this; exact this
  have a3' : va_D X.A ws := by have := a3; rw [show (XA X k n).B = X.B from rfl, hB] at this; exact this
  refine va_newa (atype := .int) hx hb (hts _ q1_73) (ty := .int) rfl hK a2' a3' a4 hA (a0 := (c', .inl (fun _ => 0))) (fun _ => rfl) hc hc' (by show c' * 4 ≤ _; omega) (by rw [hR]; exact hk) (by rw [hR]; exact hn) hdg (fun q cA H1 bK b2 b3 b4 => ?_)
  obtain rfl : cA = X.cI := ra_uniq_i (bK.2 3 (cA, .int) rfl).2 (bK.2 0 (X.cI, .int) rfl).2
  exact kk q ls H1 locs a1 (by rw [show (XA X (k + 1) (n + c')).B = X.B from rfl, hB]; exact b2) (by rw [show (XA X (k + 1) (n + c')).B = X.B from rfl, hB]; exact b3) b4
theorem jc_newz (h : OKc X own cc rm) {c : Int32} (c' : Nat) (hc : ¬ c < 0) (hc' : c.toNatClampNeg = c') (hc2 : c' ≤ 2000) (hk : k + 1 ≤ rm.cells) (hn : n + c' ≤ rm.slots) (hdg : decode cc pc = .ok (.newarray .boolean, 2)) (kk : ∀ q : Nat, J (XA X (k + 1) (n + c')) (pc + 2) lv (.ref q :: st) (ws ++ [(q, .inl (X.cZ, c', .inl (fun _ => 0)))])) : J (XA X k n) pc lv (.int c :: st) ws := by
  obtain ⟨⟨hx, hb, hml, hown, hts, hK, hA, hR⟩, hE, hB, hin⟩ := h
  intro ls H locs a1 a2 a3 a4
  have a2' : va_P X.D vwCl ws H := by have := a2; rw [show (XA X k n).B = X.B from rfl, hB] at this; exact this
  have a3' : va_D X.A ws := by have := a3; rw [show (XA X k n).B = X.B from rfl, hB] at this; exact this
  refine va_newa (atype := .boolean) hx hb (hts _ q1_199) (ty := .boolean) rfl hK a2' a3' a4 hA (a0 := (c', .inl (fun _ => 0))) (fun _ => rfl) hc hc' (by show c' * 1 ≤ _; omega) (by rw [hR]; exact hk) (by rw [hR]; exact hn) hdg (fun q cA H1 bK b2 b3 b4 => ?_)
  obtain rfl : cA = X.cZ := ra_uniq_z (bK.2 3 (cA, .boolean) rfl).2 (bK.2 1 (X.cZ, .boolean) rfl).2
  exact kk q ls H1 locs a1 (by rw [show (XA X (k + 1) (n + c')).B = X.B from rfl, hB]; exact b2) (by rw [show (XA X (k + 1) (n + c')).B = X.B from rfl, hB]; exact b3) b4
theorem jc_newq (h : OKc X own cc rm) {c : Int32} (c' : Nat) (hc : ¬ c < 0) (hc' : c.toNatClampNeg = c') (hc2 : c' ≤ 2000) (hk : k + 1 ≤ rm.cells) (hn : n + c' ≤ rm.slots) (q1 : Cond.classLink own index RX5 ∈ lw_w) (hdg : decode cc pc = .ok (.anewarray index, 3)) (kk : ∀ q : Nat, J (XA X (k + 1) (n + c')) (pc + 3) lv (.ref q :: st) (ws ++ [(q, .inl (X.cV, c', .inr (.inr (.inr (.inr (fun _ => none))))))])) : J (XA X k n) pc lv (.int c :: st) ws := by
  obtain ⟨⟨hx, hb, hml, hown, hts, hK, hA, hR⟩, hE, hB, hin⟩ := h
  intro ls H locs a1 a2 a3 a4
  have a2' : va_P X.D vwCl ws H := by have := a2; rw [show (XA X k n).B = X.B from rfl, hB] at this; exact this
  have a3' : va_D X.A ws := by have := a3; rw [show (XA X k n).B = X.B from rfl, hB] at this; exact this
  refine va_newq hx hb hown (hts _ q1) hE.2.2.2 hK a2' a3' a4 hA hc hc' (by omega) (by rw [hR]; exact hk) (by rw [hR]; exact hn) hdg (fun q cA H1 bK b2 b3 b4 => ?_)
  obtain rfl : cA = X.cV := ra_uniq_q (bK.2 3 (cA, .object RX5) rfl).2 (bK.2 2 (X.cV, .object RX5) rfl).2
  exact kk q ls H1 locs a1 (by rw [show (XA X (k + 1) (n + c')).B = X.B from rfl, hB]; exact b2) (by rw [show (XA X (k + 1) (n + c')).B = X.B from rfl, hB]; exact b3) b4
theorem jc_get (h : OKc X own cc rm) {ref name desc : String} {fin : Bool} {v : Value} (hk : k ≤ rm.cells) (hn : n ≤ rm.slots) (hin : ∀ w ∈ u_ws C T N, w ∈ lw_w) (hc : vwCl[ci]? = some (C, T, N)) (j : Nat) (hj : j < N) (hT : T j = (ref, name, desc, fin)) (hq : (Cond.fieldLink own index ref name desc) ∈ lw_w) (hv : fs[j]? = some v) (hdg : decode cc pc = .ok (.getfield index, 3)) (kk : J (XA X k n) (pc + 3) lv (v :: st) ((a, .inr (ci, fs)) :: rest)) : J (XA X k n) pc lv (.ref a :: st) ((a, .inr (ci, fs)) :: rest) := by
  obtain ⟨⟨hx, hb, hml, hown, hts, hK, hA, hR⟩, hE, hB, hin2⟩ := h
  intro ls H locs a1 a2 a3 a4
  exact va_get hx hb hts hin hown hK a2 0 (by rw [show (XA X k n).B = X.B from rfl, hB]; rfl) hc j hj (ref := ref) (by rw [hT]; exact hts _ hq) (by rw [hT]; exact fun _ h => h) hv hdg (kk ls H locs a1 a2 a3 a4)
theorem jc_putF (h : OKc X own cc rm) {ref name desc : String} {ty0 : Nat → FieldType} {ty : FieldType} {v : Value} (hk : k ≤ rm.cells) (hn : n ≤ rm.slots) (hin : ∀ w ∈ u_ws C T N, w ∈ lw_w) (hty : ∀ k, k < N → parseFieldDescriptor (T k).2.2.1 = some (ty0 k)) (hnm : ∀ a, a < N → ∀ b, b < N → a ≠ b → (T a).2.1 ≠ (T b).2.1) (hc : vwCl[ci]? = some (C, T, N)) (j : Nat) (hj : j < N) (hT : T j = (ref, name, desc, true)) (hro : ref = own) (hq : (Cond.fieldLink own index ref name desc) ∈ lw_w) (ht : ty0 j = ty) (hnar : narrow ty v = v) (hfit : fits ty v = true) (hl : j < fs.length) (fs' : List Value) (hfs : fs.set j v = fs') (hdg : decode cc pc = .ok (.putfield index, 3)) (kk : J (XA X k n) (pc + 3) lv st ((a, .inr (ci, fs')) :: rest)) : J (XA X k n) pc lv (v :: .ref a :: st) ((a, .inr (ci, fs)) :: rest) := by
  obtain ⟨⟨hx, hb, hml, hown, hts, hK, hA, hR⟩, hE, hB, hin2⟩ := h
  intro ls H locs a1 a2 a3 a4
  refine va_putF hx hb hts hin ty0 hty hnm hown hK a2 a3 a4 0 (by rw [show (XA X k n).B = X.B from rfl, hB]; rfl) hc j hj (ref := ref) (by rw [hT]; exact hts _ hq) (by rw [hT]; exact fun _ h => h) (by rw [hT]) hin2 (by rw [hT]; exact hro) (ty := ty) (by rw [hty j hj, ht]) hnar hfit hl hdg (fun H1 locs1 b2 b3 b4 => ?_)
  rw [hfs, show (XA X k n).B = X.B from rfl, hB] at b2 b3
  exact kk ls H1 locs1 a1 (by rw [show (XA X k n).B = X.B from rfl, hB]; exact b2) (by rw [show (XA X k n).B = X.B from rfl, hB]; exact b3) b4
theorem jc_put (h : OKc X own cc rm) {ref name : String} {ty0 : Nat → FieldType} {v : Int32} (hk : k ≤ rm.cells) (hn : n ≤ rm.slots) (hin : ∀ w ∈ u_ws C T N, w ∈ lw_w) (hty : ∀ k, k < N → parseFieldDescriptor (T k).2.2.1 = some (ty0 k)) (hnm : ∀ a, a < N → ∀ b, b < N → a ≠ b → (T a).2.1 ≠ (T b).2.1) (hc : vwCl[ci]? = some (C, T, N)) (j : Nat) (hj : j < N) (hT : T j = (ref, name, "I", false)) (hq : (Cond.fieldLink own index ref name "I") ∈ lw_w) (ht : ty0 j = .int) (hl : j < fs.length) (fs' : List Value) (hfs : fs.set j (.int v) = fs') (hdg : decode cc pc = .ok (.putfield index, 3)) (kk : J (XA X k n) (pc + 3) lv st ((a, .inr (ci, fs')) :: rest)) : J (XA X k n) pc lv (.int v :: .ref a :: st) ((a, .inr (ci, fs)) :: rest) := by
  obtain ⟨⟨hx, hb, hml, hown, hts, hK, hA, hR⟩, hE, hB, hin2⟩ := h
  intro ls H locs a1 a2 a3 a4
  refine va_put hx hb hts hin ty0 hty hnm hown hK a2 a3 a4 0 (by rw [show (XA X k n).B = X.B from rfl, hB]; rfl) hc j hj (ref := ref) (by rw [hT]; exact hts _ hq) (by rw [hT]; exact fun _ h => h) (by rw [hT]) (ty := .int) (by rw [hty j hj, ht]) rfl rfl hl hdg (fun H1 locs1 b2 b3 b4 => ?_)
  rw [hfs, show (XA X k n).B = X.B from rfl, hB] at b2 b3
  exact kk ls H1 locs1 a1 (by rw [show (XA X k n).B = X.B from rfl, hB]; exact b2) (by rw [show (XA X k n).B = X.B from rfl, hB]; exact b3) b4
theorem set_mid {α : Type} (pre post : List α) (x y : α) : (pre ++ x :: post).set pre.length y = pre ++ y :: post := by
  rw [List.set_append_right _ _ (Nat.le_refl _), Nat.sub_self]; rfl
theorem get_mid {α : Type} (pre post : List α) (x : α) : (pre ++ x :: post)[pre.length]? = some x := by
  rw [List.getElem?_append_right (Nat.le_refl _), Nat.sub_self]; rfl
theorem jc_iast (h : OKc X own cc rm) {c : Nat} {f : Nat → Int32} {i x : Int32} (pre post : va_W) (hw : ws = pre ++ (a, .inl (X.cI, c, .inl f)) :: post) (hin : inb i c = true) (i' : Nat) (hi : i.toNatClampNeg = i') (hdg : decode cc pc = .ok (.iastore, 1)) (kk : J (XA X k n) (pc + 1) lv st (pre ++ (a, .inl (X.cI, c, .inl (upd f i' x))) :: post)) : J (XA X k n) pc lv (.int x :: .int i :: .ref a :: st) ws := by
  obtain ⟨⟨hx, hb, hml, hown, hts, hK, hA, hR⟩, hE, hB, hin2⟩ := h
  subst hw; subst hi
  intro ls H locs a1 a2 a3 a4
  refine va_iast hx hb hK a2 a3 a4 pre.length 0 (by rw [show (XA X k n).B = X.B from rfl, hB]; exact get_mid _ _ _) rfl (inb_vp hin) hdg (fun H1 locs1 b2 b3 b4 => ?_)
  rw [show (XA X k n).B = X.B from rfl, hB] at b2 b3
  dsimp only at b2 b3
  rw [set_mid] at b2 b3
  exact kk ls H1 locs1 a1 (by rw [show (XA X k n).B = X.B from rfl, hB]; exact b2) (by rw [show (XA X k n).B = X.B from rfl, hB]; exact b3) b4
theorem jc_aast (h : OKc X own cc rm) {c v : Nat} {vs : List Value} {f : Nat → Option Nat} {i : Int32} (pre post : va_W) (hw : ws = pre ++ (a, .inl (X.cV, c, .inr (.inr (.inr (.inr f))))) :: post) (hin : inb i c = true) (i' : Nat) (hi : i.toNatClampNeg = i') (hv : ∃ pv : Nat, ws[pv]? = some (v, .inr (5, vs))) (hdg : decode cc pc = .ok (.aastore, 1)) (kk : J (XA X k n) (pc + 1) lv st (pre ++ (a, .inl (X.cV, c, .inr (.inr (.inr (.inr (va_up f i' (some v))))))) :: post)) : J (XA X k n) pc lv (.ref v :: .int i :: .ref a :: st) ws := by
  obtain ⟨⟨hx, hb, hml, hown, hts, hK, hA, hR⟩, hE, hB, hin2⟩ := h
  obtain ⟨pv, hpv⟩ := hv
  subst hw; subst hi
  intro ls H locs a1 a2 a3 a4
  refine va_astq (r := (RX5, TX5, 11)) hx hb hK a2 a3 a4 pre.length 2 pv 5 (by rw [show (XA X k n).B = X.B from rfl, hB]; exact get_mid _ _ _) rfl (by rw [show (XA X k n).B = X.B from rfl, hB]; exact hpv) rfl (inb_vp hin) hdg (fun H1 locs1 b2 b3 b4 => ?_)
  rw [show (XA X k n).B = X.B from rfl, hB] at b2 b3
  dsimp only at b2 b3
  rw [set_mid] at b2 b3
  exact kk ls H1 locs1 a1 (by rw [show (XA X k n).B = X.B from rfl, hB]; exact b2) (by rw [show (XA X k n).B = X.B from rfl, hB]; exact b3) b4
/-- the callee of a 'new': its own words; here or as a nest mate -/
def CLn (X : JX va_W) (own : String) (ix : Nat) (y : MethodName) : Prop := Cond.methodLink own ix y ∈ lw_w ∨ va_Nw (.methodLinkNest own ix y "MeterPool") X.s
theorem jc_ctor (h : OKw X own cc rm) {y : MethodName} {maxL ix2 : Nat} {fs0 : List Value} {Post : Nat → va_W → Prop} {ty0 : Nat → FieldType} (hM : CTn X.l X.D (jtys X.cI X.cZ X.cV) y bytes maxL rmc ci fs0 Post) (hin : ∀ w ∈ u_ws C T N, w ∈ lw_w) (hty : ∀ k, k < N → parseFieldDescriptor (T k).2.2.1 = some (ty0 k)) (hc : vwCl[ci]? = some (C, T, N)) (hfs : ∀ j, j < N → defaultValue (ty0 j) = vp_V fs0 j) (q1 : Cond.classLink own index C ∈ lw_w) (q2 : Cond.instantiable C N ∈ lw_w) (q3 : Cond.initialized C ∈ lw_w) (hcl : CLn X own ix2 y) (q5 : Cond.instanceMethod y ∈ lw_w) (q6 : Cond.code y bytes maxL none ∈ lw_w) (q7 : Cond.initialized y.cls ∈ lw_w) (hy : y.name = "<init>") (hd : y.cls ≠ "java/lang/invoke/MethodHandle" ∧ y.cls ≠ "java/lang/invoke/VarHandle" ∧ (parseMethodDescriptor y.desc).map (fun d => d.parameters.length) = some 0)
    (k2 n2 : Nat) (ek : k + 1 + rmc.cells = k2) (en : n + N + rmc.slots = n2) (hk : k2 ≤ rm.cells) (hn : n2 ≤ rm.slots) (hroom : rmc.frames + 1 ≤ rm.frames ∧ 8 + (maxL + 11) + rmc.locals ≤ rm.locals) (hst : ((Value.ref 0 :: st).map fun v => v.category).sum ≤ 8)
    (hd1 : decode cc pc = .ok (.new index, 3)) (hd2 : decode cc (pc + 3) = .ok (.dup, 1)) (hd3 : decode cc (pc + 4) = .ok (.invokespecial ix2, 3)) (kk : ∀ (q : Nat) (w : va_W), Post q w → J (XA X k2 n2) (pc + 7) lv (.ref q :: st) (ws ++ w)) : J (XA X k n) pc lv st ws := by
  obtain ⟨⟨hx, hb, hml, hown, hts, hK, hA, hR⟩, hE, hB⟩ := h
  subst ek; subst en
  intro ls H locs a1 a2 a3 a4
  have a2' : va_P X.D vwCl ws H := by have := a2; rw [show (XA X k n).B = X.B from rfl, hB] at this; exact this
  have a3' : va_D X.A ws := by have := a3; rw [show (XA X k n).B = X.B from rfl, hB] at this; exact this
  refine va_new (own := own) (C := C) (T := T) (N := N) hx hb hts hin ty0 hty hown (hts _ q1) (hts _ q2) (hts _ q3) hK a2' a3' a4 hA hc (fs := fs0) hfs (by rw [hR]; show k + 1 ≤ rm.cells; omega) (by rw [hR]; show n + N ≤ rm.slots; omega) hd1 (fun q H1 b2 b3 b4 => ?_)
  refine lv_dup hx hb hd2 rfl ?_
  have hmem : (ws ++ [(q, Sum.inr (ci, fs0))] : va_W)[ws.length]? = some (q, .inr (ci, fs0)) := by rw [List.getElem?_append_right (Nat.le_refl _), Nat.sub_self]; rfl
  have hF : ∀ q', va_A [(q, Sum.inr (ci, fs0))] H1.size q' → X.A q' := by
    intro q' hq
    rcases hq with ⟨k', e, hk'⟩ | hq
    · cases k' with
      | zero => cases hk'; exact b3.2 ws.length _ hmem
      | succ k' => simp at hk'
    · exact hA q' (Nat.le_trans b4.1 hq)
  have hpre : ∀ U : State, U.heap = H1 → X.s.WarmedH U.vm → (EW U ∧ PreB X.D (jtys X.cI X.cZ X.cV) (fun _ : Unit => [(q, .inr (ci, fs0))]) () H1.size U) := by
    intro U hU hW
    refine ⟨hE.warm hW, by rw [hU], ?_, va_K.moved hW.alike hK, ?_⟩
    · rw [hU]
      intro k' x hx'
      cases k' with
      | zero => cases hx'; exact b2 ws.length _ hmem
      | succ k' => simp at hx'
    · refine ⟨fun i j p1 p2 hi hj he => ?_, fun _ _ _ => trivial⟩
      have h1 := (List.getElem?_eq_some_iff.mp hi).1
      have h2 := (List.getElem?_eq_some_iff.mp hj).1
      simp at h1 h2
      omega
  have hblind : FrameBlind (va_Pc [.ref q] (fun U => EW U ∧ PreB X.D (jtys X.cI X.cZ X.cV) (fun _ : Unit => [(q, .inr (ci, fs0))]) () H1.size U)) := fun a U g mk z => by
    obtain ⟨z0, zE, z1, zP, zK, zD⟩ := z
    exact ⟨z0, zE.same rfl, z1, zP, va_K.moved (u := U) (U := U.calling g mk a) (Vm.Alike.refl U.vm) zK, zD⟩
  have fin : ∀ (w : va_W) (t : State) (H2 : Heap) (locs2 : List Loc), t.heap = H2 → X.s.vm.Alike t.vm → Post q w → (va_P X.D vwCl w t.heap ∧ va_K X.D vwCl (jtys X.cI X.cZ X.cV) t ∧ va_D (va_A [(q, .inr (ci, fs0))] H1.size) w) → H1.size ≤ H2.size → (∀ q' : Nat, q' < H1.size → ¬ va_A [(q, .inr (ci, fs0))] H1.size q' → H2[q']? = H1[q']?) → va_S X.A X.s.heap H2 locs2 → W X.p X.l X.e X.R X.s X.m X.args X.below X.meth X.c H2 locs2 (k + 1 + rmc.cells) (n + N + rmc.slots) X.Q (F0 X.m (pc + 4 + 3) ls (.ref q :: st)) := by
    intro w t H2 locs2 ht hvm hw hB1 hz hk2 hS2
    obtain ⟨hP1, hK1, hD1⟩ := hB1
    rw [ht] at hP1
    obtain ⟨c2, c3⟩ := va_joinL b2 b3 hk2 hF hP1 hD1
    exact kk q w hw ls H2 locs2 a1 (by rw [show (XA X (k + 1 + rmc.cells) (n + N + rmc.slots)).B = X.B from rfl, hB]; exact c2) (by rw [show (XA X (k + 1 + rmc.cells) (n + N + rmc.slots)).B = X.B from rfl, hB]; exact c3) hS2
  have hgi : GoodIn lw_w (.code y bytes maxL none :: lw_w) := fun w hw => by
    rcases List.mem_cons.mp hw with rfl | hw
    · exact lw_gi _ q6
    · exact lw_gi _ hw
  rcases hcl with hcl | hcl
  · exact va_callv (va_runI (As := []) (rest := .ref q :: st) ⟨hx, hb, hml, hown, hts⟩ (hM H1.size q) (cwI 0 hts hgi rfl rfl rfl (hts _ q7) (hts _ hcl) (hts _ q5) hy hd (by rw [hR]; exact hroom)) ⟨hblind, fun U hU hW => ⟨rfl, hpre U hU hW⟩⟩ rfl rfl a1.1 rfl (lv_room hst) hd3 ⟨by rw [hR]; exact hk, by rw [hR]; exact hn⟩) b4 (fun q' _ h => hF q' h) hF (fun w t H2 locs2 e1 e2 e3 e4 e5 e6 e7 => fin w t H2 locs2 e1 e2 e3 e4 e5 e6 e7)
  · exact va_callv (va_runIN (As := []) (rest := .ref q :: st) ⟨hx, hb, hml, hown, hts⟩ (hM H1.size q) ⟨va_cnB 0 hts hgi rfl rfl rfl hcl (hts _ q7) hd (by rw [hR]; exact hroom), hy, hts _ q5⟩ ⟨hblind, fun U hU hW => ⟨rfl, hpre U hU hW⟩⟩ rfl rfl a1.1 rfl (lv_room hst) hd3 ⟨by rw [hR]; exact hk, by rw [hR]; exact hn⟩) b4 (fun q' _ h => hF q' h) hF (fun w t H2 locs2 e1 e2 e3 e4 e5 e6 e7 => fin w t H2 locs2 e1 e2 e3 e4 e5 e6 e7)
end CC
def EXc (X : JX va_W) (cc : ByteArray) (rm : Room) (Post : va_W → Prop) : Prop := ∀ (pc : Nat) (lv : List (Nat × Value)) (w : va_W), decode cc pc = .ok (.return_, 1) → Post w → J (XA X rm.cells rm.slots) pc lv [] w
set_option maxHeartbeats 1000000 in
theorem CTn.of {l : Launch} {D : va_G} {cI cZ cV : ClassId} {y : MethodName} {bytes : ByteArray} {maxL : Nat} {rm : Room} {ci : Nat} {fs0 : List Value} {Post : Nat → va_W → Prop} (hml1 : 1 ≤ maxL) (hy : plainName y.cls = true) (hyn : y.name = "<init>")
    (body : ∀ (X : JX va_W) (h0 : Nat), X.l = l → X.D = D → X.cI = cI → X.cZ = cZ → X.cV = cV → X.nL = maxL → OKc X y.cls bytes rm → EXc X bytes rm (Post h0) → J (XA X 0 0) 0 [(0, .ref h0)] [] [(h0, .inr (ci, fs0))]) : CTn l D (jtys cI cZ cV) y bytes maxL rm ci fs0 Post := by
  intro sz h0
  refine Met.ofW (cc := bytes) (maxL := maxL) (ret := none) hy rfl ?_
  intro p e s m args below meth c s₁ Bd hml hv
  obtain ⟨rfl, hE, hsz, hP, hK, hD0⟩ := hv
  subst hsz
  have hx := Bd.exec
  have hb := Bd.bytes
  have hr := Bd.returns
  have hts0 := atoms_spec (ws := .code y bytes maxL none :: lw_w) Bd.pre
  have hts : ∀ w ∈ lw_w, w.before ([.ref h0] : List Value).toArray s = true := fun w hw => hts0 w (List.mem_cons_of_mem _ hw)
  have hown : s.vm.findClass y.cls = some m.cls := findClass_of_methodNamed Bd.named
  have hin : meth.name = "<init>" := (name_of_methodNamed Bd.named Bd.method).1.trans hyn
  have hlocks := Bd.notSynchronized
  have hD := hD0.self (sz := s.heap.size)
  have hA : ∀ q : Nat, s.heap.size ≤ q → va_A [(h0, .inr (ci, fs0))] s.heap.size q := fun q h => Or.inr h
  have hS : va_S (va_A [(h0, .inr (ci, fs0))] s.heap.size) s.heap s.heap [] := va_S.rf
  have hl := lv_entry [.ref h0] (n := maxL) hml1
  rw [lg_entry_eq]
  exact body ((p, l, e, rm, s), (m, ([.ref h0] : List Value).toArray, below, meth, c), (maxL, D, cI, cZ, cV), (0, 0), (va_A [(h0, .inr (ci, fs0))] s.heap.size, MQ below (va_Qv (fun w : va_W => Post h0 w) (fun w t => va_P D vwCl w t.heap ∧ va_K D vwCl (jtys cI cZ cV) t ∧ va_D (va_A [(h0, .inr (ci, fs0))] s.heap.size) w) (va_A [(h0, .inr (ci, fs0))] s.heap.size)) ([.ref h0] : List Value).toArray s rm.cells rm.slots (va_A [(h0, .inr (ci, fs0))] s.heap.size), fun w => w)) h0 rfl rfl rfl rfl rfl rfl ⟨⟨hx, hb, hml, hown, hts, hK, hA, rfl⟩, hE, rfl, hin⟩
    (fun pc lv w hdg hp ls H locs a1 a2 a3 a4 => W.vret hx hb hr (fun t ht hW => ⟨⟨w, rfl, hp, (by rw [ht]; exact a2), va_K.moved hW.alike hK, a3⟩, a4.F ht⟩) a4.2.2 hdg) _ _ _ hl hP hD hS
