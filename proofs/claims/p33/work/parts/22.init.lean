/-! what each constructor leaves -/
def zr : Nat → Int32 := fun _ => 0
def b20 : Nat → Int32 := upd (upd zr 0 20) 1 20
def b90 : Nat → Int32 := upd (upd zr 0 90) 1 90
def set0 : Nat → Int32 := upd (upd (upd (upd zr 0 5) 1 40) 2 50) 3 50
def list0 : Nat → Int32 := upd zr 0 20
def vinit : VS := fun k => match k with | 14 => b20 | 15 => b90 | 17 => set0 | 21 => list0 | 22 => (fun j => if j = 2 then 1 else if j = 4 then 1 else 0) | _ => zr
def arrI (cI : ClassId) (a n : Nat) (f : Nat → Int32) : Nat × va_E := (a, .inl (cI, n, .inl f))
def villW (cI : ClassId) (ad : Nat → Nat) (v : VS) : va_W := (ad 22, .inr (5, fsV ad v)) :: (ad 23, .inr (2, fsH ad v)) :: arrI cI (ad 0) 10 (v 0) :: arrI cI (ad 1) 10 (v 1) :: arrI cI (ad 2) 10 (v 2) :: arrI cI (ad 3) 10 (v 3) :: arrI cI (ad 4) 10 (v 4) :: arrI cI (ad 5) 10 (v 5) :: arrI cI (ad 6) 10 (v 6) :: arrI cI (ad 7) 10 (v 7) :: arrI cI (ad 8) 10 (v 8) :: arrI cI (ad 9) 10 (v 9) :: (ad 24, .inr (4, fsL ad v)) :: arrI cI (ad 10) 12 (v 10) :: arrI cI (ad 11) 12 (v 11) :: arrI cI (ad 12) 12 (v 12) :: (ad 25, .inr (0, fsB ad v)) :: arrI cI (ad 13) 2 (v 13) :: arrI cI (ad 14) 2 (v 14) :: arrI cI (ad 15) 2 (v 15) :: arrI cI (ad 16) 2 (v 16) :: arrI cI (ad 17) 4 (v 17) :: arrI cI (ad 18) 8 (v 18) :: arrI cI (ad 19) 3 (v 19) :: arrI cI (ad 20) 3 (v 20) :: arrI cI (ad 21) 48 (v 21) :: []
def textW (cI : ClassId) (ad : Nat → Nat) (v : VS) : va_W := (ad 2, .inr (3, fsT ad v)) :: arrI cI (ad 0) 60 (v 0) :: arrI cI (ad 1) 48 (v 1) :: []
def refW (cI : ClassId) (ad : Nat → Nat) (S : RS) : va_W := (ad 7, .inr (7, fsM ad S)) :: arrI cI (ad 0) 198 (S.1 0) :: arrI cI (ad 1) 198 (S.1 1) :: arrI cI (ad 2) 1584 (S.1 2) :: arrI cI (ad 3) 396 (S.1 3) :: arrI cI (ad 4) 60 (S.1 4) :: arrI cI (ad 5) 10 (S.1 5) :: arrI cI (ad 6) 48 (S.1 6) :: []
def histW (cI cV : ClassId) (AD : Nat → Nat → Nat) (S : PS) : va_W := (AD 12 4, .inr (1, fsHi (AD 12) (S.1 12))) :: (AD 12 5, .inl (cV, 8, .inr (.inr (.inr (.inr (fun j => some (AD (S.2 j) 22))))))) :: (villW cI (AD 4) (S.1 4) ++ (villW cI (AD 5) (S.1 5) ++ (villW cI (AD 6) (S.1 6) ++ (villW cI (AD 7) (S.1 7) ++ (villW cI (AD 8) (S.1 8) ++ (villW cI (AD 9) (S.1 9) ++ (villW cI (AD 10) (S.1 10) ++ villW cI (AD 11) (S.1 11))))))))
def PostH (cI : ClassId) (h0 : Nat) (w : va_W) : Prop := ∃ a0 a1 a2 a3 a4 a5 a6 a7 a8 a9 : Nat, w = (h0, .inr (2, [.int 0, .ref a0, .ref a1, .ref a2, .ref a3, .ref a4, .ref a5, .ref a6, .ref a7, .ref a8, .ref a9])) :: arrI cI a0 10 zr :: arrI cI a1 10 zr :: arrI cI a2 10 zr :: arrI cI a3 10 zr :: arrI cI a4 10 zr :: arrI cI a5 10 zr :: arrI cI a6 10 zr :: arrI cI a7 10 zr :: arrI cI a8 10 zr :: arrI cI a9 10 zr :: []
def PostL (cI : ClassId) (h0 : Nat) (w : va_W) : Prop := ∃ a0 a1 a2 : Nat, w = (h0, .inr (4, [.int 0, .ref a0, .ref a1, .ref a2])) :: arrI cI a0 12 zr :: arrI cI a1 12 zr :: arrI cI a2 12 zr :: []
def PostBa (cI : ClassId) (h0 : Nat) (w : va_W) : Prop := ∃ a0 a1 a2 a3 : Nat, w = (h0, .inr (0, [.ref a0, .ref a1, .ref a2, .ref a3])) :: arrI cI a0 2 zr :: arrI cI a1 2 b20 :: arrI cI a2 2 b90 :: arrI cI a3 2 zr :: []
def PostT (cI : ClassId) (h0 : Nat) (w : va_W) : Prop := ∃ a0 a1 : Nat, w = (h0, .inr (3, [.int 0, .ref a0, .int 0, .ref a1, .int 0, .int 0])) :: arrI cI a0 60 zr :: arrI cI a1 48 zr :: []
def PostV (cI : ClassId) (h0 : Nat) (w : va_W) : Prop := ∃ ad : Nat → Nat, ad 22 = h0 ∧ w = villW cI ad vinit
def PostHi (cI cV : ClassId) (h0 : Nat) (w : va_W) : Prop := ∃ (sq : Nat) (b0 b1 b2 b3 b4 b5 b6 b7 : Nat → Nat), w = (h0, .inr (1, [.int 0, .ref sq])) :: (sq, .inl (cV, 8, .inr (.inr (.inr (.inr (va_up (va_up (va_up (va_up (va_up (va_up (va_up (va_up (fun _ => none) 0 (some (b0 22))) 1 (some (b1 22))) 2 (some (b2 22))) 3 (some (b3 22))) 4 (some (b4 22))) 5 (some (b5 22))) 6 (some (b6 22))) 7 (some (b7 22)))))))) :: (villW cI b0 vinit ++ (villW cI b1 vinit ++ (villW cI b2 vinit ++ (villW cI b3 vinit ++ (villW cI b4 vinit ++ (villW cI b5 vinit ++ (villW cI b6 vinit ++ (villW cI b7 vinit ++ []))))))))
def pool0 : PS := ((fun i => match i with | 12 => (fun _ => zr) | _ => vinit), fun j => 4 + j)
def ref0 : RS := ((fun k => match k with | 0 => upd (upd (upd (upd (upd (upd (upd (upd (upd (upd (upd zr 117 20) 118 90) 121 20) 122 90) 124 20) 175 1) 176 1) 177 5) 178 40) 179 50) 180 50 | _ => zr), 0)
def poolW (cI cZ cV : ClassId) (AD : Nat → Nat → Nat) (S : PS) : va_W := (AD 12 7, .inr (6, fsP AD)) :: (villW cI (AD 0) (S.1 0) ++ (villW cI (AD 1) (S.1 1) ++ (histW cI cV AD S ++ ((AD 12 6, .inl (cV, 2, .inr (.inr (.inr (.inr (fun j => some (AD (2 + j) 22))))))) :: (AD 12 3, .inl (cZ, 2, .inl (S.1 12 3))) :: (textW cI (AD 12) (S.1 12) ++ (villW cI (AD 2) (S.1 2) ++ villW cI (AD 3) (S.1 3)))))))
def PostP (cI cZ cV : ClassId) (h0 : Nat) (w : va_W) : Prop := ∃ AD : Nat → Nat → Nat, AD 12 7 = h0 ∧ w = poolW cI cZ cV AD pool0
def PostR (cI : ClassId) (h0 : Nat) (w : va_W) : Prop := ∃ ad : Nat → Nat, ad 7 = h0 ∧ w = refW cI ad ref0
theorem jc_cellq {X : JX va_W} {k n pc : Nat} {lv : List (Nat × Value)} {st : List Value} {ws : va_W} {c : ClassId} {a m : Nat} {f f' : Nat → Option Nat} (pre post : va_W) (hf : ∀ j, j < m → f j = f' j) (hw : ws = pre ++ (a, .inl (c, m, .inr (.inr (.inr (.inr f))))) :: post) (kk : J (XA X k n) pc lv st (pre ++ (a, .inl (c, m, .inr (.inr (.inr (.inr f'))))) :: post)) (hB : X.B = fun w => w) : J (XA X k n) pc lv st ws := by
  have he : vp_cell c (m, .inr (.inr (.inr (.inr f)))) = vp_cell c (m, .inr (.inr (.inr (.inr f')))) := by
    rw [vp_cell_q, vp_cell_q]
    unfold arrV
    congr 1
    congr 1
    funext j
    exact congrArg va_rf (hf j.val j.isLt)
  have hset : pre ++ (a, Sum.inl (c, m, .inr (.inr (.inr (.inr f'))))) :: post = ws.set pre.length (a, .inl (c, m, .inr (.inr (.inr (.inr f'))))) := by rw [hw, set_mid]
  intro ls H locs a1 a2 a3 a4
  have hget : ws[pre.length]? = some (a, .inl (c, m, .inr (.inr (.inr (.inr f))))) := by rw [hw]; exact get_mid _ _ _
  have a2' : va_P X.D vwCl ws H := by have := a2; rw [show (XA X k n).B = X.B from rfl, hB] at this; exact this
  have a3' : va_D X.A ws := by have := a3; rw [show (XA X k n).B = X.B from rfl, hB] at this; exact this
  refine kk ls H locs a1 ?_ ?_ a4
  · rw [show (XA X k n).B = X.B from rfl, hB, hset]
    refine va_P.set a2' a3' hget ?_ (fun _ _ => rfl)
    show H[a]? = some _
    rw [← he]
    exact a2' pre.length _ hget
  · rw [show (XA X k n).B = X.B from rfl, hB, hset]
    exact a3'.set hget
theorem jc_int {X : JX va_W} {k n pc : Nat} {lv : List (Nat × Value)} {st : List Value} {ws : va_W} {x v : Int32} (e : x = v) (kk : J (XA X k n) pc lv (.int v :: st) ws) : J (XA X k n) pc lv (.int x :: st) ws := e ▸ kk
theorem vill_head {cI : ClassId} (pre : va_W) (ad : Nat → Nat) : ∃ pv : Nat, (pre ++ villW cI ad vinit)[pv]? = some (ad 22, .inr (5, fsV ad vinit)) := ⟨pre.length, by rw [List.getElem?_append_right (Nat.le_refl _), Nat.sub_self]; rfl⟩
abbrev rmX2_init : Room := { frames := 1, cells := 10, slots := 100, locals := 20 }
set_option maxHeartbeats 4000000 in
set_option maxRecDepth 100000 in
theorem nk_X2_init {X : JX va_W} {h0 : Nat} (h : OKc X RX2 cX2_init rmX2_init) (hnL : X.nL = 1) (hX : EXc X cX2_init rmX2_init ((PostH X.cI) h0)) : J (XA X 0 0) 0 [(0, .ref h0)] [] [(h0, .inr (2, [.int 0, .null, .null, .null, .null, .null, .null, .null, .null, .null, .null]))] := by
  refine j_aload_n (h.ok (k := 0) (n := 0) (by decide) (by decide)) 0 rfl rfl dX2_init_0 ?_
  refine jc_obj h (by decide) (by decide) q1_29 ⟨Nat.le_of_ble_eq_true rfl, Nat.le_of_ble_eq_true rfl⟩ dX2_init_1 ?_
  refine j_aload_n (h.ok (k := 0) (n := 0) (by decide) (by decide)) 0 rfl rfl dX2_init_4 ?_
  refine j_bipush (h.ok (k := 0) (n := 0) (by decide) (by decide)) (v := 10) (by decide) dX2_init_5 ?_
  refine jc_newi h 10 (by decide) (by decide) (by decide) (by decide) (by decide) dX2_init_7 (fun q1 => ?_)
  refine jc_eq (ws' := (h0, .inr (2, [.int 0, .null, .null, .null, .null, .null, .null, .null, .null, .null, .null])) :: (arrI X.cI q1 10 zr :: [])) (by first | rfl | (simp only [List.append_assoc, List.cons_append, List.nil_append, List.append_nil]; done) | (simp only [List.append_assoc, List.cons_append, List.nil_append, List.append_nil]; rfl)) ?_
  refine jc_putF h (by decide) (by decide) inX2 tyX2_ok nmX2 rfl 1 (by decide) rfl rfl q1_33 rfl rfl rfl (Nat.le_of_ble_eq_true rfl) [.int 0, .ref q1, .null, .null, .null, .null, .null, .null, .null, .null, .null] rfl dX2_init_9 ?_
  refine j_aload_n (h.ok (k := 1) (n := 10) (by decide) (by decide)) 0 rfl rfl dX2_init_12 ?_
  refine j_bipush (h.ok (k := 1) (n := 10) (by decide) (by decide)) (v := 10) (by decide) dX2_init_13 ?_
  refine jc_newi h 10 (by decide) (by decide) (by decide) (by decide) (by decide) dX2_init_15 (fun q2 => ?_)
  refine jc_eq (ws' := (h0, .inr (2, [.int 0, .ref q1, .null, .null, .null, .null, .null, .null, .null, .null, .null])) :: (arrI X.cI q1 10 zr :: (arrI X.cI q2 10 zr :: []))) (by first | rfl | (simp only [List.append_assoc, List.cons_append, List.nil_append, List.append_nil]; done) | (simp only [List.append_assoc, List.cons_append, List.nil_append, List.append_nil]; rfl)) ?_
  refine jc_putF h (by decide) (by decide) inX2 tyX2_ok nmX2 rfl 2 (by decide) rfl rfl q1_35 rfl rfl rfl (Nat.le_of_ble_eq_true rfl) [.int 0, .ref q1, .ref q2, .null, .null, .null, .null, .null, .null, .null, .null] rfl dX2_init_17 ?_
  refine j_aload_n (h.ok (k := 2) (n := 20) (by decide) (by decide)) 0 rfl rfl dX2_init_20 ?_
  refine j_bipush (h.ok (k := 2) (n := 20) (by decide) (by decide)) (v := 10) (by decide) dX2_init_21 ?_
  refine jc_newi h 10 (by decide) (by decide) (by decide) (by decide) (by decide) dX2_init_23 (fun q3 => ?_)
  refine jc_eq (ws' := (h0, .inr (2, [.int 0, .ref q1, .ref q2, .null, .null, .null, .null, .null, .null, .null, .null])) :: (arrI X.cI q1 10 zr :: (arrI X.cI q2 10 zr :: (arrI X.cI q3 10 zr :: [])))) (by first | rfl | (simp only [List.append_assoc, List.cons_append, List.nil_append, List.append_nil]; done) | (simp only [List.append_assoc, List.cons_append, List.nil_append, List.append_nil]; rfl)) ?_
  refine jc_putF h (by decide) (by decide) inX2 tyX2_ok nmX2 rfl 3 (by decide) rfl rfl q1_37 rfl rfl rfl (Nat.le_of_ble_eq_true rfl) [.int 0, .ref q1, .ref q2, .ref q3, .null, .null, .null, .null, .null, .null, .null] rfl dX2_init_25 ?_
  refine j_aload_n (h.ok (k := 3) (n := 30) (by decide) (by decide)) 0 rfl rfl dX2_init_28 ?_
  refine j_bipush (h.ok (k := 3) (n := 30) (by decide) (by decide)) (v := 10) (by decide) dX2_init_29 ?_
  refine jc_newi h 10 (by decide) (by decide) (by decide) (by decide) (by decide) dX2_init_31 (fun q4 => ?_)
  refine jc_eq (ws' := (h0, .inr (2, [.int 0, .ref q1, .ref q2, .ref q3, .null, .null, .null, .null, .null, .null, .null])) :: (arrI X.cI q1 10 zr :: (arrI X.cI q2 10 zr :: (arrI X.cI q3 10 zr :: (arrI X.cI q4 10 zr :: []))))) (by first | rfl | (simp only [List.append_assoc, List.cons_append, List.nil_append, List.append_nil]; done) | (simp only [List.append_assoc, List.cons_append, List.nil_append, List.append_nil]; rfl)) ?_
  refine jc_putF h (by decide) (by decide) inX2 tyX2_ok nmX2 rfl 4 (by decide) rfl rfl q1_39 rfl rfl rfl (Nat.le_of_ble_eq_true rfl) [.int 0, .ref q1, .ref q2, .ref q3, .ref q4, .null, .null, .null, .null, .null, .null] rfl dX2_init_33 ?_
  refine j_aload_n (h.ok (k := 4) (n := 40) (by decide) (by decide)) 0 rfl rfl dX2_init_36 ?_
  refine j_bipush (h.ok (k := 4) (n := 40) (by decide) (by decide)) (v := 10) (by decide) dX2_init_37 ?_
  refine jc_newi h 10 (by decide) (by decide) (by decide) (by decide) (by decide) dX2_init_39 (fun q5 => ?_)
  refine jc_eq (ws' := (h0, .inr (2, [.int 0, .ref q1, .ref q2, .ref q3, .ref q4, .null, .null, .null, .null, .null, .null])) :: (arrI X.cI q1 10 zr :: (arrI X.cI q2 10 zr :: (arrI X.cI q3 10 zr :: (arrI X.cI q4 10 zr :: (arrI X.cI q5 10 zr :: [])))))) (by first | rfl | (simp only [List.append_assoc, List.cons_append, List.nil_append, List.append_nil]; done) | (simp only [List.append_assoc, List.cons_append, List.nil_append, List.append_nil]; rfl)) ?_
  refine jc_putF h (by decide) (by decide) inX2 tyX2_ok nmX2 rfl 5 (by decide) rfl rfl q1_40 rfl rfl rfl (Nat.le_of_ble_eq_true rfl) [.int 0, .ref q1, .ref q2, .ref q3, .ref q4, .ref q5, .null, .null, .null, .null, .null] rfl dX2_init_41 ?_
  refine j_aload_n (h.ok (k := 5) (n := 50) (by decide) (by decide)) 0 rfl rfl dX2_init_44 ?_
  refine j_bipush (h.ok (k := 5) (n := 50) (by decide) (by decide)) (v := 10) (by decide) dX2_init_45 ?_
  refine jc_newi h 10 (by decide) (by decide) (by decide) (by decide) (by decide) dX2_init_47 (fun q6 => ?_)
  refine jc_eq (ws' := (h0, .inr (2, [.int 0, .ref q1, .ref q2, .ref q3, .ref q4, .ref q5, .null, .null, .null, .null, .null])) :: (arrI X.cI q1 10 zr :: (arrI X.cI q2 10 zr :: (arrI X.cI q3 10 zr :: (arrI X.cI q4 10 zr :: (arrI X.cI q5 10 zr :: (arrI X.cI q6 10 zr :: []))))))) (by first | rfl | (simp only [List.append_assoc, List.cons_append, List.nil_append, List.append_nil]; done) | (simp only [List.append_assoc, List.cons_append, List.nil_append, List.append_nil]; rfl)) ?_
  refine jc_putF h (by decide) (by decide) inX2 tyX2_ok nmX2 rfl 6 (by decide) rfl rfl q1_43 rfl rfl rfl (Nat.le_of_ble_eq_true rfl) [.int 0, .ref q1, .ref q2, .ref q3, .ref q4, .ref q5, .ref q6, .null, .null, .null, .null] rfl dX2_init_49 ?_
  refine j_aload_n (h.ok (k := 6) (n := 60) (by decide) (by decide)) 0 rfl rfl dX2_init_52 ?_
  refine j_bipush (h.ok (k := 6) (n := 60) (by decide) (by decide)) (v := 10) (by decide) dX2_init_53 ?_
  refine jc_newi h 10 (by decide) (by decide) (by decide) (by decide) (by decide) dX2_init_55 (fun q7 => ?_)
  refine jc_eq (ws' := (h0, .inr (2, [.int 0, .ref q1, .ref q2, .ref q3, .ref q4, .ref q5, .ref q6, .null, .null, .null, .null])) :: (arrI X.cI q1 10 zr :: (arrI X.cI q2 10 zr :: (arrI X.cI q3 10 zr :: (arrI X.cI q4 10 zr :: (arrI X.cI q5 10 zr :: (arrI X.cI q6 10 zr :: (arrI X.cI q7 10 zr :: [])))))))) (by first | rfl | (simp only [List.append_assoc, List.cons_append, List.nil_append, List.append_nil]; done) | (simp only [List.append_assoc, List.cons_append, List.nil_append, List.append_nil]; rfl)) ?_
  refine jc_putF h (by decide) (by decide) inX2 tyX2_ok nmX2 rfl 7 (by decide) rfl rfl q1_45 rfl rfl rfl (Nat.le_of_ble_eq_true rfl) [.int 0, .ref q1, .ref q2, .ref q3, .ref q4, .ref q5, .ref q6, .ref q7, .null, .null, .null] rfl dX2_init_57 ?_
  refine j_aload_n (h.ok (k := 7) (n := 70) (by decide) (by decide)) 0 rfl rfl dX2_init_60 ?_
  refine j_bipush (h.ok (k := 7) (n := 70) (by decide) (by decide)) (v := 10) (by decide) dX2_init_61 ?_
  refine jc_newi h 10 (by decide) (by decide) (by decide) (by decide) (by decide) dX2_init_63 (fun q8 => ?_)
  refine jc_eq (ws' := (h0, .inr (2, [.int 0, .ref q1, .ref q2, .ref q3, .ref q4, .ref q5, .ref q6, .ref q7, .null, .null, .null])) :: (arrI X.cI q1 10 zr :: (arrI X.cI q2 10 zr :: (arrI X.cI q3 10 zr :: (arrI X.cI q4 10 zr :: (arrI X.cI q5 10 zr :: (arrI X.cI q6 10 zr :: (arrI X.cI q7 10 zr :: (arrI X.cI q8 10 zr :: []))))))))) (by first | rfl | (simp only [List.append_assoc, List.cons_append, List.nil_append, List.append_nil]; done) | (simp only [List.append_assoc, List.cons_append, List.nil_append, List.append_nil]; rfl)) ?_
  refine jc_putF h (by decide) (by decide) inX2 tyX2_ok nmX2 rfl 8 (by decide) rfl rfl q1_46 rfl rfl rfl (Nat.le_of_ble_eq_true rfl) [.int 0, .ref q1, .ref q2, .ref q3, .ref q4, .ref q5, .ref q6, .ref q7, .ref q8, .null, .null] rfl dX2_init_65 ?_
  refine j_aload_n (h.ok (k := 8) (n := 80) (by decide) (by decide)) 0 rfl rfl dX2_init_68 ?_
  refine j_bipush (h.ok (k := 8) (n := 80) (by decide) (by decide)) (v := 10) (by decide) dX2_init_69 ?_
  refine jc_newi h 10 (by decide) (by decide) (by decide) (by decide) (by decide) dX2_init_71 (fun q9 => ?_)
  refine jc_eq (ws' := (h0, .inr (2, [.int 0, .ref q1, .ref q2, .ref q3, .ref q4, .ref q5, .ref q6, .ref q7, .ref q8, .null, .null])) :: (arrI X.cI q1 10 zr :: (arrI X.cI q2 10 zr :: (arrI X.cI q3 10 zr :: (arrI X.cI q4 10 zr :: (arrI X.cI q5 10 zr :: (arrI X.cI q6 10 zr :: (arrI X.cI q7 10 zr :: (arrI X.cI q8 10 zr :: (arrI X.cI q9 10 zr :: [])))))))))) (by first | rfl | (simp only [List.append_assoc, List.cons_append, List.nil_append, List.append_nil]; done) | (simp only [List.append_assoc, List.cons_append, List.nil_append, List.append_nil]; rfl)) ?_
  refine jc_putF h (by decide) (by decide) inX2 tyX2_ok nmX2 rfl 9 (by decide) rfl rfl q1_47 rfl rfl rfl (Nat.le_of_ble_eq_true rfl) [.int 0, .ref q1, .ref q2, .ref q3, .ref q4, .ref q5, .ref q6, .ref q7, .ref q8, .ref q9, .null] rfl dX2_init_73 ?_
  refine j_aload_n (h.ok (k := 9) (n := 90) (by decide) (by decide)) 0 rfl rfl dX2_init_76 ?_
  refine j_bipush (h.ok (k := 9) (n := 90) (by decide) (by decide)) (v := 10) (by decide) dX2_init_77 ?_
  refine jc_newi h 10 (by decide) (by decide) (by decide) (by decide) (by decide) dX2_init_79 (fun q10 => ?_)
  refine jc_eq (ws' := (h0, .inr (2, [.int 0, .ref q1, .ref q2, .ref q3, .ref q4, .ref q5, .ref q6, .ref q7, .ref q8, .ref q9, .null])) :: (arrI X.cI q1 10 zr :: (arrI X.cI q2 10 zr :: (arrI X.cI q3 10 zr :: (arrI X.cI q4 10 zr :: (arrI X.cI q5 10 zr :: (arrI X.cI q6 10 zr :: (arrI X.cI q7 10 zr :: (arrI X.cI q8 10 zr :: (arrI X.cI q9 10 zr :: (arrI X.cI q10 10 zr :: []))))))))))) (by first | rfl | (simp only [List.append_assoc, List.cons_append, List.nil_append, List.append_nil]; done) | (simp only [List.append_assoc, List.cons_append, List.nil_append, List.append_nil]; rfl)) ?_
  refine jc_putF h (by decide) (by decide) inX2 tyX2_ok nmX2 rfl 10 (by decide) rfl rfl q1_48 rfl rfl rfl (Nat.le_of_ble_eq_true rfl) [.int 0, .ref q1, .ref q2, .ref q3, .ref q4, .ref q5, .ref q6, .ref q7, .ref q8, .ref q9, .ref q10] rfl dX2_init_81 ?_
  refine hX _ _ _ dX2_init_84 ?_
  exact ⟨q1, q2, q3, q4, q5, q6, q7, q8, q9, q10, rfl⟩
theorem n_X2_init (l : Launch) (D : va_G) (cI cZ cV : ClassId) : CTn l D (jtys cI cZ cV) yX2_init cX2_init 1 rmX2_init 2 [.int 0, .null, .null, .null, .null, .null, .null, .null, .null, .null, .null] (PostH cI) := by
  refine CTn.of (by decide) (by decide) rfl (fun X h0 e1 e2 e3 e4 e5 e7 h hX => ?_)
  subst e1; subst e2; subst e3; subst e4; subst e5
  exact nk_X2_init h e7 hX
abbrev rmX4_init : Room := { frames := 1, cells := 3, slots := 36, locals := 20 }
set_option maxHeartbeats 4000000 in
set_option maxRecDepth 100000 in
theorem nk_X4_init {X : JX va_W} {h0 : Nat} (h : OKc X RX4 cX4_init rmX4_init) (hnL : X.nL = 1) (hX : EXc X cX4_init rmX4_init ((PostL X.cI) h0)) : J (XA X 0 0) 0 [(0, .ref h0)] [] [(h0, .inr (4, [.int 0, .null, .null, .null]))] := by
  refine j_aload_n (h.ok (k := 0) (n := 0) (by decide) (by decide)) 0 rfl rfl dX4_init_0 ?_
  refine jc_obj h (by decide) (by decide) q1_79 ⟨Nat.le_of_ble_eq_true rfl, Nat.le_of_ble_eq_true rfl⟩ dX4_init_1 ?_
  refine j_aload_n (h.ok (k := 0) (n := 0) (by decide) (by decide)) 0 rfl rfl dX4_init_4 ?_
  refine j_bipush (h.ok (k := 0) (n := 0) (by decide) (by decide)) (v := 12) (by decide) dX4_init_5 ?_
  refine jc_newi h 12 (by decide) (by decide) (by decide) (by decide) (by decide) dX4_init_7 (fun q1 => ?_)
  refine jc_eq (ws' := (h0, .inr (4, [.int 0, .null, .null, .null])) :: (arrI X.cI q1 12 zr :: [])) (by first | rfl | (simp only [List.append_assoc, List.cons_append, List.nil_append, List.append_nil]; done) | (simp only [List.append_assoc, List.cons_append, List.nil_append, List.append_nil]; rfl)) ?_
  refine jc_putF h (by decide) (by decide) inX4 tyX4_ok nmX4 rfl 1 (by decide) rfl rfl q1_83 rfl rfl rfl (Nat.le_of_ble_eq_true rfl) [.int 0, .ref q1, .null, .null] rfl dX4_init_9 ?_
  refine j_aload_n (h.ok (k := 1) (n := 12) (by decide) (by decide)) 0 rfl rfl dX4_init_12 ?_
  refine j_bipush (h.ok (k := 1) (n := 12) (by decide) (by decide)) (v := 12) (by decide) dX4_init_13 ?_
  refine jc_newi h 12 (by decide) (by decide) (by decide) (by decide) (by decide) dX4_init_15 (fun q2 => ?_)
  refine jc_eq (ws' := (h0, .inr (4, [.int 0, .ref q1, .null, .null])) :: (arrI X.cI q1 12 zr :: (arrI X.cI q2 12 zr :: []))) (by first | rfl | (simp only [List.append_assoc, List.cons_append, List.nil_append, List.append_nil]; done) | (simp only [List.append_assoc, List.cons_append, List.nil_append, List.append_nil]; rfl)) ?_
  refine jc_putF h (by decide) (by decide) inX4 tyX4_ok nmX4 rfl 2 (by decide) rfl rfl q1_85 rfl rfl rfl (Nat.le_of_ble_eq_true rfl) [.int 0, .ref q1, .ref q2, .null] rfl dX4_init_17 ?_
  refine j_aload_n (h.ok (k := 2) (n := 24) (by decide) (by decide)) 0 rfl rfl dX4_init_20 ?_
  refine j_bipush (h.ok (k := 2) (n := 24) (by decide) (by decide)) (v := 12) (by decide) dX4_init_21 ?_
  refine jc_newi h 12 (by decide) (by decide) (by decide) (by decide) (by decide) dX4_init_23 (fun q3 => ?_)
  refine jc_eq (ws' := (h0, .inr (4, [.int 0, .ref q1, .ref q2, .null])) :: (arrI X.cI q1 12 zr :: (arrI X.cI q2 12 zr :: (arrI X.cI q3 12 zr :: [])))) (by first | rfl | (simp only [List.append_assoc, List.cons_append, List.nil_append, List.append_nil]; done) | (simp only [List.append_assoc, List.cons_append, List.nil_append, List.append_nil]; rfl)) ?_
  refine jc_putF h (by decide) (by decide) inX4 tyX4_ok nmX4 rfl 3 (by decide) rfl rfl q1_87 rfl rfl rfl (Nat.le_of_ble_eq_true rfl) [.int 0, .ref q1, .ref q2, .ref q3] rfl dX4_init_25 ?_
  refine hX _ _ _ dX4_init_28 ?_
  exact ⟨q1, q2, q3, rfl⟩
theorem n_X4_init (l : Launch) (D : va_G) (cI cZ cV : ClassId) : CTn l D (jtys cI cZ cV) yX4_init cX4_init 1 rmX4_init 4 [.int 0, .null, .null, .null] (PostL cI) := by
  refine CTn.of (by decide) (by decide) rfl (fun X h0 e1 e2 e3 e4 e5 e7 h hX => ?_)
  subst e1; subst e2; subst e3; subst e4; subst e5
  exact nk_X4_init h e7 hX
abbrev rmX0_init : Room := { frames := 1, cells := 4, slots := 8, locals := 20 }
set_option maxHeartbeats 4000000 in
set_option maxRecDepth 100000 in
theorem nk_X0_init {X : JX va_W} {h0 : Nat} (h : OKc X RX0 cX0_init rmX0_init) (hnL : X.nL = 2) (hX : EXc X cX0_init rmX0_init ((PostBa X.cI) h0)) : J (XA X 0 0) 0 [(0, .ref h0)] [] [(h0, .inr (0, [.null, .null, .null, .null]))] := by
  refine j_aload_n (h.ok (k := 0) (n := 0) (by decide) (by decide)) 0 rfl rfl dX0_init_0 ?_
  refine jc_obj h (by decide) (by decide) q1_103 ⟨Nat.le_of_ble_eq_true rfl, Nat.le_of_ble_eq_true rfl⟩ dX0_init_1 ?_
  refine j_aload_n (h.ok (k := 0) (n := 0) (by decide) (by decide)) 0 rfl rfl dX0_init_4 ?_
  refine j_iconst (h.ok (k := 0) (n := 0) (by decide) (by decide)) (v := 2) (by decide) dX0_init_5 ?_
  refine jc_newi h 2 (by decide) (by decide) (by decide) (by decide) (by decide) dX0_init_6 (fun q1 => ?_)
  refine jc_eq (ws' := (h0, .inr (0, [.null, .null, .null, .null])) :: (arrI X.cI q1 2 zr :: [])) (by first | rfl | (simp only [List.append_assoc, List.cons_append, List.nil_append, List.append_nil]; done) | (simp only [List.append_assoc, List.cons_append, List.nil_append, List.append_nil]; rfl)) ?_
  refine jc_putF h (by decide) (by decide) inX0 tyX0_ok nmX0 rfl 0 (by decide) rfl rfl q1_104 rfl rfl rfl (Nat.le_of_ble_eq_true rfl) [.ref q1, .null, .null, .null] rfl dX0_init_8 ?_
  refine j_aload_n (h.ok (k := 1) (n := 2) (by decide) (by decide)) 0 rfl rfl dX0_init_11 ?_
  refine j_iconst (h.ok (k := 1) (n := 2) (by decide) (by decide)) (v := 2) (by decide) dX0_init_12 ?_
  refine jc_newi h 2 (by decide) (by decide) (by decide) (by decide) (by decide) dX0_init_13 (fun q2 => ?_)
  refine jc_eq (ws' := (h0, .inr (0, [.ref q1, .null, .null, .null])) :: (arrI X.cI q1 2 zr :: (arrI X.cI q2 2 zr :: []))) (by first | rfl | (simp only [List.append_assoc, List.cons_append, List.nil_append, List.append_nil]; done) | (simp only [List.append_assoc, List.cons_append, List.nil_append, List.append_nil]; rfl)) ?_
  refine jc_putF h (by decide) (by decide) inX0 tyX0_ok nmX0 rfl 1 (by decide) rfl rfl q1_105 rfl rfl rfl (Nat.le_of_ble_eq_true rfl) [.ref q1, .ref q2, .null, .null] rfl dX0_init_15 ?_
  refine j_aload_n (h.ok (k := 2) (n := 4) (by decide) (by decide)) 0 rfl rfl dX0_init_18 ?_
  refine j_iconst (h.ok (k := 2) (n := 4) (by decide) (by decide)) (v := 2) (by decide) dX0_init_19 ?_
  refine jc_newi h 2 (by decide) (by decide) (by decide) (by decide) (by decide) dX0_init_20 (fun q3 => ?_)
  refine jc_eq (ws' := (h0, .inr (0, [.ref q1, .ref q2, .null, .null])) :: (arrI X.cI q1 2 zr :: (arrI X.cI q2 2 zr :: (arrI X.cI q3 2 zr :: [])))) (by first | rfl | (simp only [List.append_assoc, List.cons_append, List.nil_append, List.append_nil]; done) | (simp only [List.append_assoc, List.cons_append, List.nil_append, List.append_nil]; rfl)) ?_
  refine jc_putF h (by decide) (by decide) inX0 tyX0_ok nmX0 rfl 2 (by decide) rfl rfl q1_106 rfl rfl rfl (Nat.le_of_ble_eq_true rfl) [.ref q1, .ref q2, .ref q3, .null] rfl dX0_init_22 ?_
  refine j_aload_n (h.ok (k := 3) (n := 6) (by decide) (by decide)) 0 rfl rfl dX0_init_25 ?_
  refine j_iconst (h.ok (k := 3) (n := 6) (by decide) (by decide)) (v := 2) (by decide) dX0_init_26 ?_
  refine jc_newi h 2 (by decide) (by decide) (by decide) (by decide) (by decide) dX0_init_27 (fun q4 => ?_)
  refine jc_eq (ws' := (h0, .inr (0, [.ref q1, .ref q2, .ref q3, .null])) :: (arrI X.cI q1 2 zr :: (arrI X.cI q2 2 zr :: (arrI X.cI q3 2 zr :: (arrI X.cI q4 2 zr :: []))))) (by first | rfl | (simp only [List.append_assoc, List.cons_append, List.nil_append, List.append_nil]; done) | (simp only [List.append_assoc, List.cons_append, List.nil_append, List.append_nil]; rfl)) ?_
  refine jc_putF h (by decide) (by decide) inX0 tyX0_ok nmX0 rfl 3 (by decide) rfl rfl q1_107 rfl rfl rfl (Nat.le_of_ble_eq_true rfl) [.ref q1, .ref q2, .ref q3, .ref q4] rfl dX0_init_29 ?_
  refine j_iconst (h.ok (k := 4) (n := 8) (by decide) (by decide)) (v := 0) (by decide) dX0_init_32 ?_
  refine j_istore_n (h.ok (k := 4) (n := 8) (by decide) (by decide)) hnL [(1, .int 0), (0, .ref h0)] rfl (by decide) rfl dX0_init_33 ?_
  refine j_iload_n (h.ok (k := 4) (n := 8) (by decide) (by decide)) 0 rfl rfl dX0_init_34 ?_
  refine j_iconst (h.ok (k := 4) (n := 8) (by decide) (by decide)) (v := 2) (by decide) dX0_init_35 ?_
  refine j_icmp_ge (ρ := Bool) (fa := some true) (fb := some false) (res := false) (h.ok (k := 4) (n := 8) (by decide) (by decide)) 61 (by decide) dX0_init_36 (by decide) (fun hF => absurd hF (by decide)) (fun _ => ?_)
  refine j_aload_n (h.ok (k := 4) (n := 8) (by decide) (by decide)) 1 rfl rfl dX0_init_39 ?_
  refine jc_get h (by decide) (by decide) inX0 rfl 1 (by decide) rfl q1_105 rfl dX0_init_40 ?_
  refine j_iload_n (h.ok (k := 4) (n := 8) (by decide) (by decide)) 0 rfl rfl dX0_init_43 ?_
  refine j_bipush (h.ok (k := 4) (n := 8) (by decide) (by decide)) (v := 20) (by decide) dX0_init_44 ?_
  refine jc_iast h ((h0, .inr (0, [.ref q1, .ref q2, .ref q3, .ref q4])) :: (arrI X.cI q1 2 zr :: [])) (arrI X.cI q3 2 zr :: (arrI X.cI q4 2 zr :: [])) (by first | rfl | (simp only [List.append_assoc, List.cons_append, List.nil_append, List.append_nil]; done) | (simp only [List.append_assoc, List.cons_append, List.nil_append, List.append_nil]; rfl)) (by decide) 0 (by decide) dX0_init_46 ?_
  refine jc_eq (ws' := (h0, .inr (0, [.ref q1, .ref q2, .ref q3, .ref q4])) :: (arrI X.cI q1 2 zr :: (arrI X.cI q2 2 (upd zr 0 20) :: (arrI X.cI q3 2 zr :: (arrI X.cI q4 2 zr :: []))))) (by first | rfl | (simp only [List.append_assoc, List.cons_append, List.nil_append, List.append_nil]; done) | (simp only [List.append_assoc, List.cons_append, List.nil_append, List.append_nil]; rfl)) ?_
  refine j_aload_n (h.ok (k := 4) (n := 8) (by decide) (by decide)) 1 rfl rfl dX0_init_47 ?_
  refine jc_get h (by decide) (by decide) inX0 rfl 2 (by decide) rfl q1_106 rfl dX0_init_48 ?_
  refine j_iload_n (h.ok (k := 4) (n := 8) (by decide) (by decide)) 0 rfl rfl dX0_init_51 ?_
  refine j_bipush (h.ok (k := 4) (n := 8) (by decide) (by decide)) (v := 90) (by decide) dX0_init_52 ?_
  refine jc_iast h ((h0, .inr (0, [.ref q1, .ref q2, .ref q3, .ref q4])) :: (arrI X.cI q1 2 zr :: (arrI X.cI q2 2 (upd zr 0 20) :: []))) (arrI X.cI q4 2 zr :: []) (by first | rfl | (simp only [List.append_assoc, List.cons_append, List.nil_append, List.append_nil]; done) | (simp only [List.append_assoc, List.cons_append, List.nil_append, List.append_nil]; rfl)) (by decide) 0 (by decide) dX0_init_54 ?_
  refine jc_eq (ws' := (h0, .inr (0, [.ref q1, .ref q2, .ref q3, .ref q4])) :: (arrI X.cI q1 2 zr :: (arrI X.cI q2 2 (upd zr 0 20) :: (arrI X.cI q3 2 (upd zr 0 90) :: (arrI X.cI q4 2 zr :: []))))) (by first | rfl | (simp only [List.append_assoc, List.cons_append, List.nil_append, List.append_nil]; done) | (simp only [List.append_assoc, List.cons_append, List.nil_append, List.append_nil]; rfl)) ?_
  refine j_iinc (h.ok (k := 4) (n := 8) (by decide) (by decide)) hnL 0 (v := 1) (y := 1) [(1, .int 1), (0, .ref h0)] rfl (by decide) (by decide) (by decide) rfl dX0_init_55 ?_
  refine j_goto (h.ok (k := 4) (n := 8) (by decide) (by decide)) 34 (by decide) dX0_init_58 ?_
  refine j_iload_n (h.ok (k := 4) (n := 8) (by decide) (by decide)) 0 rfl rfl dX0_init_34 ?_
  refine j_iconst (h.ok (k := 4) (n := 8) (by decide) (by decide)) (v := 2) (by decide) dX0_init_35 ?_
  refine j_icmp_ge (ρ := Bool) (fa := some true) (fb := some false) (res := false) (h.ok (k := 4) (n := 8) (by decide) (by decide)) 61 (by decide) dX0_init_36 (by decide) (fun hF => absurd hF (by decide)) (fun _ => ?_)
  refine j_aload_n (h.ok (k := 4) (n := 8) (by decide) (by decide)) 1 rfl rfl dX0_init_39 ?_
  refine jc_get h (by decide) (by decide) inX0 rfl 1 (by decide) rfl q1_105 rfl dX0_init_40 ?_
  refine j_iload_n (h.ok (k := 4) (n := 8) (by decide) (by decide)) 0 rfl rfl dX0_init_43 ?_
  refine j_bipush (h.ok (k := 4) (n := 8) (by decide) (by decide)) (v := 20) (by decide) dX0_init_44 ?_
  refine jc_iast h ((h0, .inr (0, [.ref q1, .ref q2, .ref q3, .ref q4])) :: (arrI X.cI q1 2 zr :: [])) (arrI X.cI q3 2 (upd zr 0 90) :: (arrI X.cI q4 2 zr :: [])) (by first | rfl | (simp only [List.append_assoc, List.cons_append, List.nil_append, List.append_nil]; done) | (simp only [List.append_assoc, List.cons_append, List.nil_append, List.append_nil]; rfl)) (by decide) 1 (by decide) dX0_init_46 ?_
  refine jc_eq (ws' := (h0, .inr (0, [.ref q1, .ref q2, .ref q3, .ref q4])) :: (arrI X.cI q1 2 zr :: (arrI X.cI q2 2 (upd (upd zr 0 20) 1 20) :: (arrI X.cI q3 2 (upd zr 0 90) :: (arrI X.cI q4 2 zr :: []))))) (by first | rfl | (simp only [List.append_assoc, List.cons_append, List.nil_append, List.append_nil]; done) | (simp only [List.append_assoc, List.cons_append, List.nil_append, List.append_nil]; rfl)) ?_
  refine j_aload_n (h.ok (k := 4) (n := 8) (by decide) (by decide)) 1 rfl rfl dX0_init_47 ?_
  refine jc_get h (by decide) (by decide) inX0 rfl 2 (by decide) rfl q1_106 rfl dX0_init_48 ?_
  refine j_iload_n (h.ok (k := 4) (n := 8) (by decide) (by decide)) 0 rfl rfl dX0_init_51 ?_
  refine j_bipush (h.ok (k := 4) (n := 8) (by decide) (by decide)) (v := 90) (by decide) dX0_init_52 ?_
  refine jc_iast h ((h0, .inr (0, [.ref q1, .ref q2, .ref q3, .ref q4])) :: (arrI X.cI q1 2 zr :: (arrI X.cI q2 2 (upd (upd zr 0 20) 1 20) :: []))) (arrI X.cI q4 2 zr :: []) (by first | rfl | (simp only [List.append_assoc, List.cons_append, List.nil_append, List.append_nil]; done) | (simp only [List.append_assoc, List.cons_append, List.nil_append, List.append_nil]; rfl)) (by decide) 1 (by decide) dX0_init_54 ?_
  refine jc_eq (ws' := (h0, .inr (0, [.ref q1, .ref q2, .ref q3, .ref q4])) :: (arrI X.cI q1 2 zr :: (arrI X.cI q2 2 (upd (upd zr 0 20) 1 20) :: (arrI X.cI q3 2 (upd (upd zr 0 90) 1 90) :: (arrI X.cI q4 2 zr :: []))))) (by first | rfl | (simp only [List.append_assoc, List.cons_append, List.nil_append, List.append_nil]; done) | (simp only [List.append_assoc, List.cons_append, List.nil_append, List.append_nil]; rfl)) ?_
  refine j_iinc (h.ok (k := 4) (n := 8) (by decide) (by decide)) hnL 0 (v := 2) (y := 1) [(1, .int 2), (0, .ref h0)] rfl (by decide) (by decide) (by decide) rfl dX0_init_55 ?_
  refine j_goto (h.ok (k := 4) (n := 8) (by decide) (by decide)) 34 (by decide) dX0_init_58 ?_
  refine j_iload_n (h.ok (k := 4) (n := 8) (by decide) (by decide)) 0 rfl rfl dX0_init_34 ?_
  refine j_iconst (h.ok (k := 4) (n := 8) (by decide) (by decide)) (v := 2) (by decide) dX0_init_35 ?_
  refine j_icmp_ge (ρ := Bool) (fa := some true) (fb := some false) (res := true) (h.ok (k := 4) (n := 8) (by decide) (by decide)) 61 (by decide) dX0_init_36 (by decide) (fun _ => ?_) (fun hF => absurd hF (by decide))
  refine hX _ _ _ dX0_init_61 ?_
  exact ⟨q1, q2, q3, q4, rfl⟩
theorem n_X0_init (l : Launch) (D : va_G) (cI cZ cV : ClassId) : CTn l D (jtys cI cZ cV) yX0_init cX0_init 2 rmX0_init 0 [.null, .null, .null, .null] (PostBa cI) := by
  refine CTn.of (by decide) (by decide) rfl (fun X h0 e1 e2 e3 e4 e5 e7 h hX => ?_)
  subst e1; subst e2; subst e3; subst e4; subst e5
  exact nk_X0_init h e7 hX
abbrev rmX3_init : Room := { frames := 1, cells := 2, slots := 108, locals := 20 }
set_option maxHeartbeats 4000000 in
set_option maxRecDepth 100000 in
theorem nk_X3_init {X : JX va_W} {h0 : Nat} (h : OKc X RX3 cX3_init rmX3_init) (hnL : X.nL = 1) (hX : EXc X cX3_init rmX3_init ((PostT X.cI) h0)) : J (XA X 0 0) 0 [(0, .ref h0)] [] [(h0, .inr (3, [.int 0, .null, .int 0, .null, .int 0, .int 0]))] := by
  refine j_aload_n (h.ok (k := 0) (n := 0) (by decide) (by decide)) 0 rfl rfl dX3_init_0 ?_
  refine jc_obj h (by decide) (by decide) q1_183 ⟨Nat.le_of_ble_eq_true rfl, Nat.le_of_ble_eq_true rfl⟩ dX3_init_1 ?_
  refine j_aload_n (h.ok (k := 0) (n := 0) (by decide) (by decide)) 0 rfl rfl dX3_init_4 ?_
  refine j_bipush (h.ok (k := 0) (n := 0) (by decide) (by decide)) (v := 60) (by decide) dX3_init_5 ?_
  refine jc_newi h 60 (by decide) (by decide) (by decide) (by decide) (by decide) dX3_init_7 (fun q1 => ?_)
  refine jc_eq (ws' := (h0, .inr (3, [.int 0, .null, .int 0, .null, .int 0, .int 0])) :: (arrI X.cI q1 60 zr :: [])) (by first | rfl | (simp only [List.append_assoc, List.cons_append, List.nil_append, List.append_nil]; done) | (simp only [List.append_assoc, List.cons_append, List.nil_append, List.append_nil]; rfl)) ?_
  refine jc_putF h (by decide) (by decide) inX3 tyX3_ok nmX3 rfl 1 (by decide) rfl rfl q1_184 rfl rfl rfl (Nat.le_of_ble_eq_true rfl) [.int 0, .ref q1, .int 0, .null, .int 0, .int 0] rfl dX3_init_9 ?_
  refine j_aload_n (h.ok (k := 1) (n := 60) (by decide) (by decide)) 0 rfl rfl dX3_init_12 ?_
  refine j_bipush (h.ok (k := 1) (n := 60) (by decide) (by decide)) (v := 48) (by decide) dX3_init_13 ?_
  refine jc_newi h 48 (by decide) (by decide) (by decide) (by decide) (by decide) dX3_init_15 (fun q2 => ?_)
  refine jc_eq (ws' := (h0, .inr (3, [.int 0, .ref q1, .int 0, .null, .int 0, .int 0])) :: (arrI X.cI q1 60 zr :: (arrI X.cI q2 48 zr :: []))) (by first | rfl | (simp only [List.append_assoc, List.cons_append, List.nil_append, List.append_nil]; done) | (simp only [List.append_assoc, List.cons_append, List.nil_append, List.append_nil]; rfl)) ?_
  refine jc_putF h (by decide) (by decide) inX3 tyX3_ok nmX3 rfl 3 (by decide) rfl rfl q1_185 rfl rfl rfl (Nat.le_of_ble_eq_true rfl) [.int 0, .ref q1, .int 0, .ref q2, .int 0, .int 0] rfl dX3_init_17 ?_
  refine hX _ _ _ dX3_init_20 ?_
  exact ⟨q1, q2, rfl⟩
theorem n_X3_init (l : Launch) (D : va_G) (cI cZ cV : ClassId) : CTn l D (jtys cI cZ cV) yX3_init cX3_init 1 rmX3_init 3 [.int 0, .null, .int 0, .null, .int 0, .int 0] (PostT cI) := by
  refine CTn.of (by decide) (by decide) rfl (fun X h0 e1 e2 e3 e4 e5 e7 h hX => ?_)
  subst e1; subst e2; subst e3; subst e4; subst e5
  exact nk_X3_init h e7 hX
abbrev rmX5_init : Room := { frames := 2, cells := 25, slots := 229, locals := 41 }
set_option maxHeartbeats 4000000 in
set_option maxRecDepth 100000 in
theorem nk_X5_init {X : JX va_W} {h0 : Nat} (h : OKc X RX5 cX5_init rmX5_init) (hnL : X.nL = 1) (hX : EXc X cX5_init rmX5_init ((PostV X.cI) h0)) : J (XA X 0 0) 0 [(0, .ref h0)] [] [(h0, .inr (5, [.null, .null, .null, .null, .null, .null, .null, .null, .int 0, .int 0, .int 0]))] := by
  refine j_aload_n (h.ok (k := 0) (n := 0) (by decide) (by decide)) 0 rfl rfl dX5_init_0 ?_
  refine jc_obj h (by decide) (by decide) q1_23 ⟨Nat.le_of_ble_eq_true rfl, Nat.le_of_ble_eq_true rfl⟩ dX5_init_1 ?_
  refine j_aload_n (h.ok (k := 0) (n := 0) (by decide) (by decide)) 0 rfl rfl dX5_init_4 ?_
  refine jc_ctor h.w (ix2 := 11) (n_X2_init X.l X.D X.cI X.cZ X.cV) inX2 tyX2_ok rfl (by intro j hj; have hh := hj; rcases (show j = 0 ∨ j = 1 ∨ j = 2 ∨ j = 3 ∨ j = 4 ∨ j = 5 ∨ j = 6 ∨ j = 7 ∨ j = 8 ∨ j = 9 ∨ j = 10 by omega) with rfl | rfl | rfl | rfl | rfl | rfl | rfl | rfl | rfl | rfl | rfl <;> rfl) q1_24 q1_25 q1_3 (Or.inr h.2.1.1) q1_27 q1_28 q1_3 rfl (by decide +kernel) 11 111 rfl rfl (by decide) (by decide) ⟨Nat.le_of_ble_eq_true rfl, Nat.le_of_ble_eq_true rfl⟩ (Nat.le_of_ble_eq_true rfl) dX5_init_5 dX5_init_8 dX5_init_9 (fun q1 w1 pw1 => ?_)
  obtain ⟨w1_0, w1_1, w1_2, w1_3, w1_4, w1_5, w1_6, w1_7, w1_8, w1_9, ew1⟩ := pw1
  refine jc_eq (ws' := (h0, .inr (5, [.null, .null, .null, .null, .null, .null, .null, .null, .int 0, .int 0, .int 0])) :: (w1 ++ [])) (by first | rfl | (simp only [List.append_assoc, List.cons_append, List.nil_append, List.append_nil]; done) | (simp only [List.append_assoc, List.cons_append, List.nil_append, List.append_nil]; rfl)) ?_
  refine jc_putF h (by decide) (by decide) inX5 tyX5_ok nmX5 rfl 0 (by decide) rfl rfl q1_117 rfl rfl rfl (Nat.le_of_ble_eq_true rfl) [.ref q1, .null, .null, .null, .null, .null, .null, .null, .int 0, .int 0, .int 0] rfl dX5_init_12 ?_
  refine j_aload_n (h.ok (k := 11) (n := 111) (by decide) (by decide)) 0 rfl rfl dX5_init_15 ?_
  refine jc_ctor h.w (ix2 := 20) (n_X4_init X.l X.D X.cI X.cZ X.cV) inX4 tyX4_ok rfl (by intro j hj; have hh := hj; rcases (show j = 0 ∨ j = 1 ∨ j = 2 ∨ j = 3 by omega) with rfl | rfl | rfl | rfl <;> rfl) q1_74 q1_75 q1_4 (Or.inr h.2.1.2.1) q1_77 q1_78 q1_4 rfl (by decide +kernel) 15 151 rfl rfl (by decide) (by decide) ⟨Nat.le_of_ble_eq_true rfl, Nat.le_of_ble_eq_true rfl⟩ (Nat.le_of_ble_eq_true rfl) dX5_init_16 dX5_init_19 dX5_init_20 (fun q2 w2 pw2 => ?_)
  obtain ⟨w2_0, w2_1, w2_2, ew2⟩ := pw2
  refine jc_eq (ws' := (h0, .inr (5, [.ref q1, .null, .null, .null, .null, .null, .null, .null, .int 0, .int 0, .int 0])) :: (w1 ++ (w2 ++ []))) (by first | rfl | (simp only [List.append_assoc, List.cons_append, List.nil_append, List.append_nil]; done) | (simp only [List.append_assoc, List.cons_append, List.nil_append, List.append_nil]; rfl)) ?_
  refine jc_putF h (by decide) (by decide) inX5 tyX5_ok nmX5 rfl 1 (by decide) rfl rfl q1_119 rfl rfl rfl (Nat.le_of_ble_eq_true rfl) [.ref q1, .ref q2, .null, .null, .null, .null, .null, .null, .int 0, .int 0, .int 0] rfl dX5_init_23 ?_
  refine j_aload_n (h.ok (k := 15) (n := 151) (by decide) (by decide)) 0 rfl rfl dX5_init_26 ?_
  refine jc_ctor h.w (ix2 := 27) (n_X0_init X.l X.D X.cI X.cZ X.cV) inX0 tyX0_ok rfl (by intro j hj; have hh := hj; rcases (show j = 0 ∨ j = 1 ∨ j = 2 ∨ j = 3 by omega) with rfl | rfl | rfl | rfl <;> rfl) q1_98 q1_99 q1_5 (Or.inl q1_100) q1_101 q1_102 q1_5 rfl (by decide +kernel) 20 163 rfl rfl (by decide) (by decide) ⟨Nat.le_of_ble_eq_true rfl, Nat.le_of_ble_eq_true rfl⟩ (Nat.le_of_ble_eq_true rfl) dX5_init_27 dX5_init_30 dX5_init_31 (fun q3 w3 pw3 => ?_)
  obtain ⟨w3_0, w3_1, w3_2, w3_3, ew3⟩ := pw3
  refine jc_eq (ws' := (h0, .inr (5, [.ref q1, .ref q2, .null, .null, .null, .null, .null, .null, .int 0, .int 0, .int 0])) :: (w1 ++ (w2 ++ (w3 ++ [])))) (by first | rfl | (simp only [List.append_assoc, List.cons_append, List.nil_append, List.append_nil]; done) | (simp only [List.append_assoc, List.cons_append, List.nil_append, List.append_nil]; rfl)) ?_
  refine jc_putF h (by decide) (by decide) inX5 tyX5_ok nmX5 rfl 2 (by decide) rfl rfl q1_121 rfl rfl rfl (Nat.le_of_ble_eq_true rfl) [.ref q1, .ref q2, .ref q3, .null, .null, .null, .null, .null, .int 0, .int 0, .int 0] rfl dX5_init_34 ?_
  refine j_aload_n (h.ok (k := 20) (n := 163) (by decide) (by decide)) 0 rfl rfl dX5_init_37 ?_
  refine j_iconst (h.ok (k := 20) (n := 163) (by decide) (by decide)) (v := 4) (by decide) dX5_init_38 ?_
  refine jc_newi h 4 (by decide) (by decide) (by decide) (by decide) (by decide) dX5_init_39 (fun q4 => ?_)
  refine jc_eq (ws' := (h0, .inr (5, [.ref q1, .ref q2, .ref q3, .null, .null, .null, .null, .null, .int 0, .int 0, .int 0])) :: (w1 ++ (w2 ++ (w3 ++ (arrI X.cI q4 4 zr :: []))))) (by first | rfl | (simp only [List.append_assoc, List.cons_append, List.nil_append, List.append_nil]; done) | (simp only [List.append_assoc, List.cons_append, List.nil_append, List.append_nil]; rfl)) ?_
  refine jc_putF h (by decide) (by decide) inX5 tyX5_ok nmX5 rfl 3 (by decide) rfl rfl q1_123 rfl rfl rfl (Nat.le_of_ble_eq_true rfl) [.ref q1, .ref q2, .ref q3, .ref q4, .null, .null, .null, .null, .int 0, .int 0, .int 0] rfl dX5_init_41 ?_
  refine j_aload_n (h.ok (k := 21) (n := 167) (by decide) (by decide)) 0 rfl rfl dX5_init_44 ?_
  refine j_bipush (h.ok (k := 21) (n := 167) (by decide) (by decide)) (v := 8) (by decide) dX5_init_45 ?_
  refine jc_newi h 8 (by decide) (by decide) (by decide) (by decide) (by decide) dX5_init_47 (fun q5 => ?_)
  refine jc_eq (ws' := (h0, .inr (5, [.ref q1, .ref q2, .ref q3, .ref q4, .null, .null, .null, .null, .int 0, .int 0, .int 0])) :: (w1 ++ (w2 ++ (w3 ++ (arrI X.cI q4 4 zr :: (arrI X.cI q5 8 zr :: [])))))) (by first | rfl | (simp only [List.append_assoc, List.cons_append, List.nil_append, List.append_nil]; done) | (simp only [List.append_assoc, List.cons_append, List.nil_append, List.append_nil]; rfl)) ?_
  refine jc_putF h (by decide) (by decide) inX5 tyX5_ok nmX5 rfl 4 (by decide) rfl rfl q1_125 rfl rfl rfl (Nat.le_of_ble_eq_true rfl) [.ref q1, .ref q2, .ref q3, .ref q4, .ref q5, .null, .null, .null, .int 0, .int 0, .int 0] rfl dX5_init_49 ?_
  refine j_aload_n (h.ok (k := 22) (n := 175) (by decide) (by decide)) 0 rfl rfl dX5_init_52 ?_
  refine j_iconst (h.ok (k := 22) (n := 175) (by decide) (by decide)) (v := 3) (by decide) dX5_init_53 ?_
  refine jc_newi h 3 (by decide) (by decide) (by decide) (by decide) (by decide) dX5_init_54 (fun q6 => ?_)
  refine jc_eq (ws' := (h0, .inr (5, [.ref q1, .ref q2, .ref q3, .ref q4, .ref q5, .null, .null, .null, .int 0, .int 0, .int 0])) :: (w1 ++ (w2 ++ (w3 ++ (arrI X.cI q4 4 zr :: (arrI X.cI q5 8 zr :: (arrI X.cI q6 3 zr :: []))))))) (by first | rfl | (simp only [List.append_assoc, List.cons_append, List.nil_append, List.append_nil]; done) | (simp only [List.append_assoc, List.cons_append, List.nil_append, List.append_nil]; rfl)) ?_
  refine jc_putF h (by decide) (by decide) inX5 tyX5_ok nmX5 rfl 5 (by decide) rfl rfl q1_127 rfl rfl rfl (Nat.le_of_ble_eq_true rfl) [.ref q1, .ref q2, .ref q3, .ref q4, .ref q5, .ref q6, .null, .null, .int 0, .int 0, .int 0] rfl dX5_init_56 ?_
  refine j_aload_n (h.ok (k := 23) (n := 178) (by decide) (by decide)) 0 rfl rfl dX5_init_59 ?_
  refine j_iconst (h.ok (k := 23) (n := 178) (by decide) (by decide)) (v := 3) (by decide) dX5_init_60 ?_
  refine jc_newi h 3 (by decide) (by decide) (by decide) (by decide) (by decide) dX5_init_61 (fun q7 => ?_)
  refine jc_eq (ws' := (h0, .inr (5, [.ref q1, .ref q2, .ref q3, .ref q4, .ref q5, .ref q6, .null, .null, .int 0, .int 0, .int 0])) :: (w1 ++ (w2 ++ (w3 ++ (arrI X.cI q4 4 zr :: (arrI X.cI q5 8 zr :: (arrI X.cI q6 3 zr :: (arrI X.cI q7 3 zr :: [])))))))) (by first | rfl | (simp only [List.append_assoc, List.cons_append, List.nil_append, List.append_nil]; done) | (simp only [List.append_assoc, List.cons_append, List.nil_append, List.append_nil]; rfl)) ?_
  refine jc_putF h (by decide) (by decide) inX5 tyX5_ok nmX5 rfl 6 (by decide) rfl rfl q1_129 rfl rfl rfl (Nat.le_of_ble_eq_true rfl) [.ref q1, .ref q2, .ref q3, .ref q4, .ref q5, .ref q6, .ref q7, .null, .int 0, .int 0, .int 0] rfl dX5_init_63 ?_
  refine j_aload_n (h.ok (k := 24) (n := 181) (by decide) (by decide)) 0 rfl rfl dX5_init_66 ?_
  refine j_bipush (h.ok (k := 24) (n := 181) (by decide) (by decide)) (v := 48) (by decide) dX5_init_67 ?_
  refine jc_newi h 48 (by decide) (by decide) (by decide) (by decide) (by decide) dX5_init_69 (fun q8 => ?_)
  refine jc_eq (ws' := (h0, .inr (5, [.ref q1, .ref q2, .ref q3, .ref q4, .ref q5, .ref q6, .ref q7, .null, .int 0, .int 0, .int 0])) :: (w1 ++ (w2 ++ (w3 ++ (arrI X.cI q4 4 zr :: (arrI X.cI q5 8 zr :: (arrI X.cI q6 3 zr :: (arrI X.cI q7 3 zr :: (arrI X.cI q8 48 zr :: []))))))))) (by first | rfl | (simp only [List.append_assoc, List.cons_append, List.nil_append, List.append_nil]; done) | (simp only [List.append_assoc, List.cons_append, List.nil_append, List.append_nil]; rfl)) ?_
  refine jc_putF h (by decide) (by decide) inX5 tyX5_ok nmX5 rfl 7 (by decide) rfl rfl q1_131 rfl rfl rfl (Nat.le_of_ble_eq_true rfl) [.ref q1, .ref q2, .ref q3, .ref q4, .ref q5, .ref q6, .ref q7, .ref q8, .int 0, .int 0, .int 0] rfl dX5_init_71 ?_
  refine j_aload_n (h.ok (k := 25) (n := 229) (by decide) (by decide)) 0 rfl rfl dX5_init_74 ?_
  refine j_iconst (h.ok (k := 25) (n := 229) (by decide) (by decide)) (v := 1) (by decide) dX5_init_75 ?_
  refine jc_put h (by decide) (by decide) inX5 tyX5_ok nmX5 rfl 8 (by decide) rfl q1_132 rfl (Nat.le_of_ble_eq_true rfl) [.ref q1, .ref q2, .ref q3, .ref q4, .ref q5, .ref q6, .ref q7, .ref q8, .int 1, .int 0, .int 0] rfl dX5_init_76 ?_
  refine j_aload_n (h.ok (k := 25) (n := 229) (by decide) (by decide)) 0 rfl rfl dX5_init_79 ?_
  refine j_iconst (h.ok (k := 25) (n := 229) (by decide) (by decide)) (v := 0) (by decide) dX5_init_80 ?_
  refine jc_put h (by decide) (by decide) inX5 tyX5_ok nmX5 rfl 9 (by decide) rfl q1_134 rfl (Nat.le_of_ble_eq_true rfl) [.ref q1, .ref q2, .ref q3, .ref q4, .ref q5, .ref q6, .ref q7, .ref q8, .int 1, .int 0, .int 0] rfl dX5_init_81 ?_
  refine j_aload_n (h.ok (k := 25) (n := 229) (by decide) (by decide)) 0 rfl rfl dX5_init_84 ?_
  refine j_iconst (h.ok (k := 25) (n := 229) (by decide) (by decide)) (v := 1) (by decide) dX5_init_85 ?_
  refine jc_put h (by decide) (by decide) inX5 tyX5_ok nmX5 rfl 10 (by decide) rfl q1_136 rfl (Nat.le_of_ble_eq_true rfl) [.ref q1, .ref q2, .ref q3, .ref q4, .ref q5, .ref q6, .ref q7, .ref q8, .int 1, .int 0, .int 1] rfl dX5_init_86 ?_
  refine j_aload_n (h.ok (k := 25) (n := 229) (by decide) (by decide)) 0 rfl rfl dX5_init_89 ?_
  refine jc_get h (by decide) (by decide) inX5 rfl 3 (by decide) rfl q1_123 rfl dX5_init_90 ?_
  refine j_iconst (h.ok (k := 25) (n := 229) (by decide) (by decide)) (v := 0) (by decide) dX5_init_93 ?_
  refine j_iconst (h.ok (k := 25) (n := 229) (by decide) (by decide)) (v := 5) (by decide) dX5_init_94 ?_
  refine jc_iast h ((h0, .inr (5, [.ref q1, .ref q2, .ref q3, .ref q4, .ref q5, .ref q6, .ref q7, .ref q8, .int 1, .int 0, .int 1])) :: (w1 ++ (w2 ++ (w3 ++ [])))) (arrI X.cI q5 8 zr :: (arrI X.cI q6 3 zr :: (arrI X.cI q7 3 zr :: (arrI X.cI q8 48 zr :: [])))) (by first | rfl | (simp only [List.append_assoc, List.cons_append, List.nil_append, List.append_nil]; done) | (simp only [List.append_assoc, List.cons_append, List.nil_append, List.append_nil]; rfl)) (by decide) 0 (by decide) dX5_init_95 ?_
  refine jc_eq (ws' := (h0, .inr (5, [.ref q1, .ref q2, .ref q3, .ref q4, .ref q5, .ref q6, .ref q7, .ref q8, .int 1, .int 0, .int 1])) :: (w1 ++ (w2 ++ (w3 ++ (arrI X.cI q4 4 (upd zr 0 5) :: (arrI X.cI q5 8 zr :: (arrI X.cI q6 3 zr :: (arrI X.cI q7 3 zr :: (arrI X.cI q8 48 zr :: []))))))))) (by first | rfl | (simp only [List.append_assoc, List.cons_append, List.nil_append, List.append_nil]; done) | (simp only [List.append_assoc, List.cons_append, List.nil_append, List.append_nil]; rfl)) ?_
  refine j_aload_n (h.ok (k := 25) (n := 229) (by decide) (by decide)) 0 rfl rfl dX5_init_96 ?_
  refine jc_get h (by decide) (by decide) inX5 rfl 3 (by decide) rfl q1_123 rfl dX5_init_97 ?_
  refine j_iconst (h.ok (k := 25) (n := 229) (by decide) (by decide)) (v := 1) (by decide) dX5_init_100 ?_
  refine j_bipush (h.ok (k := 25) (n := 229) (by decide) (by decide)) (v := 40) (by decide) dX5_init_101 ?_
  refine jc_iast h ((h0, .inr (5, [.ref q1, .ref q2, .ref q3, .ref q4, .ref q5, .ref q6, .ref q7, .ref q8, .int 1, .int 0, .int 1])) :: (w1 ++ (w2 ++ (w3 ++ [])))) (arrI X.cI q5 8 zr :: (arrI X.cI q6 3 zr :: (arrI X.cI q7 3 zr :: (arrI X.cI q8 48 zr :: [])))) (by first | rfl | (simp only [List.append_assoc, List.cons_append, List.nil_append, List.append_nil]; done) | (simp only [List.append_assoc, List.cons_append, List.nil_append, List.append_nil]; rfl)) (by decide) 1 (by decide) dX5_init_103 ?_
  refine jc_eq (ws' := (h0, .inr (5, [.ref q1, .ref q2, .ref q3, .ref q4, .ref q5, .ref q6, .ref q7, .ref q8, .int 1, .int 0, .int 1])) :: (w1 ++ (w2 ++ (w3 ++ (arrI X.cI q4 4 (upd (upd zr 0 5) 1 40) :: (arrI X.cI q5 8 zr :: (arrI X.cI q6 3 zr :: (arrI X.cI q7 3 zr :: (arrI X.cI q8 48 zr :: []))))))))) (by first | rfl | (simp only [List.append_assoc, List.cons_append, List.nil_append, List.append_nil]; done) | (simp only [List.append_assoc, List.cons_append, List.nil_append, List.append_nil]; rfl)) ?_
  refine j_aload_n (h.ok (k := 25) (n := 229) (by decide) (by decide)) 0 rfl rfl dX5_init_104 ?_
  refine jc_get h (by decide) (by decide) inX5 rfl 3 (by decide) rfl q1_123 rfl dX5_init_105 ?_
  refine j_iconst (h.ok (k := 25) (n := 229) (by decide) (by decide)) (v := 2) (by decide) dX5_init_108 ?_
  refine j_bipush (h.ok (k := 25) (n := 229) (by decide) (by decide)) (v := 50) (by decide) dX5_init_109 ?_
  refine jc_iast h ((h0, .inr (5, [.ref q1, .ref q2, .ref q3, .ref q4, .ref q5, .ref q6, .ref q7, .ref q8, .int 1, .int 0, .int 1])) :: (w1 ++ (w2 ++ (w3 ++ [])))) (arrI X.cI q5 8 zr :: (arrI X.cI q6 3 zr :: (arrI X.cI q7 3 zr :: (arrI X.cI q8 48 zr :: [])))) (by first | rfl | (simp only [List.append_assoc, List.cons_append, List.nil_append, List.append_nil]; done) | (simp only [List.append_assoc, List.cons_append, List.nil_append, List.append_nil]; rfl)) (by decide) 2 (by decide) dX5_init_111 ?_
  refine jc_eq (ws' := (h0, .inr (5, [.ref q1, .ref q2, .ref q3, .ref q4, .ref q5, .ref q6, .ref q7, .ref q8, .int 1, .int 0, .int 1])) :: (w1 ++ (w2 ++ (w3 ++ (arrI X.cI q4 4 (upd (upd (upd zr 0 5) 1 40) 2 50) :: (arrI X.cI q5 8 zr :: (arrI X.cI q6 3 zr :: (arrI X.cI q7 3 zr :: (arrI X.cI q8 48 zr :: []))))))))) (by first | rfl | (simp only [List.append_assoc, List.cons_append, List.nil_append, List.append_nil]; done) | (simp only [List.append_assoc, List.cons_append, List.nil_append, List.append_nil]; rfl)) ?_
  refine j_aload_n (h.ok (k := 25) (n := 229) (by decide) (by decide)) 0 rfl rfl dX5_init_112 ?_
  refine jc_get h (by decide) (by decide) inX5 rfl 3 (by decide) rfl q1_123 rfl dX5_init_113 ?_
  refine j_iconst (h.ok (k := 25) (n := 229) (by decide) (by decide)) (v := 3) (by decide) dX5_init_116 ?_
  refine j_bipush (h.ok (k := 25) (n := 229) (by decide) (by decide)) (v := 50) (by decide) dX5_init_117 ?_
  refine jc_iast h ((h0, .inr (5, [.ref q1, .ref q2, .ref q3, .ref q4, .ref q5, .ref q6, .ref q7, .ref q8, .int 1, .int 0, .int 1])) :: (w1 ++ (w2 ++ (w3 ++ [])))) (arrI X.cI q5 8 zr :: (arrI X.cI q6 3 zr :: (arrI X.cI q7 3 zr :: (arrI X.cI q8 48 zr :: [])))) (by first | rfl | (simp only [List.append_assoc, List.cons_append, List.nil_append, List.append_nil]; done) | (simp only [List.append_assoc, List.cons_append, List.nil_append, List.append_nil]; rfl)) (by decide) 3 (by decide) dX5_init_119 ?_
  refine jc_eq (ws' := (h0, .inr (5, [.ref q1, .ref q2, .ref q3, .ref q4, .ref q5, .ref q6, .ref q7, .ref q8, .int 1, .int 0, .int 1])) :: (w1 ++ (w2 ++ (w3 ++ (arrI X.cI q4 4 (upd (upd (upd (upd zr 0 5) 1 40) 2 50) 3 50) :: (arrI X.cI q5 8 zr :: (arrI X.cI q6 3 zr :: (arrI X.cI q7 3 zr :: (arrI X.cI q8 48 zr :: []))))))))) (by first | rfl | (simp only [List.append_assoc, List.cons_append, List.nil_append, List.append_nil]; done) | (simp only [List.append_assoc, List.cons_append, List.nil_append, List.append_nil]; rfl)) ?_
  refine j_aload_n (h.ok (k := 25) (n := 229) (by decide) (by decide)) 0 rfl rfl dX5_init_120 ?_
  refine jc_get h (by decide) (by decide) inX5 rfl 7 (by decide) rfl q1_131 rfl dX5_init_121 ?_
  refine j_iconst (h.ok (k := 25) (n := 229) (by decide) (by decide)) (v := 0) (by decide) dX5_init_124 ?_
  refine j_bipush (h.ok (k := 25) (n := 229) (by decide) (by decide)) (v := 20) (by decide) dX5_init_125 ?_
  refine jc_iast h ((h0, .inr (5, [.ref q1, .ref q2, .ref q3, .ref q4, .ref q5, .ref q6, .ref q7, .ref q8, .int 1, .int 0, .int 1])) :: (w1 ++ (w2 ++ (w3 ++ (arrI X.cI q4 4 (upd (upd (upd (upd zr 0 5) 1 40) 2 50) 3 50) :: (arrI X.cI q5 8 zr :: (arrI X.cI q6 3 zr :: (arrI X.cI q7 3 zr :: [])))))))) ([]) (by first | rfl | (simp only [List.append_assoc, List.cons_append, List.nil_append, List.append_nil]; done) | (simp only [List.append_assoc, List.cons_append, List.nil_append, List.append_nil]; rfl)) (by decide) 0 (by decide) dX5_init_127 ?_
  refine jc_eq (ws' := (h0, .inr (5, [.ref q1, .ref q2, .ref q3, .ref q4, .ref q5, .ref q6, .ref q7, .ref q8, .int 1, .int 0, .int 1])) :: (w1 ++ (w2 ++ (w3 ++ (arrI X.cI q4 4 (upd (upd (upd (upd zr 0 5) 1 40) 2 50) 3 50) :: (arrI X.cI q5 8 zr :: (arrI X.cI q6 3 zr :: (arrI X.cI q7 3 zr :: (arrI X.cI q8 48 (upd zr 0 20) :: []))))))))) (by first | rfl | (simp only [List.append_assoc, List.cons_append, List.nil_append, List.append_nil]; done) | (simp only [List.append_assoc, List.cons_append, List.nil_append, List.append_nil]; rfl)) ?_
  refine hX _ _ _ dX5_init_128 ?_
  refine ⟨(fun k => match k with | 0 => w1_0 | 1 => w1_1 | 2 => w1_2 | 3 => w1_3 | 4 => w1_4 | 5 => w1_5 | 6 => w1_6 | 7 => w1_7 | 8 => w1_8 | 9 => w1_9 | 10 => w2_0 | 11 => w2_1 | 12 => w2_2 | 13 => w3_0 | 14 => w3_1 | 15 => w3_2 | 16 => w3_3 | 17 => q4 | 18 => q5 | 19 => q6 | 20 => q7 | 21 => q8 | 22 => h0 | 23 => q1 | 24 => q2 | 25 => q3 | _ => 0), rfl, ?_⟩
  rw [ew1, ew2, ew3]
  rfl
theorem n_X5_init (l : Launch) (D : va_G) (cI cZ cV : ClassId) : CTn l D (jtys cI cZ cV) yX5_init cX5_init 1 rmX5_init 5 [.null, .null, .null, .null, .null, .null, .null, .null, .int 0, .int 0, .int 0] (PostV cI) := by
  refine CTn.of (by decide) (by decide) rfl (fun X h0 e1 e2 e3 e4 e5 e7 h hX => ?_)
  subst e1; subst e2; subst e3; subst e4; subst e5
  exact nk_X5_init h e7 hX
