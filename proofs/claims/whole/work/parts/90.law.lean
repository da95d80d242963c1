theorem law_out {L n : Nat} {i : Int32} (hL : L ≤ 2048) (hi : i = nI (4 * n)) (h : ¬ 4 * n + 4 ≤ L) (hn : n ≤ 512 := by omega) : Int32.ofNat L - 4 < i := by
  rw [hi, Int32.lt_iff_toInt_lt, nI_toInt (by omega), show Int32.ofNat L = nI L from rfl, show (4 : Int32) = nI 4 from rfl, pk_sub_toInt (by omega) (by omega)]
  omega
theorem law_in {L n : Nat} {i : Int32} (hL : L ≤ 2048) (hi : i = nI (4 * n)) (h : 4 * n + 4 ≤ L) : ¬ Int32.ofNat L - 4 < i := by
  rw [hi, Int32.lt_iff_toInt_lt, nI_toInt (by omega), show Int32.ofNat L = nI L from rfl, show (4 : Int32) = nI 4 from rfl, pk_sub_toInt (by omega) (by omega)]
  omega
/-! THE LAW: its loop over the pure interface -/
section LAWJ
variable {X : JX (PS × RS)} {own : String} {cc : ByteArray} {rm : Room} {pc b L : Nat} {xs : Nat → Int32} {lv : List (Nat × Value)} {st : List Value} {S : PS × RS}
theorem j_sld (h : OK X own cc rm) (hX : va_X b L xs X.s X.s.heap) (hbl : b < X.s.heap.size) (hbA : ¬ X.A b) {i : Int32} (hin : vp_in i L) (hdg : decode cc pc = .ok (.iaload, 1)) (kk : J X (pc + 1) lv (.int (xs i.toNatClampNeg) :: st) S) : J X pc lv (.int i :: .ref b :: st) S := fun ls H locs a1 a2 a3 a4 => va_sld h.1 h.2.1 hX hbl hbA a4 hin hdg (kk ls H locs a1 a2 a3 a4)
theorem j_slen (h : OK X own cc rm) (hX : va_X b L xs X.s X.s.heap) (hbl : b < X.s.heap.size) (hbA : ¬ X.A b) (hdg : decode cc pc = .ok (.arraylength, 1)) (kk : J X (pc + 1) lv (.int (Int32.ofNat L) :: st) S) : J X pc lv (.ref b :: st) S := fun ls H locs a1 a2 a3 a4 => va_slen h.1 h.2.1 hX hbl hbA a4 hdg (kk ls H locs a1 a2 a3 a4)
end LAWJ
/-- the law's surroundings -/
def LawX (X : JX (PS × RS)) (AD : Nat → Nat → Nat) (ad : Nat → Nat) (t : Nat → Nat) (b L : Nat) (xs : Nat → Int32) : Prop :=
  OK X RL cL_law room_1 ∧ (∀ R, IsPool X.cI X.cZ X.cV (fun S => X.B (S, R)) AD) ∧ (∀ S, IsRef X.cI (fun R => X.B (S, R)) ad) ∧ Stat t X.A X.s X.s.heap ∧ va_X b L xs X.s X.s.heap ∧ b < X.s.heap.size ∧ ¬ X.A b ∧ X.nL = 8 ∧ L ≤ 2048
theorem LawX.hO {X : JX (PS × RS)} {AD : Nat → Nat → Nat} {ad t : Nat → Nat} {b L : Nat} {xs : Nat → Int32} (h : LawX X AD ad t b L xs) : vO X.B (AD 12 7) 6 (fun _ => fsP AD) := fun Z => (h.2.1 Z.2).2.2.2.2.2.1 Z.1
theorem LawX.hM {X : JX (PS × RS)} {AD : Nat → Nat → Nat} {ad t : Nat → Nat} {b L : Nat} {xs : Nat → Int32} (h : LawX X AD ad t b L xs) : vO X.B (ad 7) 7 (fun Z => fsM ad Z.2) := fun Z => (h.2.2.1 Z.1).2.1.o Z.2
set_option maxHeartbeats 4000000 in
set_option maxRecDepth 100000 in
theorem law_addHouse {X : JX (PS × RS)} {AD : Nat → Nat → Nat} {ad t : Nat → Nat} {b L : Nat} {xs : Nat → Int32} (C : LawX X AD ad t b L xs) {Rel : Nat → PS → RS → Prop} {n : Nat} {i : Int32} (hn : n < 512) (hi : i = nI (4 * n)) (hL : 4 * n + 4 ≤ L) {S : PS} {R : RS} (hR : Rel n S R) (K : ∀ (S2 : PS) (R2 : RS), Rel (n + 1) S2 R2 → J X 967 [(3, .int i), (2, .ref (ad 7)), (1, .ref (AD 12 7)), (0, .ref b)] [] (S2, R2)) (op : Op_addHouse Rel) : J X 168 [(3, .int i), (2, .ref (ad 7)), (1, .ref (AD 12 7)), (0, .ref b)] [] (S, R) := by
  obtain ⟨h, hP, hM, hSt, hX, hbl, hbA, hnL, hL2⟩ := id C
  have hb1 : vp_in (i + 1) L := by rw [hi, show (1 : Int32) = nI 1 from rfl, nI_add]; exact vp_in_nI (by omega) (by omega)
  obtain ⟨a0, ea0⟩ : ∃ y, y = xs (i + 1).toNatClampNeg := ⟨_, rfl⟩
  have hb2 : vp_in (i + 2) L := by rw [hi, show (2 : Int32) = nI 2 from rfl, nI_add]; exact vp_in_nI (by omega) (by omega)
  obtain ⟨a1, ea1⟩ : ∃ y, y = xs (i + 2).toNatClampNeg := ⟨_, rfl⟩
  obtain ⟨r, S2, R2, hx, hm, hR2⟩ := op n S R a0 a1 hn hR
  refine j_aload_n h 2 rfl rfl dL_law_168 ?_
  refine j_aload_n h 3 rfl rfl dL_law_169 ?_
  refine j_iload_n h 0 rfl rfl dL_law_170 ?_
  refine j_iconst h (v := 1) (by decide) dL_law_171 ?_
  refine j_iadd h dL_law_172 ?_
  refine j_sld h hX hbl hbA hb1 dL_law_173 ?_
  rw [← ea0]
  refine j_aload_n h 3 rfl rfl dL_law_174 ?_
  refine j_iload_n h 0 rfl rfl dL_law_175 ?_
  refine j_iconst h (v := 2) (by decide) dL_law_176 ?_
  refine j_iadd h dL_law_177 ?_
  refine j_sld h hX hbl hbA hb2 dL_law_178 ?_
  rw [← ea1]
  refine j_callVi h (st := []) (S' := (S2, R)) (c_X6_addHouse X.l X.D X.cI X.cZ X.cV (B := fun S => X.B (S, R)) (hP R) S a0 a1 hx) rfl rfl q1_232 cw_X6_addHouse C.hO rfl rfl rfl ⟨rfl, rfl, Nat.le_of_ble_eq_true rfl, Nat.le_of_ble_eq_true rfl⟩ _ rfl (Nat.le_of_ble_eq_true rfl) dL_law_179 ?_
  refine j_aload_n h 1 rfl rfl dL_law_182 ?_
  refine j_aload_n h 3 rfl rfl dL_law_183 ?_
  refine j_iload_n h 0 rfl rfl dL_law_184 ?_
  refine j_iconst h (v := 1) (by decide) dL_law_185 ?_
  refine j_iadd h dL_law_186 ?_
  refine j_sld h hX hbl hbA hb1 dL_law_187 ?_
  rw [← ea0]
  refine j_aload_n h 3 rfl rfl dL_law_188 ?_
  refine j_iload_n h 0 rfl rfl dL_law_189 ?_
  refine j_iconst h (v := 2) (by decide) dL_law_190 ?_
  refine j_iadd h dL_law_191 ?_
  refine j_sld h hX hbl hbA hb2 dL_law_192 ?_
  rw [← ea1]
  refine j_callVi h (st := [.int r]) (S' := (S2, R2)) (c_X7_addHouse X.l X.D X.cI X.cZ X.cV (B := fun R => X.B (S2, R)) (hM S2) R a0 a1 hm) rfl rfl q4_73 cw_X7_addHouse C.hM rfl rfl rfl ⟨rfl, rfl, Nat.le_of_ble_eq_true rfl, Nat.le_of_ble_eq_true rfl⟩ _ rfl (Nat.le_of_ble_eq_true rfl) dL_law_193 ?_
  exact j_icmp_eq (ρ := Bool) (fa := some true) (fb := some false) (res := true) h 967 (by decide) dL_law_196 (by rw [if_pos rfl]) (fun _ => K S2 R2 hR2) (fun hF => absurd hF (by decide))
set_option maxHeartbeats 4000000 in
set_option maxRecDepth 100000 in
theorem law_setHouse {X : JX (PS × RS)} {AD : Nat → Nat → Nat} {ad t : Nat → Nat} {b L : Nat} {xs : Nat → Int32} (C : LawX X AD ad t b L xs) {Rel : Nat → PS → RS → Prop} {n : Nat} {i : Int32} (hn : n < 512) (hi : i = nI (4 * n)) (hL : 4 * n + 4 ≤ L) {S : PS} {R : RS} (hR : Rel n S R) (K : ∀ (S2 : PS) (R2 : RS), Rel (n + 1) S2 R2 → J X 967 [(3, .int i), (2, .ref (ad 7)), (1, .ref (AD 12 7)), (0, .ref b)] [] (S2, R2)) (op : Op_setHouse Rel) : J X 201 [(3, .int i), (2, .ref (ad 7)), (1, .ref (AD 12 7)), (0, .ref b)] [] (S, R) := by
  obtain ⟨h, hP, hM, hSt, hX, hbl, hbA, hnL, hL2⟩ := id C
  have hb1 : vp_in (i + 1) L := by rw [hi, show (1 : Int32) = nI 1 from rfl, nI_add]; exact vp_in_nI (by omega) (by omega)
  obtain ⟨a0, ea0⟩ : ∃ y, y = xs (i + 1).toNatClampNeg := ⟨_, rfl⟩
  have hb2 : vp_in (i + 2) L := by rw [hi, show (2 : Int32) = nI 2 from rfl, nI_add]; exact vp_in_nI (by omega) (by omega)
  obtain ⟨a1, ea1⟩ : ∃ y, y = xs (i + 2).toNatClampNeg := ⟨_, rfl⟩
  have hb3 : vp_in (i + 3) L := by rw [hi, show (3 : Int32) = nI 3 from rfl, nI_add]; exact vp_in_nI (by omega) (by omega)
  obtain ⟨a2, ea2⟩ : ∃ y, y = xs (i + 3).toNatClampNeg := ⟨_, rfl⟩
  obtain ⟨r, S2, R2, hx, hm, hR2⟩ := op n S R a0 a1 a2 hn hR
  refine j_aload_n h 2 rfl rfl dL_law_201 ?_
  refine j_aload_n h 3 rfl rfl dL_law_202 ?_
  refine j_iload_n h 0 rfl rfl dL_law_203 ?_
  refine j_iconst h (v := 1) (by decide) dL_law_204 ?_
  refine j_iadd h dL_law_205 ?_
  refine j_sld h hX hbl hbA hb1 dL_law_206 ?_
  rw [← ea0]
  refine j_aload_n h 3 rfl rfl dL_law_207 ?_
  refine j_iload_n h 0 rfl rfl dL_law_208 ?_
  refine j_iconst h (v := 2) (by decide) dL_law_209 ?_
  refine j_iadd h dL_law_210 ?_
  refine j_sld h hX hbl hbA hb2 dL_law_211 ?_
  rw [← ea1]
  refine j_aload_n h 3 rfl rfl dL_law_212 ?_
  refine j_iload_n h 0 rfl rfl dL_law_213 ?_
  refine j_iconst h (v := 3) (by decide) dL_law_214 ?_
  refine j_iadd h dL_law_215 ?_
  refine j_sld h hX hbl hbA hb3 dL_law_216 ?_
  rw [← ea2]
  refine j_callVis hSt h (st := []) (S' := (S2, R)) (c_X6_setHouse X.l X.D X.cI X.cZ X.cV (B := fun S => X.B (S, R)) (t := t) (hP R) S a0 a1 a2 hx) rfl rfl q2_39 cw_X6_setHouse C.hO rfl rfl rfl ⟨rfl, rfl, Nat.le_of_ble_eq_true rfl, Nat.le_of_ble_eq_true rfl⟩ _ rfl (Nat.le_of_ble_eq_true rfl) dL_law_217 ?_
  refine j_aload_n h 1 rfl rfl dL_law_220 ?_
  refine j_aload_n h 3 rfl rfl dL_law_221 ?_
  refine j_iload_n h 0 rfl rfl dL_law_222 ?_
  refine j_iconst h (v := 1) (by decide) dL_law_223 ?_
  refine j_iadd h dL_law_224 ?_
  refine j_sld h hX hbl hbA hb1 dL_law_225 ?_
  rw [← ea0]
  refine j_aload_n h 3 rfl rfl dL_law_226 ?_
  refine j_iload_n h 0 rfl rfl dL_law_227 ?_
  refine j_iconst h (v := 2) (by decide) dL_law_228 ?_
  refine j_iadd h dL_law_229 ?_
  refine j_sld h hX hbl hbA hb2 dL_law_230 ?_
  rw [← ea1]
  refine j_aload_n h 3 rfl rfl dL_law_231 ?_
  refine j_iload_n h 0 rfl rfl dL_law_232 ?_
  refine j_iconst h (v := 3) (by decide) dL_law_233 ?_
  refine j_iadd h dL_law_234 ?_
  refine j_sld h hX hbl hbA hb3 dL_law_235 ?_
  rw [← ea2]
  refine j_callVi h (st := [.int r]) (S' := (S2, R2)) (c_X7_setHouse X.l X.D X.cI X.cZ X.cV (B := fun R => X.B (S2, R)) (hM S2) R a0 a1 a2 hm) rfl rfl q4_90 cw_X7_setHouse C.hM rfl rfl rfl ⟨rfl, rfl, Nat.le_of_ble_eq_true rfl, Nat.le_of_ble_eq_true rfl⟩ _ rfl (Nat.le_of_ble_eq_true rfl) dL_law_236 ?_
  exact j_icmp_eq (ρ := Bool) (fa := some true) (fb := some false) (res := true) h 967 (by decide) dL_law_239 (by rw [if_pos rfl]) (fun _ => K S2 R2 hR2) (fun hF => absurd hF (by decide))
set_option maxHeartbeats 4000000 in
set_option maxRecDepth 100000 in
theorem law_removeHouse {X : JX (PS × RS)} {AD : Nat → Nat → Nat} {ad t : Nat → Nat} {b L : Nat} {xs : Nat → Int32} (C : LawX X AD ad t b L xs) {Rel : Nat → PS → RS → Prop} {n : Nat} {i : Int32} (hn : n < 512) (hi : i = nI (4 * n)) (hL : 4 * n + 4 ≤ L) {S : PS} {R : RS} (hR : Rel n S R) (K : ∀ (S2 : PS) (R2 : RS), Rel (n + 1) S2 R2 → J X 967 [(3, .int i), (2, .ref (ad 7)), (1, .ref (AD 12 7)), (0, .ref b)] [] (S2, R2)) (op : Op_removeHouse Rel) : J X 244 [(3, .int i), (2, .ref (ad 7)), (1, .ref (AD 12 7)), (0, .ref b)] [] (S, R) := by
  obtain ⟨h, hP, hM, hSt, hX, hbl, hbA, hnL, hL2⟩ := id C
  have hb1 : vp_in (i + 1) L := by rw [hi, show (1 : Int32) = nI 1 from rfl, nI_add]; exact vp_in_nI (by omega) (by omega)
  obtain ⟨a0, ea0⟩ : ∃ y, y = xs (i + 1).toNatClampNeg := ⟨_, rfl⟩
  obtain ⟨r, S2, R2, hx, hm, hR2⟩ := op n S R a0 hn hR
  refine j_aload_n h 2 rfl rfl dL_law_244 ?_
  refine j_aload_n h 3 rfl rfl dL_law_245 ?_
  refine j_iload_n h 0 rfl rfl dL_law_246 ?_
  refine j_iconst h (v := 1) (by decide) dL_law_247 ?_
  refine j_iadd h dL_law_248 ?_
  refine j_sld h hX hbl hbA hb1 dL_law_249 ?_
  rw [← ea0]
  refine j_callVi h (st := []) (S' := (S2, R)) (c_X6_removeHouse X.l X.D X.cI X.cZ X.cV (B := fun S => X.B (S, R)) (hP R) S a0 hx) rfl rfl q2_57 cw_X6_removeHouse C.hO rfl rfl rfl ⟨rfl, rfl, Nat.le_of_ble_eq_true rfl, Nat.le_of_ble_eq_true rfl⟩ _ rfl (Nat.le_of_ble_eq_true rfl) dL_law_250 ?_
  refine j_aload_n h 1 rfl rfl dL_law_253 ?_
  refine j_aload_n h 3 rfl rfl dL_law_254 ?_
  refine j_iload_n h 0 rfl rfl dL_law_255 ?_
  refine j_iconst h (v := 1) (by decide) dL_law_256 ?_
  refine j_iadd h dL_law_257 ?_
  refine j_sld h hX hbl hbA hb1 dL_law_258 ?_
  rw [← ea0]
  refine j_callVi h (st := [.int r]) (S' := (S2, R2)) (c_X7_removeHouse X.l X.D X.cI X.cZ X.cV (B := fun R => X.B (S2, R)) (hM S2) R a0 hm) rfl rfl q4_105 cw_X7_removeHouse C.hM rfl rfl rfl ⟨rfl, rfl, Nat.le_of_ble_eq_true rfl, Nat.le_of_ble_eq_true rfl⟩ _ rfl (Nat.le_of_ble_eq_true rfl) dL_law_259 ?_
  exact j_icmp_eq (ρ := Bool) (fa := some true) (fb := some false) (res := true) h 967 (by decide) dL_law_262 (by rw [if_pos rfl]) (fun _ => K S2 R2 hR2) (fun hF => absurd hF (by decide))
set_option maxHeartbeats 4000000 in
set_option maxRecDepth 100000 in
theorem law_buy {X : JX (PS × RS)} {AD : Nat → Nat → Nat} {ad t : Nat → Nat} {b L : Nat} {xs : Nat → Int32} (C : LawX X AD ad t b L xs) {Rel : Nat → PS → RS → Prop} {n : Nat} {i : Int32} (hn : n < 512) (hi : i = nI (4 * n)) (hL : 4 * n + 4 ≤ L) {S : PS} {R : RS} (hR : Rel n S R) (K : ∀ (S2 : PS) (R2 : RS), Rel (n + 1) S2 R2 → J X 967 [(3, .int i), (2, .ref (ad 7)), (1, .ref (AD 12 7)), (0, .ref b)] [] (S2, R2)) (op : Op_buy Rel) : J X 267 [(3, .int i), (2, .ref (ad 7)), (1, .ref (AD 12 7)), (0, .ref b)] [] (S, R) := by
  obtain ⟨h, hP, hM, hSt, hX, hbl, hbA, hnL, hL2⟩ := id C
  have hb1 : vp_in (i + 1) L := by rw [hi, show (1 : Int32) = nI 1 from rfl, nI_add]; exact vp_in_nI (by omega) (by omega)
  obtain ⟨a0, ea0⟩ : ∃ y, y = xs (i + 1).toNatClampNeg := ⟨_, rfl⟩
  have hb2 : vp_in (i + 2) L := by rw [hi, show (2 : Int32) = nI 2 from rfl, nI_add]; exact vp_in_nI (by omega) (by omega)
  obtain ⟨a1, ea1⟩ : ∃ y, y = xs (i + 2).toNatClampNeg := ⟨_, rfl⟩
  obtain ⟨r, S2, R2, hx, hm, hR2⟩ := op n S R a0 a1 hn hR
  refine j_aload_n h 2 rfl rfl dL_law_267 ?_
  refine j_aload_n h 3 rfl rfl dL_law_268 ?_
  refine j_iload_n h 0 rfl rfl dL_law_269 ?_
  refine j_iconst h (v := 1) (by decide) dL_law_270 ?_
  refine j_iadd h dL_law_271 ?_
  refine j_sld h hX hbl hbA hb1 dL_law_272 ?_
  rw [← ea0]
  refine j_aload_n h 3 rfl rfl dL_law_273 ?_
  refine j_iload_n h 0 rfl rfl dL_law_274 ?_
  refine j_iconst h (v := 2) (by decide) dL_law_275 ?_
  refine j_iadd h dL_law_276 ?_
  refine j_sld h hX hbl hbA hb2 dL_law_277 ?_
  rw [← ea1]
  refine j_callVi h (st := []) (S' := (S2, R)) (c_X6_buy X.l X.D X.cI X.cZ X.cV (B := fun S => X.B (S, R)) (hP R) S a0 a1 hx) rfl rfl q2_74 cw_X6_buy C.hO rfl rfl rfl ⟨rfl, rfl, Nat.le_of_ble_eq_true rfl, Nat.le_of_ble_eq_true rfl⟩ _ rfl (Nat.le_of_ble_eq_true rfl) dL_law_278 ?_
  refine j_aload_n h 1 rfl rfl dL_law_281 ?_
  refine j_aload_n h 3 rfl rfl dL_law_282 ?_
  refine j_iload_n h 0 rfl rfl dL_law_283 ?_
  refine j_iconst h (v := 1) (by decide) dL_law_284 ?_
  refine j_iadd h dL_law_285 ?_
  refine j_sld h hX hbl hbA hb1 dL_law_286 ?_
  rw [← ea0]
  refine j_aload_n h 3 rfl rfl dL_law_287 ?_
  refine j_iload_n h 0 rfl rfl dL_law_288 ?_
  refine j_iconst h (v := 2) (by decide) dL_law_289 ?_
  refine j_iadd h dL_law_290 ?_
  refine j_sld h hX hbl hbA hb2 dL_law_291 ?_
  rw [← ea1]
  refine j_callVi h (st := [.int r]) (S' := (S2, R2)) (c_X7_buy X.l X.D X.cI X.cZ X.cV (B := fun R => X.B (S2, R)) (hM S2) R a0 a1 hm) rfl rfl q4_118 cw_X7_buy C.hM rfl rfl rfl ⟨rfl, rfl, Nat.le_of_ble_eq_true rfl, Nat.le_of_ble_eq_true rfl⟩ _ rfl (Nat.le_of_ble_eq_true rfl) dL_law_292 ?_
  exact j_icmp_eq (ρ := Bool) (fa := some true) (fb := some false) (res := true) h 967 (by decide) dL_law_295 (by rw [if_pos rfl]) (fun _ => K S2 R2 hR2) (fun hF => absurd hF (by decide))
set_option maxHeartbeats 4000000 in
set_option maxRecDepth 100000 in
theorem law_lend {X : JX (PS × RS)} {AD : Nat → Nat → Nat} {ad t : Nat → Nat} {b L : Nat} {xs : Nat → Int32} (C : LawX X AD ad t b L xs) {Rel : Nat → PS → RS → Prop} {n : Nat} {i : Int32} (hn : n < 512) (hi : i = nI (4 * n)) (hL : 4 * n + 4 ≤ L) {S : PS} {R : RS} (hR : Rel n S R) (K : ∀ (S2 : PS) (R2 : RS), Rel (n + 1) S2 R2 → J X 967 [(3, .int i), (2, .ref (ad 7)), (1, .ref (AD 12 7)), (0, .ref b)] [] (S2, R2)) (op : Op_lend Rel) : J X 300 [(3, .int i), (2, .ref (ad 7)), (1, .ref (AD 12 7)), (0, .ref b)] [] (S, R) := by
  obtain ⟨h, hP, hM, hSt, hX, hbl, hbA, hnL, hL2⟩ := id C
  have hb1 : vp_in (i + 1) L := by rw [hi, show (1 : Int32) = nI 1 from rfl, nI_add]; exact vp_in_nI (by omega) (by omega)
  obtain ⟨a0, ea0⟩ : ∃ y, y = xs (i + 1).toNatClampNeg := ⟨_, rfl⟩
  have hb2 : vp_in (i + 2) L := by rw [hi, show (2 : Int32) = nI 2 from rfl, nI_add]; exact vp_in_nI (by omega) (by omega)
  obtain ⟨a1, ea1⟩ : ∃ y, y = xs (i + 2).toNatClampNeg := ⟨_, rfl⟩
  have hb3 : vp_in (i + 3) L := by rw [hi, show (3 : Int32) = nI 3 from rfl, nI_add]; exact vp_in_nI (by omega) (by omega)
  obtain ⟨a2, ea2⟩ : ∃ y, y = xs (i + 3).toNatClampNeg := ⟨_, rfl⟩
  obtain ⟨r, S2, R2, hx, hm, hR2⟩ := op n S R a0 a1 a2 hn hR
  refine j_aload_n h 2 rfl rfl dL_law_300 ?_
  refine j_aload_n h 3 rfl rfl dL_law_301 ?_
  refine j_iload_n h 0 rfl rfl dL_law_302 ?_
  refine j_iconst h (v := 1) (by decide) dL_law_303 ?_
  refine j_iadd h dL_law_304 ?_
  refine j_sld h hX hbl hbA hb1 dL_law_305 ?_
  rw [← ea0]
  refine j_aload_n h 3 rfl rfl dL_law_306 ?_
  refine j_iload_n h 0 rfl rfl dL_law_307 ?_
  refine j_iconst h (v := 2) (by decide) dL_law_308 ?_
  refine j_iadd h dL_law_309 ?_
  refine j_sld h hX hbl hbA hb2 dL_law_310 ?_
  rw [← ea1]
  refine j_aload_n h 3 rfl rfl dL_law_311 ?_
  refine j_iload_n h 0 rfl rfl dL_law_312 ?_
  refine j_iconst h (v := 3) (by decide) dL_law_313 ?_
  refine j_iadd h dL_law_314 ?_
  refine j_sld h hX hbl hbA hb3 dL_law_315 ?_
  rw [← ea2]
  refine j_callVi h (st := []) (S' := (S2, R)) (c_X6_lend X.l X.D X.cI X.cZ X.cV (B := fun S => X.B (S, R)) (hP R) S a0 a1 a2 hx) rfl rfl q2_113 cw_X6_lend C.hO rfl rfl rfl ⟨rfl, rfl, Nat.le_of_ble_eq_true rfl, Nat.le_of_ble_eq_true rfl⟩ _ rfl (Nat.le_of_ble_eq_true rfl) dL_law_316 ?_
  refine j_aload_n h 1 rfl rfl dL_law_319 ?_
  refine j_aload_n h 3 rfl rfl dL_law_320 ?_
  refine j_iload_n h 0 rfl rfl dL_law_321 ?_
  refine j_iconst h (v := 1) (by decide) dL_law_322 ?_
  refine j_iadd h dL_law_323 ?_
  refine j_sld h hX hbl hbA hb1 dL_law_324 ?_
  rw [← ea0]
  refine j_aload_n h 3 rfl rfl dL_law_325 ?_
  refine j_iload_n h 0 rfl rfl dL_law_326 ?_
  refine j_iconst h (v := 2) (by decide) dL_law_327 ?_
  refine j_iadd h dL_law_328 ?_
  refine j_sld h hX hbl hbA hb2 dL_law_329 ?_
  rw [← ea1]
  refine j_aload_n h 3 rfl rfl dL_law_330 ?_
  refine j_iload_n h 0 rfl rfl dL_law_331 ?_
  refine j_iconst h (v := 3) (by decide) dL_law_332 ?_
  refine j_iadd h dL_law_333 ?_
  refine j_sld h hX hbl hbA hb3 dL_law_334 ?_
  rw [← ea2]
  refine j_callVi h (st := [.int r]) (S' := (S2, R2)) (c_X7_lend X.l X.D X.cI X.cZ X.cV (B := fun R => X.B (S2, R)) (hM S2) R a0 a1 a2 hm) rfl rfl q4_138 cw_X7_lend C.hM rfl rfl rfl ⟨rfl, rfl, Nat.le_of_ble_eq_true rfl, Nat.le_of_ble_eq_true rfl⟩ _ rfl (Nat.le_of_ble_eq_true rfl) dL_law_335 ?_
  exact j_icmp_eq (ρ := Bool) (fa := some true) (fb := some false) (res := true) h 967 (by decide) dL_law_338 (by rw [if_pos rfl]) (fun _ => K S2 R2 hR2) (fun hF => absurd hF (by decide))
set_option maxHeartbeats 4000000 in
set_option maxRecDepth 100000 in
theorem law_remit {X : JX (PS × RS)} {AD : Nat → Nat → Nat} {ad t : Nat → Nat} {b L : Nat} {xs : Nat → Int32} (C : LawX X AD ad t b L xs) {Rel : Nat → PS → RS → Prop} {n : Nat} {i : Int32} (hn : n < 512) (hi : i = nI (4 * n)) (hL : 4 * n + 4 ≤ L) {S : PS} {R : RS} (hR : Rel n S R) (K : ∀ (S2 : PS) (R2 : RS), Rel (n + 1) S2 R2 → J X 967 [(3, .int i), (2, .ref (ad 7)), (1, .ref (AD 12 7)), (0, .ref b)] [] (S2, R2)) (op : Op_remit Rel) : J X 343 [(3, .int i), (2, .ref (ad 7)), (1, .ref (AD 12 7)), (0, .ref b)] [] (S, R) := by
  obtain ⟨h, hP, hM, hSt, hX, hbl, hbA, hnL, hL2⟩ := id C
  have hb1 : vp_in (i + 1) L := by rw [hi, show (1 : Int32) = nI 1 from rfl, nI_add]; exact vp_in_nI (by omega) (by omega)
  obtain ⟨a0, ea0⟩ : ∃ y, y = xs (i + 1).toNatClampNeg := ⟨_, rfl⟩
  obtain ⟨r, S2, R2, hx, hm, hR2⟩ := op n S R a0 hn hR
  refine j_aload_n h 2 rfl rfl dL_law_343 ?_
  refine j_aload_n h 3 rfl rfl dL_law_344 ?_
  refine j_iload_n h 0 rfl rfl dL_law_345 ?_
  refine j_iconst h (v := 1) (by decide) dL_law_346 ?_
  refine j_iadd h dL_law_347 ?_
  refine j_sld h hX hbl hbA hb1 dL_law_348 ?_
  rw [← ea0]
  refine j_callVi h (st := []) (S' := (S2, R)) (c_X6_remit X.l X.D X.cI X.cZ X.cV (B := fun S => X.B (S, R)) (hP R) S a0 hx) rfl rfl q2_121 cw_X6_remit C.hO rfl rfl rfl ⟨rfl, rfl, Nat.le_of_ble_eq_true rfl, Nat.le_of_ble_eq_true rfl⟩ _ rfl (Nat.le_of_ble_eq_true rfl) dL_law_349 ?_
  refine j_aload_n h 1 rfl rfl dL_law_352 ?_
  refine j_aload_n h 3 rfl rfl dL_law_353 ?_
  refine j_iload_n h 0 rfl rfl dL_law_354 ?_
  refine j_iconst h (v := 1) (by decide) dL_law_355 ?_
  refine j_iadd h dL_law_356 ?_
  refine j_sld h hX hbl hbA hb1 dL_law_357 ?_
  rw [← ea0]
  refine j_callVi h (st := [.int r]) (S' := (S2, R2)) (c_X7_remit X.l X.D X.cI X.cZ X.cV (B := fun R => X.B (S2, R)) (hM S2) R a0 hm) rfl rfl q4_142 cw_X7_remit C.hM rfl rfl rfl ⟨rfl, rfl, Nat.le_of_ble_eq_true rfl, Nat.le_of_ble_eq_true rfl⟩ _ rfl (Nat.le_of_ble_eq_true rfl) dL_law_358 ?_
  exact j_icmp_eq (ρ := Bool) (fa := some true) (fb := some false) (res := true) h 967 (by decide) dL_law_361 (by rw [if_pos rfl]) (fun _ => K S2 R2 hR2) (fun hF => absurd hF (by decide))
set_option maxHeartbeats 4000000 in
set_option maxRecDepth 100000 in
theorem law_net {X : JX (PS × RS)} {AD : Nat → Nat → Nat} {ad t : Nat → Nat} {b L : Nat} {xs : Nat → Int32} (C : LawX X AD ad t b L xs) {Rel : Nat → PS → RS → Prop} {n : Nat} {i : Int32} (hn : n < 512) (hi : i = nI (4 * n)) (hL : 4 * n + 4 ≤ L) {S : PS} {R : RS} (hR : Rel n S R) (K : ∀ (S2 : PS) (R2 : RS), Rel (n + 1) S2 R2 → J X 967 [(3, .int i), (2, .ref (ad 7)), (1, .ref (AD 12 7)), (0, .ref b)] [] (S2, R2)) (op : Op_net Rel) : J X 366 [(3, .int i), (2, .ref (ad 7)), (1, .ref (AD 12 7)), (0, .ref b)] [] (S, R) := by
  obtain ⟨h, hP, hM, hSt, hX, hbl, hbA, hnL, hL2⟩ := id C
  obtain ⟨r, S2, R2, hx, hm, hR2⟩ := op n S R hn hR
  refine j_aload_n h 2 rfl rfl dL_law_366 ?_
  refine j_callVi h (st := []) (S' := (S2, R)) (c_X6_net X.l X.D X.cI X.cZ X.cV (B := fun S => X.B (S, R)) (hP R) S hx) rfl rfl q2_130 cw_X6_net C.hO rfl rfl rfl ⟨rfl, rfl, Nat.le_of_ble_eq_true rfl, Nat.le_of_ble_eq_true rfl⟩ _ rfl (Nat.le_of_ble_eq_true rfl) dL_law_367 ?_
  refine j_aload_n h 1 rfl rfl dL_law_370 ?_
  refine j_callVi h (st := [.int r]) (S' := (S2, R2)) (c_X7_net X.l X.D X.cI X.cZ X.cV (B := fun R => X.B (S2, R)) (hM S2) R hm) rfl rfl q4_150 cw_X7_net C.hM rfl rfl rfl ⟨rfl, rfl, Nat.le_of_ble_eq_true rfl, Nat.le_of_ble_eq_true rfl⟩ _ rfl (Nat.le_of_ble_eq_true rfl) dL_law_371 ?_
  exact j_icmp_eq (ρ := Bool) (fa := some true) (fb := some false) (res := true) h 967 (by decide) dL_law_374 (by rw [if_pos rfl]) (fun _ => K S2 R2 hR2) (fun hF => absurd hF (by decide))
set_option maxHeartbeats 4000000 in
set_option maxRecDepth 100000 in
theorem law_set {X : JX (PS × RS)} {AD : Nat → Nat → Nat} {ad t : Nat → Nat} {b L : Nat} {xs : Nat → Int32} (C : LawX X AD ad t b L xs) {Rel : Nat → PS → RS → Prop} {n : Nat} {i : Int32} (hn : n < 512) (hi : i = nI (4 * n)) (hL : 4 * n + 4 ≤ L) {S : PS} {R : RS} (hR : Rel n S R) (K : ∀ (S2 : PS) (R2 : RS), Rel (n + 1) S2 R2 → J X 967 [(3, .int i), (2, .ref (ad 7)), (1, .ref (AD 12 7)), (0, .ref b)] [] (S2, R2)) (op : Op_set Rel) : J X 379 [(3, .int i), (2, .ref (ad 7)), (1, .ref (AD 12 7)), (0, .ref b)] [] (S, R) := by
  obtain ⟨h, hP, hM, hSt, hX, hbl, hbA, hnL, hL2⟩ := id C
  have hb1 : vp_in (i + 1) L := by rw [hi, show (1 : Int32) = nI 1 from rfl, nI_add]; exact vp_in_nI (by omega) (by omega)
  obtain ⟨a0, ea0⟩ : ∃ y, y = xs (i + 1).toNatClampNeg := ⟨_, rfl⟩
  have hb2 : vp_in (i + 2) L := by rw [hi, show (2 : Int32) = nI 2 from rfl, nI_add]; exact vp_in_nI (by omega) (by omega)
  obtain ⟨a1, ea1⟩ : ∃ y, y = xs (i + 2).toNatClampNeg := ⟨_, rfl⟩
  obtain ⟨r, S2, R2, hx, hm, hR2⟩ := op n S R a0 a1 hn hR
  refine j_aload_n h 2 rfl rfl dL_law_379 ?_
  refine j_aload_n h 3 rfl rfl dL_law_380 ?_
  refine j_iload_n h 0 rfl rfl dL_law_381 ?_
  refine j_iconst h (v := 1) (by decide) dL_law_382 ?_
  refine j_iadd h dL_law_383 ?_
  refine j_sld h hX hbl hbA hb1 dL_law_384 ?_
  rw [← ea0]
  refine j_aload_n h 3 rfl rfl dL_law_385 ?_
  refine j_iload_n h 0 rfl rfl dL_law_386 ?_
  refine j_iconst h (v := 2) (by decide) dL_law_387 ?_
  refine j_iadd h dL_law_388 ?_
  refine j_sld h hX hbl hbA hb2 dL_law_389 ?_
  rw [← ea1]
  refine j_callVis hSt h (st := []) (S' := (S2, R)) (c_X6_set X.l X.D X.cI X.cZ X.cV (B := fun S => X.B (S, R)) (t := t) (hP R) S a0 a1 hx) rfl rfl q2_148 cw_X6_set C.hO rfl rfl rfl ⟨rfl, rfl, Nat.le_of_ble_eq_true rfl, Nat.le_of_ble_eq_true rfl⟩ _ rfl (Nat.le_of_ble_eq_true rfl) dL_law_390 ?_
  refine j_aload_n h 1 rfl rfl dL_law_393 ?_
  refine j_aload_n h 3 rfl rfl dL_law_394 ?_
  refine j_iload_n h 0 rfl rfl dL_law_395 ?_
  refine j_iconst h (v := 1) (by decide) dL_law_396 ?_
  refine j_iadd h dL_law_397 ?_
  refine j_sld h hX hbl hbA hb1 dL_law_398 ?_
  rw [← ea0]
  refine j_aload_n h 3 rfl rfl dL_law_399 ?_
  refine j_iload_n h 0 rfl rfl dL_law_400 ?_
  refine j_iconst h (v := 2) (by decide) dL_law_401 ?_
  refine j_iadd h dL_law_402 ?_
  refine j_sld h hX hbl hbA hb2 dL_law_403 ?_
  rw [← ea1]
  refine j_callVi h (st := [.int r]) (S' := (S2, R2)) (c_X7_set X.l X.D X.cI X.cZ X.cV (B := fun R => X.B (S2, R)) (hM S2) R a0 a1 hm) rfl rfl q4_163 cw_X7_set C.hM rfl rfl rfl ⟨rfl, rfl, Nat.le_of_ble_eq_true rfl, Nat.le_of_ble_eq_true rfl⟩ _ rfl (Nat.le_of_ble_eq_true rfl) dL_law_404 ?_
  exact j_icmp_eq (ρ := Bool) (fa := some true) (fb := some false) (res := true) h 967 (by decide) dL_law_407 (by rw [if_pos rfl]) (fun _ => K S2 R2 hR2) (fun hF => absurd hF (by decide))
set_option maxHeartbeats 4000000 in
set_option maxRecDepth 100000 in
theorem law_setBattery {X : JX (PS × RS)} {AD : Nat → Nat → Nat} {ad t : Nat → Nat} {b L : Nat} {xs : Nat → Int32} (C : LawX X AD ad t b L xs) {Rel : Nat → PS → RS → Prop} {n : Nat} {i : Int32} (hn : n < 512) (hi : i = nI (4 * n)) (hL : 4 * n + 4 ≤ L) {S : PS} {R : RS} (hR : Rel n S R) (K : ∀ (S2 : PS) (R2 : RS), Rel (n + 1) S2 R2 → J X 967 [(3, .int i), (2, .ref (ad 7)), (1, .ref (AD 12 7)), (0, .ref b)] [] (S2, R2)) (op : Op_setBattery Rel) : J X 412 [(3, .int i), (2, .ref (ad 7)), (1, .ref (AD 12 7)), (0, .ref b)] [] (S, R) := by
  obtain ⟨h, hP, hM, hSt, hX, hbl, hbA, hnL, hL2⟩ := id C
  have hb1 : vp_in (i + 1) L := by rw [hi, show (1 : Int32) = nI 1 from rfl, nI_add]; exact vp_in_nI (by omega) (by omega)
  obtain ⟨a0, ea0⟩ : ∃ y, y = xs (i + 1).toNatClampNeg := ⟨_, rfl⟩
  have hb2 : vp_in (i + 2) L := by rw [hi, show (2 : Int32) = nI 2 from rfl, nI_add]; exact vp_in_nI (by omega) (by omega)
  obtain ⟨a1, ea1⟩ : ∃ y, y = xs (i + 2).toNatClampNeg := ⟨_, rfl⟩
  have hb3 : vp_in (i + 3) L := by rw [hi, show (3 : Int32) = nI 3 from rfl, nI_add]; exact vp_in_nI (by omega) (by omega)
  obtain ⟨a2, ea2⟩ : ∃ y, y = xs (i + 3).toNatClampNeg := ⟨_, rfl⟩
  obtain ⟨r, S2, R2, hx, hm, hR2⟩ := op n S R a0 a1 a2 hn hR
  refine j_aload_n h 2 rfl rfl dL_law_412 ?_
  refine j_aload_n h 3 rfl rfl dL_law_413 ?_
  refine j_iload_n h 0 rfl rfl dL_law_414 ?_
  refine j_iconst h (v := 1) (by decide) dL_law_415 ?_
  refine j_iadd h dL_law_416 ?_
  refine j_sld h hX hbl hbA hb1 dL_law_417 ?_
  rw [← ea0]
  refine j_aload_n h 3 rfl rfl dL_law_418 ?_
  refine j_iload_n h 0 rfl rfl dL_law_419 ?_
  refine j_iconst h (v := 2) (by decide) dL_law_420 ?_
  refine j_iadd h dL_law_421 ?_
  refine j_sld h hX hbl hbA hb2 dL_law_422 ?_
  rw [← ea1]
  refine j_aload_n h 3 rfl rfl dL_law_423 ?_
  refine j_iload_n h 0 rfl rfl dL_law_424 ?_
  refine j_iconst h (v := 3) (by decide) dL_law_425 ?_
  refine j_iadd h dL_law_426 ?_
  refine j_sld h hX hbl hbA hb3 dL_law_427 ?_
  rw [← ea2]
  refine j_callVis hSt h (st := []) (S' := (S2, R)) (c_X6_setBattery X.l X.D X.cI X.cZ X.cV (B := fun S => X.B (S, R)) (t := t) (hP R) S a0 a1 a2 hx) rfl rfl q2_157 cw_X6_setBattery C.hO rfl rfl rfl ⟨rfl, rfl, Nat.le_of_ble_eq_true rfl, Nat.le_of_ble_eq_true rfl⟩ _ rfl (Nat.le_of_ble_eq_true rfl) dL_law_428 ?_
  refine j_aload_n h 1 rfl rfl dL_law_431 ?_
  refine j_aload_n h 3 rfl rfl dL_law_432 ?_
  refine j_iload_n h 0 rfl rfl dL_law_433 ?_
  refine j_iconst h (v := 1) (by decide) dL_law_434 ?_
  refine j_iadd h dL_law_435 ?_
  refine j_sld h hX hbl hbA hb1 dL_law_436 ?_
  rw [← ea0]
  refine j_aload_n h 3 rfl rfl dL_law_437 ?_
  refine j_iload_n h 0 rfl rfl dL_law_438 ?_
  refine j_iconst h (v := 2) (by decide) dL_law_439 ?_
  refine j_iadd h dL_law_440 ?_
  refine j_sld h hX hbl hbA hb2 dL_law_441 ?_
  rw [← ea1]
  refine j_aload_n h 3 rfl rfl dL_law_442 ?_
  refine j_iload_n h 0 rfl rfl dL_law_443 ?_
  refine j_iconst h (v := 3) (by decide) dL_law_444 ?_
  refine j_iadd h dL_law_445 ?_
  refine j_sld h hX hbl hbA hb3 dL_law_446 ?_
  rw [← ea2]
  refine j_callVi h (st := [.int r]) (S' := (S2, R2)) (c_X7_setBattery X.l X.D X.cI X.cZ X.cV (B := fun R => X.B (S2, R)) (hM S2) R a0 a1 a2 hm) rfl rfl q4_170 cw_X7_setBattery C.hM rfl rfl rfl ⟨rfl, rfl, Nat.le_of_ble_eq_true rfl, Nat.le_of_ble_eq_true rfl⟩ _ rfl (Nat.le_of_ble_eq_true rfl) dL_law_447 ?_
  exact j_icmp_eq (ρ := Bool) (fa := some true) (fb := some false) (res := true) h 967 (by decide) dL_law_450 (by rw [if_pos rfl]) (fun _ => K S2 R2 hR2) (fun hF => absurd hF (by decide))
set_option maxHeartbeats 4000000 in
set_option maxRecDepth 100000 in
theorem law_run {X : JX (PS × RS)} {AD : Nat → Nat → Nat} {ad t : Nat → Nat} {b L : Nat} {xs : Nat → Int32} (C : LawX X AD ad t b L xs) {Rel : Nat → PS → RS → Prop} {n : Nat} {i : Int32} (hn : n < 512) (hi : i = nI (4 * n)) (hL : 4 * n + 4 ≤ L) {S : PS} {R : RS} (hR : Rel n S R) (K : ∀ (S2 : PS) (R2 : RS), Rel (n + 1) S2 R2 → J X 967 [(3, .int i), (2, .ref (ad 7)), (1, .ref (AD 12 7)), (0, .ref b)] [] (S2, R2)) (op : Op_run Rel) : J X 455 [(3, .int i), (2, .ref (ad 7)), (1, .ref (AD 12 7)), (0, .ref b)] [] (S, R) := by
  obtain ⟨h, hP, hM, hSt, hX, hbl, hbA, hnL, hL2⟩ := id C
  have hb1 : vp_in (i + 1) L := by rw [hi, show (1 : Int32) = nI 1 from rfl, nI_add]; exact vp_in_nI (by omega) (by omega)
  obtain ⟨a0, ea0⟩ : ∃ y, y = xs (i + 1).toNatClampNeg := ⟨_, rfl⟩
  obtain ⟨r, S2, R2, hx, hm, hR2⟩ := op n S R a0 hn hR
  refine j_aload_n h 2 rfl rfl dL_law_455 ?_
  refine j_aload_n h 3 rfl rfl dL_law_456 ?_
  refine j_iload_n h 0 rfl rfl dL_law_457 ?_
  refine j_iconst h (v := 1) (by decide) dL_law_458 ?_
  refine j_iadd h dL_law_459 ?_
  refine j_sld h hX hbl hbA hb1 dL_law_460 ?_
  rw [← ea0]
  refine j_callVi h (st := []) (S' := (S2, R)) (c_X6_run X.l X.D X.cI X.cZ X.cV (B := fun S => X.B (S, R)) (hP R) S a0 hx) rfl rfl q2_188 cw_X6_run C.hO rfl rfl rfl ⟨rfl, rfl, Nat.le_of_ble_eq_true rfl, Nat.le_of_ble_eq_true rfl⟩ _ rfl (Nat.le_of_ble_eq_true rfl) dL_law_461 ?_
  refine j_aload_n h 1 rfl rfl dL_law_464 ?_
  refine j_aload_n h 3 rfl rfl dL_law_465 ?_
  refine j_iload_n h 0 rfl rfl dL_law_466 ?_
  refine j_iconst h (v := 1) (by decide) dL_law_467 ?_
  refine j_iadd h dL_law_468 ?_
  refine j_sld h hX hbl hbA hb1 dL_law_469 ?_
  rw [← ea0]
  refine j_callVi h (st := [.int r]) (S' := (S2, R2)) (c_X7_run X.l X.D X.cI X.cZ X.cV (B := fun R => X.B (S2, R)) (hM S2) R a0 hm) rfl rfl q4_177 cw_X7_run C.hM rfl rfl rfl ⟨rfl, rfl, Nat.le_of_ble_eq_true rfl, Nat.le_of_ble_eq_true rfl⟩ _ rfl (Nat.le_of_ble_eq_true rfl) dL_law_470 ?_
  exact j_icmp_eq (ρ := Bool) (fa := some true) (fb := some false) (res := true) h 967 (by decide) dL_law_473 (by rw [if_pos rfl]) (fun _ => K S2 R2 hR2) (fun hF => absurd hF (by decide))
set_option maxHeartbeats 4000000 in
set_option maxRecDepth 100000 in
theorem law_type {X : JX (PS × RS)} {AD : Nat → Nat → Nat} {ad t : Nat → Nat} {b L : Nat} {xs : Nat → Int32} (C : LawX X AD ad t b L xs) {Rel : Nat → PS → RS → Prop} {n : Nat} {i : Int32} (hn : n < 512) (hi : i = nI (4 * n)) (hL : 4 * n + 4 ≤ L) {S : PS} {R : RS} (hR : Rel n S R) (K : ∀ (S2 : PS) (R2 : RS), Rel (n + 1) S2 R2 → J X 967 [(3, .int i), (2, .ref (ad 7)), (1, .ref (AD 12 7)), (0, .ref b)] [] (S2, R2)) (op : Op_type Rel) : J X 478 [(3, .int i), (2, .ref (ad 7)), (1, .ref (AD 12 7)), (0, .ref b)] [] (S, R) := by
  obtain ⟨h, hP, hM, hSt, hX, hbl, hbA, hnL, hL2⟩ := id C
  have hb1 : vp_in (i + 1) L := by rw [hi, show (1 : Int32) = nI 1 from rfl, nI_add]; exact vp_in_nI (by omega) (by omega)
  obtain ⟨a0, ea0⟩ : ∃ y, y = xs (i + 1).toNatClampNeg := ⟨_, rfl⟩
  obtain ⟨r, S2, R2, hx, hm, hR2⟩ := op n S R a0 hn hR
  refine j_aload_n h 2 rfl rfl dL_law_478 ?_
  refine j_aload_n h 3 rfl rfl dL_law_479 ?_
  refine j_iload_n h 0 rfl rfl dL_law_480 ?_
  refine j_iconst h (v := 1) (by decide) dL_law_481 ?_
  refine j_iadd h dL_law_482 ?_
  refine j_sld h hX hbl hbA hb1 dL_law_483 ?_
  rw [← ea0]
  refine j_callVi h (st := []) (S' := (S2, R)) (c_X6_type X.l X.D X.cI X.cZ X.cV (B := fun S => X.B (S, R)) (hP R) S a0 hx) rfl rfl q3_29 cw_X6_type C.hO rfl rfl rfl ⟨rfl, rfl, Nat.le_of_ble_eq_true rfl, Nat.le_of_ble_eq_true rfl⟩ _ rfl (Nat.le_of_ble_eq_true rfl) dL_law_484 ?_
  refine j_aload_n h 1 rfl rfl dL_law_487 ?_
  refine j_aload_n h 3 rfl rfl dL_law_488 ?_
  refine j_iload_n h 0 rfl rfl dL_law_489 ?_
  refine j_iconst h (v := 1) (by decide) dL_law_490 ?_
  refine j_iadd h dL_law_491 ?_
  refine j_sld h hX hbl hbA hb1 dL_law_492 ?_
  rw [← ea0]
  refine j_callVi h (st := [.int r]) (S' := (S2, R2)) (c_X7_type X.l X.D X.cI X.cZ X.cV (B := fun R => X.B (S2, R)) (hM S2) R a0 hm) rfl rfl q4_225 cw_X7_type C.hM rfl rfl rfl ⟨rfl, rfl, Nat.le_of_ble_eq_true rfl, Nat.le_of_ble_eq_true rfl⟩ _ rfl (Nat.le_of_ble_eq_true rfl) dL_law_493 ?_
  exact j_icmp_eq (ρ := Bool) (fa := some true) (fb := some false) (res := true) h 967 (by decide) dL_law_496 (by rw [if_pos rfl]) (fun _ => K S2 R2 hR2) (fun hF => absurd hF (by decide))
set_option maxHeartbeats 4000000 in
set_option maxRecDepth 100000 in
theorem law_clear {X : JX (PS × RS)} {AD : Nat → Nat → Nat} {ad t : Nat → Nat} {b L : Nat} {xs : Nat → Int32} (C : LawX X AD ad t b L xs) {Rel : Nat → PS → RS → Prop} {n : Nat} {i : Int32} (hn : n < 512) (hi : i = nI (4 * n)) (hL : 4 * n + 4 ≤ L) {S : PS} {R : RS} (hR : Rel n S R) (K : ∀ (S2 : PS) (R2 : RS), Rel (n + 1) S2 R2 → J X 967 [(3, .int i), (2, .ref (ad 7)), (1, .ref (AD 12 7)), (0, .ref b)] [] (S2, R2)) (op : Op_clear Rel) : J X 501 [(3, .int i), (2, .ref (ad 7)), (1, .ref (AD 12 7)), (0, .ref b)] [] (S, R) := by
  obtain ⟨h, hP, hM, hSt, hX, hbl, hbA, hnL, hL2⟩ := id C
  obtain ⟨r, S2, R2, hx, hm, hR2⟩ := op n S R hn hR
  refine j_aload_n h 2 rfl rfl dL_law_501 ?_
  refine j_callVi h (st := []) (S' := (S2, R)) (c_X6_clear X.l X.D X.cI X.cZ X.cV (B := fun S => X.B (S, R)) (hP R) S hx) rfl rfl q3_37 cw_X6_clear C.hO rfl rfl rfl ⟨rfl, rfl, Nat.le_of_ble_eq_true rfl, Nat.le_of_ble_eq_true rfl⟩ _ rfl (Nat.le_of_ble_eq_true rfl) dL_law_502 ?_
  refine j_aload_n h 1 rfl rfl dL_law_505 ?_
  refine j_callVi h (st := [.int r]) (S' := (S2, R2)) (c_X7_clear X.l X.D X.cI X.cZ X.cV (B := fun R => X.B (S2, R)) (hM S2) R hm) rfl rfl q4_229 cw_X7_clear C.hM rfl rfl rfl ⟨rfl, rfl, Nat.le_of_ble_eq_true rfl, Nat.le_of_ble_eq_true rfl⟩ _ rfl (Nat.le_of_ble_eq_true rfl) dL_law_506 ?_
  exact j_icmp_eq (ρ := Bool) (fa := some true) (fb := some false) (res := true) h 967 (by decide) dL_law_509 (by rw [if_pos rfl]) (fun _ => K S2 R2 hR2) (fun hF => absurd hF (by decide))
set_option maxHeartbeats 4000000 in
set_option maxRecDepth 100000 in
theorem law_fault {X : JX (PS × RS)} {AD : Nat → Nat → Nat} {ad t : Nat → Nat} {b L : Nat} {xs : Nat → Int32} (C : LawX X AD ad t b L xs) {Rel : Nat → PS → RS → Prop} {n : Nat} {i : Int32} (hn : n < 512) (hi : i = nI (4 * n)) (hL : 4 * n + 4 ≤ L) {S : PS} {R : RS} (hR : Rel n S R) (K : ∀ (S2 : PS) (R2 : RS), Rel (n + 1) S2 R2 → J X 967 [(3, .int i), (2, .ref (ad 7)), (1, .ref (AD 12 7)), (0, .ref b)] [] (S2, R2)) (op : Op_fault Rel) : J X 514 [(3, .int i), (2, .ref (ad 7)), (1, .ref (AD 12 7)), (0, .ref b)] [] (S, R) := by
  obtain ⟨h, hP, hM, hSt, hX, hbl, hbA, hnL, hL2⟩ := id C
  obtain ⟨r, S2, R2, hx, hm, hR2⟩ := op n S R hn hR
  refine j_aload_n h 2 rfl rfl dL_law_514 ?_
  refine j_callVi h (st := []) (S' := (S2, R)) (c_X6_fault X.l X.D X.cI X.cZ X.cV (B := fun S => X.B (S, R)) (hP R) S hx) rfl rfl q3_41 cw_X6_fault C.hO rfl rfl rfl ⟨rfl, rfl, Nat.le_of_ble_eq_true rfl, Nat.le_of_ble_eq_true rfl⟩ _ rfl (Nat.le_of_ble_eq_true rfl) dL_law_515 ?_
  refine j_aload_n h 1 rfl rfl dL_law_518 ?_
  refine j_callVi h (st := [.int r]) (S' := (S2, R2)) (c_X7_fault X.l X.D X.cI X.cZ X.cV (B := fun R => X.B (S2, R)) (hM S2) R hm) rfl rfl q4_233 cw_X7_fault C.hM rfl rfl rfl ⟨rfl, rfl, Nat.le_of_ble_eq_true rfl, Nat.le_of_ble_eq_true rfl⟩ _ rfl (Nat.le_of_ble_eq_true rfl) dL_law_519 ?_
  exact j_icmp_eq (ρ := Bool) (fa := some true) (fb := some false) (res := true) h 967 (by decide) dL_law_522 (by rw [if_pos rfl]) (fun _ => K S2 R2 hR2) (fun hF => absurd hF (by decide))
set_option maxHeartbeats 4000000 in
set_option maxRecDepth 100000 in
theorem law_load {X : JX (PS × RS)} {AD : Nat → Nat → Nat} {ad t : Nat → Nat} {b L : Nat} {xs : Nat → Int32} (C : LawX X AD ad t b L xs) {Rel : Nat → PS → RS → Prop} {n : Nat} {i : Int32} (hn : n < 512) (hi : i = nI (4 * n)) (hL : 4 * n + 4 ≤ L) {S : PS} {R : RS} (hR : Rel n S R) (K : ∀ (S2 : PS) (R2 : RS), Rel (n + 1) S2 R2 → J X 967 [(3, .int i), (2, .ref (ad 7)), (1, .ref (AD 12 7)), (0, .ref b)] [] (S2, R2)) (op : Op_load Rel) : J X 527 [(3, .int i), (2, .ref (ad 7)), (1, .ref (AD 12 7)), (0, .ref b)] [] (S, R) := by
  obtain ⟨h, hP, hM, hSt, hX, hbl, hbA, hnL, hL2⟩ := id C
  obtain ⟨r, S2, R2, hx, hm, hR2⟩ := op n S R hn hR
  refine j_aload_n h 2 rfl rfl dL_law_527 ?_
  refine j_callVi h (st := []) (S' := (S2, R)) (c_X6_load X.l X.D X.cI X.cZ X.cV (B := fun S => X.B (S, R)) (hP R) S hx) rfl rfl q3_82 cw_X6_load C.hO rfl rfl rfl ⟨rfl, rfl, Nat.le_of_ble_eq_true rfl, Nat.le_of_ble_eq_true rfl⟩ _ rfl (Nat.le_of_ble_eq_true rfl) dL_law_528 ?_
  refine j_aload_n h 1 rfl rfl dL_law_531 ?_
  refine j_callVi h (st := [.int r]) (S' := (S2, R2)) (c_X7_load X.l X.D X.cI X.cZ X.cV (B := fun R => X.B (S2, R)) (hM S2) R hm) rfl rfl q5_25 cw_X7_load C.hM rfl rfl rfl ⟨rfl, rfl, Nat.le_of_ble_eq_true rfl, Nat.le_of_ble_eq_true rfl⟩ _ rfl (Nat.le_of_ble_eq_true rfl) dL_law_532 ?_
  exact j_icmp_eq (ρ := Bool) (fa := some true) (fb := some false) (res := true) h 967 (by decide) dL_law_535 (by rw [if_pos rfl]) (fun _ => K S2 R2 hR2) (fun hF => absurd hF (by decide))
set_option maxHeartbeats 4000000 in
set_option maxRecDepth 100000 in
theorem law_undo {X : JX (PS × RS)} {AD : Nat → Nat → Nat} {ad t : Nat → Nat} {b L : Nat} {xs : Nat → Int32} (C : LawX X AD ad t b L xs) {Rel : Nat → PS → RS → Prop} {n : Nat} {i : Int32} (hn : n < 512) (hi : i = nI (4 * n)) (hL : 4 * n + 4 ≤ L) {S : PS} {R : RS} (hR : Rel n S R) (K : ∀ (S2 : PS) (R2 : RS), Rel (n + 1) S2 R2 → J X 967 [(3, .int i), (2, .ref (ad 7)), (1, .ref (AD 12 7)), (0, .ref b)] [] (S2, R2)) (op : Op_undo Rel) : J X 540 [(3, .int i), (2, .ref (ad 7)), (1, .ref (AD 12 7)), (0, .ref b)] [] (S, R) := by
  obtain ⟨h, hP, hM, hSt, hX, hbl, hbA, hnL, hL2⟩ := id C
  obtain ⟨r, S2, R2, hx, hm, hR2⟩ := op n S R hn hR
  refine j_aload_n h 2 rfl rfl dL_law_540 ?_
  refine j_callVi h (st := []) (S' := (S2, R)) (c_X6_undo X.l X.D X.cI X.cZ X.cV (B := fun S => X.B (S, R)) (hP R) S hx) rfl rfl q3_88 cw_X6_undo C.hO rfl rfl rfl ⟨rfl, rfl, Nat.le_of_ble_eq_true rfl, Nat.le_of_ble_eq_true rfl⟩ _ rfl (Nat.le_of_ble_eq_true rfl) dL_law_541 ?_
  refine j_aload_n h 1 rfl rfl dL_law_544 ?_
  refine j_callVi h (st := [.int r]) (S' := (S2, R2)) (c_X7_undo X.l X.D X.cI X.cZ X.cV (B := fun R => X.B (S2, R)) (hM S2) R hm) rfl rfl q5_29 cw_X7_undo C.hM rfl rfl rfl ⟨rfl, rfl, Nat.le_of_ble_eq_true rfl, Nat.le_of_ble_eq_true rfl⟩ _ rfl (Nat.le_of_ble_eq_true rfl) dL_law_545 ?_
  exact j_icmp_eq (ρ := Bool) (fa := some true) (fb := some false) (res := true) h 967 (by decide) dL_law_548 (by rw [if_pos rfl]) (fun _ => K S2 R2 hR2) (fun hF => absurd hF (by decide))
set_option maxHeartbeats 4000000 in
set_option maxRecDepth 100000 in
theorem law_keep {X : JX (PS × RS)} {AD : Nat → Nat → Nat} {ad t : Nat → Nat} {b L : Nat} {xs : Nat → Int32} (C : LawX X AD ad t b L xs) {Rel : Nat → PS → RS → Prop} {n : Nat} {i : Int32} (hn : n < 512) (hi : i = nI (4 * n)) (hL : 4 * n + 4 ≤ L) {S : PS} {R : RS} (hR : Rel n S R) (K : ∀ (S2 : PS) (R2 : RS), Rel (n + 1) S2 R2 → J X 967 [(3, .int i), (2, .ref (ad 7)), (1, .ref (AD 12 7)), (0, .ref b)] [] (S2, R2)) (op : Op_keep Rel) : J X 553 [(3, .int i), (2, .ref (ad 7)), (1, .ref (AD 12 7)), (0, .ref b)] [] (S, R) := by
  obtain ⟨h, hP, hM, hSt, hX, hbl, hbA, hnL, hL2⟩ := id C
  have hb1 : vp_in (i + 1) L := by rw [hi, show (1 : Int32) = nI 1 from rfl, nI_add]; exact vp_in_nI (by omega) (by omega)
  obtain ⟨a0, ea0⟩ : ∃ y, y = xs (i + 1).toNatClampNeg := ⟨_, rfl⟩
  obtain ⟨r, S2, R2, hx, hm, hR2⟩ := op n S R a0 hn hR
  refine j_aload_n h 2 rfl rfl dL_law_553 ?_
  refine j_aload_n h 3 rfl rfl dL_law_554 ?_
  refine j_iload_n h 0 rfl rfl dL_law_555 ?_
  refine j_iconst h (v := 1) (by decide) dL_law_556 ?_
  refine j_iadd h dL_law_557 ?_
  refine j_sld h hX hbl hbA hb1 dL_law_558 ?_
  rw [← ea0]
  refine j_callVi h (st := []) (S' := (S2, R)) (c_X6_keep X.l X.D X.cI X.cZ X.cV (B := fun S => X.B (S, R)) (hP R) S a0 hx) rfl rfl q3_96 cw_X6_keep C.hO rfl rfl rfl ⟨rfl, rfl, Nat.le_of_ble_eq_true rfl, Nat.le_of_ble_eq_true rfl⟩ _ rfl (Nat.le_of_ble_eq_true rfl) dL_law_559 ?_
  refine j_aload_n h 1 rfl rfl dL_law_562 ?_
  refine j_aload_n h 3 rfl rfl dL_law_563 ?_
  refine j_iload_n h 0 rfl rfl dL_law_564 ?_
  refine j_iconst h (v := 1) (by decide) dL_law_565 ?_
  refine j_iadd h dL_law_566 ?_
  refine j_sld h hX hbl hbA hb1 dL_law_567 ?_
  rw [← ea0]
  refine j_callVi h (st := [.int r]) (S' := (S2, R2)) (c_X7_keep X.l X.D X.cI X.cZ X.cV (B := fun R => X.B (S2, R)) (hM S2) R a0 hm) rfl rfl q5_33 cw_X7_keep C.hM rfl rfl rfl ⟨rfl, rfl, Nat.le_of_ble_eq_true rfl, Nat.le_of_ble_eq_true rfl⟩ _ rfl (Nat.le_of_ble_eq_true rfl) dL_law_568 ?_
  exact j_icmp_eq (ρ := Bool) (fa := some true) (fb := some false) (res := true) h 967 (by decide) dL_law_571 (by rw [if_pos rfl]) (fun _ => K S2 R2 hR2) (fun hF => absurd hF (by decide))
set_option maxHeartbeats 4000000 in
set_option maxRecDepth 100000 in
theorem law_back {X : JX (PS × RS)} {AD : Nat → Nat → Nat} {ad t : Nat → Nat} {b L : Nat} {xs : Nat → Int32} (C : LawX X AD ad t b L xs) {Rel : Nat → PS → RS → Prop} {n : Nat} {i : Int32} (hn : n < 512) (hi : i = nI (4 * n)) (hL : 4 * n + 4 ≤ L) {S : PS} {R : RS} (hR : Rel n S R) (K : ∀ (S2 : PS) (R2 : RS), Rel (n + 1) S2 R2 → J X 967 [(3, .int i), (2, .ref (ad 7)), (1, .ref (AD 12 7)), (0, .ref b)] [] (S2, R2)) (op : Op_back Rel) : J X 576 [(3, .int i), (2, .ref (ad 7)), (1, .ref (AD 12 7)), (0, .ref b)] [] (S, R) := by
  obtain ⟨h, hP, hM, hSt, hX, hbl, hbA, hnL, hL2⟩ := id C
  have hb1 : vp_in (i + 1) L := by rw [hi, show (1 : Int32) = nI 1 from rfl, nI_add]; exact vp_in_nI (by omega) (by omega)
  obtain ⟨a0, ea0⟩ : ∃ y, y = xs (i + 1).toNatClampNeg := ⟨_, rfl⟩
  obtain ⟨r, S2, R2, hx, hm, hR2⟩ := op n S R a0 hn hR
  refine j_aload_n h 2 rfl rfl dL_law_576 ?_
  refine j_aload_n h 3 rfl rfl dL_law_577 ?_
  refine j_iload_n h 0 rfl rfl dL_law_578 ?_
  refine j_iconst h (v := 1) (by decide) dL_law_579 ?_
  refine j_iadd h dL_law_580 ?_
  refine j_sld h hX hbl hbA hb1 dL_law_581 ?_
  rw [← ea0]
  refine j_callVi h (st := []) (S' := (S2, R)) (c_X6_back X.l X.D X.cI X.cZ X.cV (B := fun S => X.B (S, R)) (hP R) S a0 hx) rfl rfl q3_104 cw_X6_back C.hO rfl rfl rfl ⟨rfl, rfl, Nat.le_of_ble_eq_true rfl, Nat.le_of_ble_eq_true rfl⟩ _ rfl (Nat.le_of_ble_eq_true rfl) dL_law_582 ?_
  refine j_aload_n h 1 rfl rfl dL_law_585 ?_
  refine j_aload_n h 3 rfl rfl dL_law_586 ?_
  refine j_iload_n h 0 rfl rfl dL_law_587 ?_
  refine j_iconst h (v := 1) (by decide) dL_law_588 ?_
  refine j_iadd h dL_law_589 ?_
  refine j_sld h hX hbl hbA hb1 dL_law_590 ?_
  rw [← ea0]
  refine j_callVi h (st := [.int r]) (S' := (S2, R2)) (c_X7_back X.l X.D X.cI X.cZ X.cV (B := fun R => X.B (S2, R)) (hM S2) R a0 hm) rfl rfl q5_37 cw_X7_back C.hM rfl rfl rfl ⟨rfl, rfl, Nat.le_of_ble_eq_true rfl, Nat.le_of_ble_eq_true rfl⟩ _ rfl (Nat.le_of_ble_eq_true rfl) dL_law_591 ?_
  exact j_icmp_eq (ρ := Bool) (fa := some true) (fb := some false) (res := true) h 967 (by decide) dL_law_594 (by rw [if_pos rfl]) (fun _ => K S2 R2 hR2) (fun hF => absurd hF (by decide))
set_option maxHeartbeats 4000000 in
set_option maxRecDepth 100000 in
theorem law_house {X : JX (PS × RS)} {AD : Nat → Nat → Nat} {ad t : Nat → Nat} {b L : Nat} {xs : Nat → Int32} (C : LawX X AD ad t b L xs) {Rel : Nat → PS → RS → Prop} {n : Nat} {i : Int32} (hn : n < 512) (hi : i = nI (4 * n)) (hL : 4 * n + 4 ≤ L) {S : PS} {R : RS} (hR : Rel n S R) (K : ∀ (S2 : PS) (R2 : RS), Rel (n + 1) S2 R2 → J X 967 [(3, .int i), (2, .ref (ad 7)), (1, .ref (AD 12 7)), (0, .ref b)] [] (S2, R2)) (op : Op_house Rel) : J X 599 [(3, .int i), (2, .ref (ad 7)), (1, .ref (AD 12 7)), (0, .ref b)] [] (S, R) := by
  obtain ⟨h, hP, hM, hSt, hX, hbl, hbA, hnL, hL2⟩ := id C
  have hb1 : vp_in (i + 1) L := by rw [hi, show (1 : Int32) = nI 1 from rfl, nI_add]; exact vp_in_nI (by omega) (by omega)
  obtain ⟨a0, ea0⟩ : ∃ y, y = xs (i + 1).toNatClampNeg := ⟨_, rfl⟩
  have hb2 : vp_in (i + 2) L := by rw [hi, show (2 : Int32) = nI 2 from rfl, nI_add]; exact vp_in_nI (by omega) (by omega)
  obtain ⟨a1, ea1⟩ : ∃ y, y = xs (i + 2).toNatClampNeg := ⟨_, rfl⟩
  obtain ⟨r, hx, hm, hR2⟩ := op n S R a0 a1 hn hR
  refine j_aload_n h 2 rfl rfl dL_law_599 ?_
  refine j_aload_n h 3 rfl rfl dL_law_600 ?_
  refine j_iload_n h 0 rfl rfl dL_law_601 ?_
  refine j_iconst h (v := 1) (by decide) dL_law_602 ?_
  refine j_iadd h dL_law_603 ?_
  refine j_sld h hX hbl hbA hb1 dL_law_604 ?_
  rw [← ea0]
  refine j_aload_n h 3 rfl rfl dL_law_605 ?_
  refine j_iload_n h 0 rfl rfl dL_law_606 ?_
  refine j_iconst h (v := 2) (by decide) dL_law_607 ?_
  refine j_iadd h dL_law_608 ?_
  refine j_sld h hX hbl hbA hb2 dL_law_609 ?_
  rw [← ea1]
  refine j_callVi h (st := []) (S' := (S, R)) (c_X6_house X.l X.D X.cI X.cZ X.cV (B := fun S => X.B (S, R)) (hP R) S a0 a1 hx) rfl rfl q3_108 cw_X6_house C.hO rfl rfl rfl ⟨rfl, rfl, Nat.le_of_ble_eq_true rfl, Nat.le_of_ble_eq_true rfl⟩ _ rfl (Nat.le_of_ble_eq_true rfl) dL_law_610 ?_
  refine j_aload_n h 1 rfl rfl dL_law_613 ?_
  refine j_aload_n h 3 rfl rfl dL_law_614 ?_
  refine j_iload_n h 0 rfl rfl dL_law_615 ?_
  refine j_iconst h (v := 1) (by decide) dL_law_616 ?_
  refine j_iadd h dL_law_617 ?_
  refine j_sld h hX hbl hbA hb1 dL_law_618 ?_
  rw [← ea0]
  refine j_aload_n h 3 rfl rfl dL_law_619 ?_
  refine j_iload_n h 0 rfl rfl dL_law_620 ?_
  refine j_iconst h (v := 2) (by decide) dL_law_621 ?_
  refine j_iadd h dL_law_622 ?_
  refine j_sld h hX hbl hbA hb2 dL_law_623 ?_
  rw [← ea1]
  refine j_callVi h (st := [.int r]) (S' := (S, R)) (c_X7_house X.l X.D X.cI X.cZ X.cV (B := fun R => X.B (S, R)) (hM S) R a0 a1 hm) rfl rfl q5_41 cw_X7_house C.hM rfl rfl rfl ⟨rfl, rfl, Nat.le_of_ble_eq_true rfl, Nat.le_of_ble_eq_true rfl⟩ _ rfl (Nat.le_of_ble_eq_true rfl) dL_law_624 ?_
  exact j_icmp_eq (ρ := Bool) (fa := some true) (fb := some false) (res := true) h 967 (by decide) dL_law_627 (by rw [if_pos rfl]) (fun _ => K S R hR2) (fun hF => absurd hF (by decide))
set_option maxHeartbeats 4000000 in
set_option maxRecDepth 100000 in
theorem law_loan {X : JX (PS × RS)} {AD : Nat → Nat → Nat} {ad t : Nat → Nat} {b L : Nat} {xs : Nat → Int32} (C : LawX X AD ad t b L xs) {Rel : Nat → PS → RS → Prop} {n : Nat} {i : Int32} (hn : n < 512) (hi : i = nI (4 * n)) (hL : 4 * n + 4 ≤ L) {S : PS} {R : RS} (hR : Rel n S R) (K : ∀ (S2 : PS) (R2 : RS), Rel (n + 1) S2 R2 → J X 967 [(3, .int i), (2, .ref (ad 7)), (1, .ref (AD 12 7)), (0, .ref b)] [] (S2, R2)) (op : Op_loan Rel) : J X 632 [(3, .int i), (2, .ref (ad 7)), (1, .ref (AD 12 7)), (0, .ref b)] [] (S, R) := by
  obtain ⟨h, hP, hM, hSt, hX, hbl, hbA, hnL, hL2⟩ := id C
  have hb1 : vp_in (i + 1) L := by rw [hi, show (1 : Int32) = nI 1 from rfl, nI_add]; exact vp_in_nI (by omega) (by omega)
  obtain ⟨a0, ea0⟩ : ∃ y, y = xs (i + 1).toNatClampNeg := ⟨_, rfl⟩
  have hb2 : vp_in (i + 2) L := by rw [hi, show (2 : Int32) = nI 2 from rfl, nI_add]; exact vp_in_nI (by omega) (by omega)
  obtain ⟨a1, ea1⟩ : ∃ y, y = xs (i + 2).toNatClampNeg := ⟨_, rfl⟩
  obtain ⟨r, hx, hm, hR2⟩ := op n S R a0 a1 hn hR
  refine j_aload_n h 2 rfl rfl dL_law_632 ?_
  refine j_aload_n h 3 rfl rfl dL_law_633 ?_
  refine j_iload_n h 0 rfl rfl dL_law_634 ?_
  refine j_iconst h (v := 1) (by decide) dL_law_635 ?_
  refine j_iadd h dL_law_636 ?_
  refine j_sld h hX hbl hbA hb1 dL_law_637 ?_
  rw [← ea0]
  refine j_aload_n h 3 rfl rfl dL_law_638 ?_
  refine j_iload_n h 0 rfl rfl dL_law_639 ?_
  refine j_iconst h (v := 2) (by decide) dL_law_640 ?_
  refine j_iadd h dL_law_641 ?_
  refine j_sld h hX hbl hbA hb2 dL_law_642 ?_
  rw [← ea1]
  refine j_callVi h (st := []) (S' := (S, R)) (c_X6_loan X.l X.D X.cI X.cZ X.cV (B := fun S => X.B (S, R)) (hP R) S a0 a1 hx) rfl rfl q3_118 cw_X6_loan C.hO rfl rfl rfl ⟨rfl, rfl, Nat.le_of_ble_eq_true rfl, Nat.le_of_ble_eq_true rfl⟩ _ rfl (Nat.le_of_ble_eq_true rfl) dL_law_643 ?_
  refine j_aload_n h 1 rfl rfl dL_law_646 ?_
  refine j_aload_n h 3 rfl rfl dL_law_647 ?_
  refine j_iload_n h 0 rfl rfl dL_law_648 ?_
  refine j_iconst h (v := 1) (by decide) dL_law_649 ?_
  refine j_iadd h dL_law_650 ?_
  refine j_sld h hX hbl hbA hb1 dL_law_651 ?_
  rw [← ea0]
  refine j_aload_n h 3 rfl rfl dL_law_652 ?_
  refine j_iload_n h 0 rfl rfl dL_law_653 ?_
  refine j_iconst h (v := 2) (by decide) dL_law_654 ?_
  refine j_iadd h dL_law_655 ?_
  refine j_sld h hX hbl hbA hb2 dL_law_656 ?_
  rw [← ea1]
  refine j_callVi h (st := [.int r]) (S' := (S, R)) (c_X7_loan X.l X.D X.cI X.cZ X.cV (B := fun R => X.B (S, R)) (hM S) R a0 a1 hm) rfl rfl q5_49 cw_X7_loan C.hM rfl rfl rfl ⟨rfl, rfl, Nat.le_of_ble_eq_true rfl, Nat.le_of_ble_eq_true rfl⟩ _ rfl (Nat.le_of_ble_eq_true rfl) dL_law_657 ?_
  exact j_icmp_eq (ρ := Bool) (fa := some true) (fb := some false) (res := true) h 967 (by decide) dL_law_660 (by rw [if_pos rfl]) (fun _ => K S R hR2) (fun hF => absurd hF (by decide))
set_option maxHeartbeats 4000000 in
set_option maxRecDepth 100000 in
theorem law_battery {X : JX (PS × RS)} {AD : Nat → Nat → Nat} {ad t : Nat → Nat} {b L : Nat} {xs : Nat → Int32} (C : LawX X AD ad t b L xs) {Rel : Nat → PS → RS → Prop} {n : Nat} {i : Int32} (hn : n < 512) (hi : i = nI (4 * n)) (hL : 4 * n + 4 ≤ L) {S : PS} {R : RS} (hR : Rel n S R) (K : ∀ (S2 : PS) (R2 : RS), Rel (n + 1) S2 R2 → J X 967 [(3, .int i), (2, .ref (ad 7)), (1, .ref (AD 12 7)), (0, .ref b)] [] (S2, R2)) (op : Op_battery Rel) : J X 665 [(3, .int i), (2, .ref (ad 7)), (1, .ref (AD 12 7)), (0, .ref b)] [] (S, R) := by
  obtain ⟨h, hP, hM, hSt, hX, hbl, hbA, hnL, hL2⟩ := id C
  have hb1 : vp_in (i + 1) L := by rw [hi, show (1 : Int32) = nI 1 from rfl, nI_add]; exact vp_in_nI (by omega) (by omega)
  obtain ⟨a0, ea0⟩ : ∃ y, y = xs (i + 1).toNatClampNeg := ⟨_, rfl⟩
  have hb2 : vp_in (i + 2) L := by rw [hi, show (2 : Int32) = nI 2 from rfl, nI_add]; exact vp_in_nI (by omega) (by omega)
  obtain ⟨a1, ea1⟩ : ∃ y, y = xs (i + 2).toNatClampNeg := ⟨_, rfl⟩
  obtain ⟨r, hx, hm, hR2⟩ := op n S R a0 a1 hn hR
  refine j_aload_n h 2 rfl rfl dL_law_665 ?_
  refine j_aload_n h 3 rfl rfl dL_law_666 ?_
  refine j_iload_n h 0 rfl rfl dL_law_667 ?_
  refine j_iconst h (v := 1) (by decide) dL_law_668 ?_
  refine j_iadd h dL_law_669 ?_
  refine j_sld h hX hbl hbA hb1 dL_law_670 ?_
  rw [← ea0]
  refine j_aload_n h 3 rfl rfl dL_law_671 ?_
  refine j_iload_n h 0 rfl rfl dL_law_672 ?_
  refine j_iconst h (v := 2) (by decide) dL_law_673 ?_
  refine j_iadd h dL_law_674 ?_
  refine j_sld h hX hbl hbA hb2 dL_law_675 ?_
  rw [← ea1]
  refine j_callVi h (st := []) (S' := (S, R)) (c_X6_battery X.l X.D X.cI X.cZ X.cV (B := fun S => X.B (S, R)) (hP R) S a0 a1 hx) rfl rfl q3_126 cw_X6_battery C.hO rfl rfl rfl ⟨rfl, rfl, Nat.le_of_ble_eq_true rfl, Nat.le_of_ble_eq_true rfl⟩ _ rfl (Nat.le_of_ble_eq_true rfl) dL_law_676 ?_
  refine j_aload_n h 1 rfl rfl dL_law_679 ?_
  refine j_aload_n h 3 rfl rfl dL_law_680 ?_
  refine j_iload_n h 0 rfl rfl dL_law_681 ?_
  refine j_iconst h (v := 1) (by decide) dL_law_682 ?_
  refine j_iadd h dL_law_683 ?_
  refine j_sld h hX hbl hbA hb1 dL_law_684 ?_
  rw [← ea0]
  refine j_aload_n h 3 rfl rfl dL_law_685 ?_
  refine j_iload_n h 0 rfl rfl dL_law_686 ?_
  refine j_iconst h (v := 2) (by decide) dL_law_687 ?_
  refine j_iadd h dL_law_688 ?_
  refine j_sld h hX hbl hbA hb2 dL_law_689 ?_
  rw [← ea1]
  refine j_callVi h (st := [.int r]) (S' := (S, R)) (c_X7_battery X.l X.D X.cI X.cZ X.cV (B := fun R => X.B (S, R)) (hM S) R a0 a1 hm) rfl rfl q5_53 cw_X7_battery C.hM rfl rfl rfl ⟨rfl, rfl, Nat.le_of_ble_eq_true rfl, Nat.le_of_ble_eq_true rfl⟩ _ rfl (Nat.le_of_ble_eq_true rfl) dL_law_690 ?_
  exact j_icmp_eq (ρ := Bool) (fa := some true) (fb := some false) (res := true) h 967 (by decide) dL_law_693 (by rw [if_pos rfl]) (fun _ => K S R hR2) (fun hF => absurd hF (by decide))
set_option maxHeartbeats 4000000 in
set_option maxRecDepth 100000 in
theorem law_feeder {X : JX (PS × RS)} {AD : Nat → Nat → Nat} {ad t : Nat → Nat} {b L : Nat} {xs : Nat → Int32} (C : LawX X AD ad t b L xs) {Rel : Nat → PS → RS → Prop} {n : Nat} {i : Int32} (hn : n < 512) (hi : i = nI (4 * n)) (hL : 4 * n + 4 ≤ L) {S : PS} {R : RS} (hR : Rel n S R) (K : ∀ (S2 : PS) (R2 : RS), Rel (n + 1) S2 R2 → J X 967 [(3, .int i), (2, .ref (ad 7)), (1, .ref (AD 12 7)), (0, .ref b)] [] (S2, R2)) (op : Op_feeder Rel) : J X 698 [(3, .int i), (2, .ref (ad 7)), (1, .ref (AD 12 7)), (0, .ref b)] [] (S, R) := by
  obtain ⟨h, hP, hM, hSt, hX, hbl, hbA, hnL, hL2⟩ := id C
  have hb1 : vp_in (i + 1) L := by rw [hi, show (1 : Int32) = nI 1 from rfl, nI_add]; exact vp_in_nI (by omega) (by omega)
  obtain ⟨a0, ea0⟩ : ∃ y, y = xs (i + 1).toNatClampNeg := ⟨_, rfl⟩
  have hb2 : vp_in (i + 2) L := by rw [hi, show (2 : Int32) = nI 2 from rfl, nI_add]; exact vp_in_nI (by omega) (by omega)
  obtain ⟨a1, ea1⟩ : ∃ y, y = xs (i + 2).toNatClampNeg := ⟨_, rfl⟩
  obtain ⟨r, hx, hm, hR2⟩ := op n S R a0 a1 hn hR
  refine j_aload_n h 2 rfl rfl dL_law_698 ?_
  refine j_aload_n h 3 rfl rfl dL_law_699 ?_
  refine j_iload_n h 0 rfl rfl dL_law_700 ?_
  refine j_iconst h (v := 1) (by decide) dL_law_701 ?_
  refine j_iadd h dL_law_702 ?_
  refine j_sld h hX hbl hbA hb1 dL_law_703 ?_
  rw [← ea0]
  refine j_aload_n h 3 rfl rfl dL_law_704 ?_
  refine j_iload_n h 0 rfl rfl dL_law_705 ?_
  refine j_iconst h (v := 2) (by decide) dL_law_706 ?_
  refine j_iadd h dL_law_707 ?_
  refine j_sld h hX hbl hbA hb2 dL_law_708 ?_
  rw [← ea1]
  refine j_callVi h (st := []) (S' := (S, R)) (c_X6_feeder X.l X.D X.cI X.cZ X.cV (B := fun S => X.B (S, R)) (hP R) S a0 a1 hx) rfl rfl q3_130 cw_X6_feeder C.hO rfl rfl rfl ⟨rfl, rfl, Nat.le_of_ble_eq_true rfl, Nat.le_of_ble_eq_true rfl⟩ _ rfl (Nat.le_of_ble_eq_true rfl) dL_law_709 ?_
  refine j_aload_n h 1 rfl rfl dL_law_712 ?_
  refine j_aload_n h 3 rfl rfl dL_law_713 ?_
  refine j_iload_n h 0 rfl rfl dL_law_714 ?_
  refine j_iconst h (v := 1) (by decide) dL_law_715 ?_
  refine j_iadd h dL_law_716 ?_
  refine j_sld h hX hbl hbA hb1 dL_law_717 ?_
  rw [← ea0]
  refine j_aload_n h 3 rfl rfl dL_law_718 ?_
  refine j_iload_n h 0 rfl rfl dL_law_719 ?_
  refine j_iconst h (v := 2) (by decide) dL_law_720 ?_
  refine j_iadd h dL_law_721 ?_
  refine j_sld h hX hbl hbA hb2 dL_law_722 ?_
  rw [← ea1]
  refine j_callVi h (st := [.int r]) (S' := (S, R)) (c_X7_feeder X.l X.D X.cI X.cZ X.cV (B := fun R => X.B (S, R)) (hM S) R a0 a1 hm) rfl rfl q5_61 cw_X7_feeder C.hM rfl rfl rfl ⟨rfl, rfl, Nat.le_of_ble_eq_true rfl, Nat.le_of_ble_eq_true rfl⟩ _ rfl (Nat.le_of_ble_eq_true rfl) dL_law_723 ?_
  exact j_icmp_eq (ρ := Bool) (fa := some true) (fb := some false) (res := true) h 967 (by decide) dL_law_726 (by rw [if_pos rfl]) (fun _ => K S R hR2) (fun hF => absurd hF (by decide))
set_option maxHeartbeats 4000000 in
set_option maxRecDepth 100000 in
theorem law_account {X : JX (PS × RS)} {AD : Nat → Nat → Nat} {ad t : Nat → Nat} {b L : Nat} {xs : Nat → Int32} (C : LawX X AD ad t b L xs) {Rel : Nat → PS → RS → Prop} {n : Nat} {i : Int32} (hn : n < 512) (hi : i = nI (4 * n)) (hL : 4 * n + 4 ≤ L) {S : PS} {R : RS} (hR : Rel n S R) (K : ∀ (S2 : PS) (R2 : RS), Rel (n + 1) S2 R2 → J X 967 [(3, .int i), (2, .ref (ad 7)), (1, .ref (AD 12 7)), (0, .ref b)] [] (S2, R2)) (op : Op_account Rel) : J X 731 [(3, .int i), (2, .ref (ad 7)), (1, .ref (AD 12 7)), (0, .ref b)] [] (S, R) := by
  obtain ⟨h, hP, hM, hSt, hX, hbl, hbA, hnL, hL2⟩ := id C
  have hb1 : vp_in (i + 1) L := by rw [hi, show (1 : Int32) = nI 1 from rfl, nI_add]; exact vp_in_nI (by omega) (by omega)
  obtain ⟨a0, ea0⟩ : ∃ y, y = xs (i + 1).toNatClampNeg := ⟨_, rfl⟩
  obtain ⟨r, hx, hm, hR2⟩ := op n S R a0 hn hR
  refine j_aload_n h 2 rfl rfl dL_law_731 ?_
  refine j_aload_n h 3 rfl rfl dL_law_732 ?_
  refine j_iload_n h 0 rfl rfl dL_law_733 ?_
  refine j_iconst h (v := 1) (by decide) dL_law_734 ?_
  refine j_iadd h dL_law_735 ?_
  refine j_sld h hX hbl hbA hb1 dL_law_736 ?_
  rw [← ea0]
  refine j_callVi h (st := []) (S' := (S, R)) (c_X6_account X.l X.D X.cI X.cZ X.cV (B := fun S => X.B (S, R)) (hP R) S a0 hx) rfl rfl q3_143 cw_X6_account C.hO rfl rfl rfl ⟨rfl, rfl, Nat.le_of_ble_eq_true rfl, Nat.le_of_ble_eq_true rfl⟩ _ rfl (Nat.le_of_ble_eq_true rfl) dL_law_737 ?_
  refine j_aload_n h 1 rfl rfl dL_law_740 ?_
  refine j_aload_n h 3 rfl rfl dL_law_741 ?_
  refine j_iload_n h 0 rfl rfl dL_law_742 ?_
  refine j_iconst h (v := 1) (by decide) dL_law_743 ?_
  refine j_iadd h dL_law_744 ?_
  refine j_sld h hX hbl hbA hb1 dL_law_745 ?_
  rw [← ea0]
  refine j_callVi h (st := [.int r]) (S' := (S, R)) (c_X7_account X.l X.D X.cI X.cZ X.cV (B := fun R => X.B (S, R)) (hM S) R a0 hm) rfl rfl q5_73 cw_X7_account C.hM rfl rfl rfl ⟨rfl, rfl, Nat.le_of_ble_eq_true rfl, Nat.le_of_ble_eq_true rfl⟩ _ rfl (Nat.le_of_ble_eq_true rfl) dL_law_746 ?_
  exact j_icmp_eq (ρ := Bool) (fa := some true) (fb := some false) (res := true) h 967 (by decide) dL_law_749 (by rw [if_pos rfl]) (fun _ => K S R hR2) (fun hF => absurd hF (by decide))
set_option maxHeartbeats 4000000 in
set_option maxRecDepth 100000 in
theorem law_supply {X : JX (PS × RS)} {AD : Nat → Nat → Nat} {ad t : Nat → Nat} {b L : Nat} {xs : Nat → Int32} (C : LawX X AD ad t b L xs) {Rel : Nat → PS → RS → Prop} {n : Nat} {i : Int32} (hn : n < 512) (hi : i = nI (4 * n)) (hL : 4 * n + 4 ≤ L) {S : PS} {R : RS} (hR : Rel n S R) (K : ∀ (S2 : PS) (R2 : RS), Rel (n + 1) S2 R2 → J X 967 [(3, .int i), (2, .ref (ad 7)), (1, .ref (AD 12 7)), (0, .ref b)] [] (S2, R2)) (op : Op_supply Rel) : J X 754 [(3, .int i), (2, .ref (ad 7)), (1, .ref (AD 12 7)), (0, .ref b)] [] (S, R) := by
  obtain ⟨h, hP, hM, hSt, hX, hbl, hbA, hnL, hL2⟩ := id C
  have hb1 : vp_in (i + 1) L := by rw [hi, show (1 : Int32) = nI 1 from rfl, nI_add]; exact vp_in_nI (by omega) (by omega)
  obtain ⟨a0, ea0⟩ : ∃ y, y = xs (i + 1).toNatClampNeg := ⟨_, rfl⟩
  obtain ⟨r, hx, hm, hR2⟩ := op n S R a0 hn hR
  refine j_aload_n h 2 rfl rfl dL_law_754 ?_
  refine j_aload_n h 3 rfl rfl dL_law_755 ?_
  refine j_iload_n h 0 rfl rfl dL_law_756 ?_
  refine j_iconst h (v := 1) (by decide) dL_law_757 ?_
  refine j_iadd h dL_law_758 ?_
  refine j_sld h hX hbl hbA hb1 dL_law_759 ?_
  rw [← ea0]
  refine j_callVi h (st := []) (S' := (S, R)) (c_X6_supply X.l X.D X.cI X.cZ X.cV (B := fun S => X.B (S, R)) (hP R) S a0 hx) rfl rfl q3_151 cw_X6_supply C.hO rfl rfl rfl ⟨rfl, rfl, Nat.le_of_ble_eq_true rfl, Nat.le_of_ble_eq_true rfl⟩ _ rfl (Nat.le_of_ble_eq_true rfl) dL_law_760 ?_
  refine j_aload_n h 1 rfl rfl dL_law_763 ?_
  refine j_aload_n h 3 rfl rfl dL_law_764 ?_
  refine j_iload_n h 0 rfl rfl dL_law_765 ?_
  refine j_iconst h (v := 1) (by decide) dL_law_766 ?_
  refine j_iadd h dL_law_767 ?_
  refine j_sld h hX hbl hbA hb1 dL_law_768 ?_
  rw [← ea0]
  refine j_callVi h (st := [.int r]) (S' := (S, R)) (c_X7_supply X.l X.D X.cI X.cZ X.cV (B := fun R => X.B (S, R)) (hM S) R a0 hm) rfl rfl q5_81 cw_X7_supply C.hM rfl rfl rfl ⟨rfl, rfl, Nat.le_of_ble_eq_true rfl, Nat.le_of_ble_eq_true rfl⟩ _ rfl (Nat.le_of_ble_eq_true rfl) dL_law_769 ?_
  exact j_icmp_eq (ρ := Bool) (fa := some true) (fb := some false) (res := true) h 967 (by decide) dL_law_772 (by rw [if_pos rfl]) (fun _ => K S R hR2) (fun hF => absurd hF (by decide))
set_option maxHeartbeats 4000000 in
set_option maxRecDepth 100000 in
theorem law_count {X : JX (PS × RS)} {AD : Nat → Nat → Nat} {ad t : Nat → Nat} {b L : Nat} {xs : Nat → Int32} (C : LawX X AD ad t b L xs) {Rel : Nat → PS → RS → Prop} {n : Nat} {i : Int32} (hn : n < 512) (hi : i = nI (4 * n)) (hL : 4 * n + 4 ≤ L) {S : PS} {R : RS} (hR : Rel n S R) (K : ∀ (S2 : PS) (R2 : RS), Rel (n + 1) S2 R2 → J X 967 [(3, .int i), (2, .ref (ad 7)), (1, .ref (AD 12 7)), (0, .ref b)] [] (S2, R2)) (op : Op_count Rel) : J X 777 [(3, .int i), (2, .ref (ad 7)), (1, .ref (AD 12 7)), (0, .ref b)] [] (S, R) := by
  obtain ⟨h, hP, hM, hSt, hX, hbl, hbA, hnL, hL2⟩ := id C
  have hb1 : vp_in (i + 1) L := by rw [hi, show (1 : Int32) = nI 1 from rfl, nI_add]; exact vp_in_nI (by omega) (by omega)
  obtain ⟨a0, ea0⟩ : ∃ y, y = xs (i + 1).toNatClampNeg := ⟨_, rfl⟩
  obtain ⟨r, hx, hm, hR2⟩ := op n S R a0 hn hR
  refine j_aload_n h 2 rfl rfl dL_law_777 ?_
  refine j_aload_n h 3 rfl rfl dL_law_778 ?_
  refine j_iload_n h 0 rfl rfl dL_law_779 ?_
  refine j_iconst h (v := 1) (by decide) dL_law_780 ?_
  refine j_iadd h dL_law_781 ?_
  refine j_sld h hX hbl hbA hb1 dL_law_782 ?_
  rw [← ea0]
  refine j_callVi h (st := []) (S' := (S, R)) (c_X6_count X.l X.D X.cI X.cZ X.cV (B := fun S => X.B (S, R)) (hP R) S a0 hx) rfl rfl q3_156 cw_X6_count C.hO rfl rfl rfl ⟨rfl, rfl, Nat.le_of_ble_eq_true rfl, Nat.le_of_ble_eq_true rfl⟩ _ rfl (Nat.le_of_ble_eq_true rfl) dL_law_783 ?_
  refine j_aload_n h 1 rfl rfl dL_law_786 ?_
  refine j_aload_n h 3 rfl rfl dL_law_787 ?_
  refine j_iload_n h 0 rfl rfl dL_law_788 ?_
  refine j_iconst h (v := 1) (by decide) dL_law_789 ?_
  refine j_iadd h dL_law_790 ?_
  refine j_sld h hX hbl hbA hb1 dL_law_791 ?_
  rw [← ea0]
  refine j_callVi h (st := [.int r]) (S' := (S, R)) (c_X7_count X.l X.D X.cI X.cZ X.cV (B := fun R => X.B (S, R)) (hM S) R a0 hm) rfl rfl q5_85 cw_X7_count C.hM rfl rfl rfl ⟨rfl, rfl, Nat.le_of_ble_eq_true rfl, Nat.le_of_ble_eq_true rfl⟩ _ rfl (Nat.le_of_ble_eq_true rfl) dL_law_792 ?_
  exact j_icmp_eq (ρ := Bool) (fa := some true) (fb := some false) (res := true) h 967 (by decide) dL_law_795 (by rw [if_pos rfl]) (fun _ => K S R hR2) (fun hF => absurd hF (by decide))
set_option maxHeartbeats 4000000 in
set_option maxRecDepth 100000 in
theorem law_setting {X : JX (PS × RS)} {AD : Nat → Nat → Nat} {ad t : Nat → Nat} {b L : Nat} {xs : Nat → Int32} (C : LawX X AD ad t b L xs) {Rel : Nat → PS → RS → Prop} {n : Nat} {i : Int32} (hn : n < 512) (hi : i = nI (4 * n)) (hL : 4 * n + 4 ≤ L) {S : PS} {R : RS} (hR : Rel n S R) (K : ∀ (S2 : PS) (R2 : RS), Rel (n + 1) S2 R2 → J X 967 [(3, .int i), (2, .ref (ad 7)), (1, .ref (AD 12 7)), (0, .ref b)] [] (S2, R2)) (op : Op_setting Rel) : J X 800 [(3, .int i), (2, .ref (ad 7)), (1, .ref (AD 12 7)), (0, .ref b)] [] (S, R) := by
  obtain ⟨h, hP, hM, hSt, hX, hbl, hbA, hnL, hL2⟩ := id C
  have hb1 : vp_in (i + 1) L := by rw [hi, show (1 : Int32) = nI 1 from rfl, nI_add]; exact vp_in_nI (by omega) (by omega)
  obtain ⟨a0, ea0⟩ : ∃ y, y = xs (i + 1).toNatClampNeg := ⟨_, rfl⟩
  obtain ⟨r, hx, hm, hR2⟩ := op n S R a0 hn hR
  refine j_aload_n h 2 rfl rfl dL_law_800 ?_
  refine j_aload_n h 3 rfl rfl dL_law_801 ?_
  refine j_iload_n h 0 rfl rfl dL_law_802 ?_
  refine j_iconst h (v := 1) (by decide) dL_law_803 ?_
  refine j_iadd h dL_law_804 ?_
  refine j_sld h hX hbl hbA hb1 dL_law_805 ?_
  rw [← ea0]
  refine j_callVi h (st := []) (S' := (S, R)) (c_X6_setting X.l X.D X.cI X.cZ X.cV (B := fun S => X.B (S, R)) (hP R) S a0 hx) rfl rfl q3_164 cw_X6_setting C.hO rfl rfl rfl ⟨rfl, rfl, Nat.le_of_ble_eq_true rfl, Nat.le_of_ble_eq_true rfl⟩ _ rfl (Nat.le_of_ble_eq_true rfl) dL_law_806 ?_
  refine j_aload_n h 1 rfl rfl dL_law_809 ?_
  refine j_aload_n h 3 rfl rfl dL_law_810 ?_
  refine j_iload_n h 0 rfl rfl dL_law_811 ?_
  refine j_iconst h (v := 1) (by decide) dL_law_812 ?_
  refine j_iadd h dL_law_813 ?_
  refine j_sld h hX hbl hbA hb1 dL_law_814 ?_
  rw [← ea0]
  refine j_callVi h (st := [.int r]) (S' := (S, R)) (c_X7_setting X.l X.D X.cI X.cZ X.cV (B := fun R => X.B (S, R)) (hM S) R a0 hm) rfl rfl q5_97 cw_X7_setting C.hM rfl rfl rfl ⟨rfl, rfl, Nat.le_of_ble_eq_true rfl, Nat.le_of_ble_eq_true rfl⟩ _ rfl (Nat.le_of_ble_eq_true rfl) dL_law_815 ?_
  exact j_icmp_eq (ρ := Bool) (fa := some true) (fb := some false) (res := true) h 967 (by decide) dL_law_818 (by rw [if_pos rfl]) (fun _ => K S R hR2) (fun hF => absurd hF (by decide))
set_option maxHeartbeats 4000000 in
set_option maxRecDepth 100000 in
theorem law_ifRun {X : JX (PS × RS)} {AD : Nat → Nat → Nat} {ad t : Nat → Nat} {b L : Nat} {xs : Nat → Int32} (C : LawX X AD ad t b L xs) {Rel : Nat → PS → RS → Prop} {n : Nat} {i : Int32} (hn : n < 512) (hi : i = nI (4 * n)) (hL : 4 * n + 4 ≤ L) {S : PS} {R : RS} (hR : Rel n S R) (K : ∀ (S2 : PS) (R2 : RS), Rel (n + 1) S2 R2 → J X 967 [(3, .int i), (2, .ref (ad 7)), (1, .ref (AD 12 7)), (0, .ref b)] [] (S2, R2)) (op : Op_ifRun Rel) : J X 823 [(3, .int i), (2, .ref (ad 7)), (1, .ref (AD 12 7)), (0, .ref b)] [] (S, R) := by
  obtain ⟨h, hP, hM, hSt, hX, hbl, hbA, hnL, hL2⟩ := id C
  have hb1 : vp_in (i + 1) L := by rw [hi, show (1 : Int32) = nI 1 from rfl, nI_add]; exact vp_in_nI (by omega) (by omega)
  obtain ⟨a0, ea0⟩ : ∃ y, y = xs (i + 1).toNatClampNeg := ⟨_, rfl⟩
  have hb2 : vp_in (i + 2) L := by rw [hi, show (2 : Int32) = nI 2 from rfl, nI_add]; exact vp_in_nI (by omega) (by omega)
  obtain ⟨a1, ea1⟩ : ∃ y, y = xs (i + 2).toNatClampNeg := ⟨_, rfl⟩
  obtain ⟨r, S2, R2, hx, hm, hR2⟩ := op n S R a0 a1 hn hR
  refine j_aload_n h 2 rfl rfl dL_law_823 ?_
  refine j_aload_n h 3 rfl rfl dL_law_824 ?_
  refine j_iload_n h 0 rfl rfl dL_law_825 ?_
  refine j_iconst h (v := 1) (by decide) dL_law_826 ?_
  refine j_iadd h dL_law_827 ?_
  refine j_sld h hX hbl hbA hb1 dL_law_828 ?_
  rw [← ea0]
  refine j_aload_n h 3 rfl rfl dL_law_829 ?_
  refine j_iload_n h 0 rfl rfl dL_law_830 ?_
  refine j_iconst h (v := 2) (by decide) dL_law_831 ?_
  refine j_iadd h dL_law_832 ?_
  refine j_sld h hX hbl hbA hb2 dL_law_833 ?_
  rw [← ea1]
  refine j_callVi h (st := []) (S' := (S2, R)) (c_X6_ifRun X.l X.D X.cI X.cZ X.cV (B := fun S => X.B (S, R)) (hP R) S a0 a1 hx) rfl rfl q3_168 cw_X6_ifRun C.hO rfl rfl rfl ⟨rfl, rfl, Nat.le_of_ble_eq_true rfl, Nat.le_of_ble_eq_true rfl⟩ _ rfl (Nat.le_of_ble_eq_true rfl) dL_law_834 ?_
  refine j_aload_n h 1 rfl rfl dL_law_837 ?_
  refine j_aload_n h 3 rfl rfl dL_law_838 ?_
  refine j_iload_n h 0 rfl rfl dL_law_839 ?_
  refine j_iconst h (v := 1) (by decide) dL_law_840 ?_
  refine j_iadd h dL_law_841 ?_
  refine j_sld h hX hbl hbA hb1 dL_law_842 ?_
  rw [← ea0]
  refine j_aload_n h 3 rfl rfl dL_law_843 ?_
  refine j_iload_n h 0 rfl rfl dL_law_844 ?_
  refine j_iconst h (v := 2) (by decide) dL_law_845 ?_
  refine j_iadd h dL_law_846 ?_
  refine j_sld h hX hbl hbA hb2 dL_law_847 ?_
  rw [← ea1]
  refine j_callVi h (st := [.int r]) (S' := (S2, R2)) (c_X7_ifRun X.l X.D X.cI X.cZ X.cV (B := fun R => X.B (S2, R)) (hM S2) R a0 a1 hm) rfl rfl q5_101 cw_X7_ifRun C.hM rfl rfl rfl ⟨rfl, rfl, Nat.le_of_ble_eq_true rfl, Nat.le_of_ble_eq_true rfl⟩ _ rfl (Nat.le_of_ble_eq_true rfl) dL_law_848 ?_
  exact j_icmp_eq (ρ := Bool) (fa := some true) (fb := some false) (res := true) h 967 (by decide) dL_law_851 (by rw [if_pos rfl]) (fun _ => K S2 R2 hR2) (fun hF => absurd hF (by decide))
set_option maxHeartbeats 4000000 in
set_option maxRecDepth 100000 in
theorem law_darkIn {X : JX (PS × RS)} {AD : Nat → Nat → Nat} {ad t : Nat → Nat} {b L : Nat} {xs : Nat → Int32} (C : LawX X AD ad t b L xs) {Rel : Nat → PS → RS → Prop} {n : Nat} {i : Int32} (hn : n < 512) (hi : i = nI (4 * n)) (hL : 4 * n + 4 ≤ L) {S : PS} {R : RS} (hR : Rel n S R) (K : ∀ (S2 : PS) (R2 : RS), Rel (n + 1) S2 R2 → J X 967 [(3, .int i), (2, .ref (ad 7)), (1, .ref (AD 12 7)), (0, .ref b)] [] (S2, R2)) (op : Op_darkIn Rel) : J X 856 [(3, .int i), (2, .ref (ad 7)), (1, .ref (AD 12 7)), (0, .ref b)] [] (S, R) := by
  obtain ⟨h, hP, hM, hSt, hX, hbl, hbA, hnL, hL2⟩ := id C
  have hb1 : vp_in (i + 1) L := by rw [hi, show (1 : Int32) = nI 1 from rfl, nI_add]; exact vp_in_nI (by omega) (by omega)
  obtain ⟨a0, ea0⟩ : ∃ y, y = xs (i + 1).toNatClampNeg := ⟨_, rfl⟩
  obtain ⟨r, S2, R2, hx, hm, hR2⟩ := op n S R a0 hn hR
  refine j_aload_n h 2 rfl rfl dL_law_856 ?_
  refine j_aload_n h 3 rfl rfl dL_law_857 ?_
  refine j_iload_n h 0 rfl rfl dL_law_858 ?_
  refine j_iconst h (v := 1) (by decide) dL_law_859 ?_
  refine j_iadd h dL_law_860 ?_
  refine j_sld h hX hbl hbA hb1 dL_law_861 ?_
  rw [← ea0]
  refine j_callVi h (st := []) (S' := (S2, R)) (c_X6_darkIn X.l X.D X.cI X.cZ X.cV (B := fun S => X.B (S, R)) (hP R) S a0 hx) rfl rfl q3_184 cw_X6_darkIn C.hO rfl rfl rfl ⟨rfl, rfl, Nat.le_of_ble_eq_true rfl, Nat.le_of_ble_eq_true rfl⟩ _ rfl (Nat.le_of_ble_eq_true rfl) dL_law_862 ?_
  refine j_aload_n h 1 rfl rfl dL_law_865 ?_
  refine j_aload_n h 3 rfl rfl dL_law_866 ?_
  refine j_iload_n h 0 rfl rfl dL_law_867 ?_
  refine j_iconst h (v := 1) (by decide) dL_law_868 ?_
  refine j_iadd h dL_law_869 ?_
  refine j_sld h hX hbl hbA hb1 dL_law_870 ?_
  rw [← ea0]
  refine j_callVi h (st := [.int r]) (S' := (S2, R2)) (c_X7_darkIn X.l X.D X.cI X.cZ X.cV (B := fun R => X.B (S2, R)) (hM S2) R a0 hm) rfl rfl q5_117 cw_X7_darkIn C.hM rfl rfl rfl ⟨rfl, rfl, Nat.le_of_ble_eq_true rfl, Nat.le_of_ble_eq_true rfl⟩ _ rfl (Nat.le_of_ble_eq_true rfl) dL_law_871 ?_
  exact j_icmp_eq (ρ := Bool) (fa := some true) (fb := some false) (res := true) h 967 (by decide) dL_law_874 (by rw [if_pos rfl]) (fun _ => K S2 R2 hR2) (fun hF => absurd hF (by decide))
set_option maxHeartbeats 4000000 in
set_option maxRecDepth 100000 in
theorem law_tokenFor {X : JX (PS × RS)} {AD : Nat → Nat → Nat} {ad t : Nat → Nat} {b L : Nat} {xs : Nat → Int32} (C : LawX X AD ad t b L xs) {Rel : Nat → PS → RS → Prop} {n : Nat} {i : Int32} (hn : n < 512) (hi : i = nI (4 * n)) (hL : 4 * n + 4 ≤ L) {S : PS} {R : RS} (hR : Rel n S R) (K : ∀ (S2 : PS) (R2 : RS), Rel (n + 1) S2 R2 → J X 967 [(3, .int i), (2, .ref (ad 7)), (1, .ref (AD 12 7)), (0, .ref b)] [] (S2, R2)) (op : Op_tokenFor Rel) : J X 879 [(3, .int i), (2, .ref (ad 7)), (1, .ref (AD 12 7)), (0, .ref b)] [] (S, R) := by
  obtain ⟨h, hP, hM, hSt, hX, hbl, hbA, hnL, hL2⟩ := id C
  have hb1 : vp_in (i + 1) L := by rw [hi, show (1 : Int32) = nI 1 from rfl, nI_add]; exact vp_in_nI (by omega) (by omega)
  obtain ⟨a0, ea0⟩ : ∃ y, y = xs (i + 1).toNatClampNeg := ⟨_, rfl⟩
  have hb2 : vp_in (i + 2) L := by rw [hi, show (2 : Int32) = nI 2 from rfl, nI_add]; exact vp_in_nI (by omega) (by omega)
  obtain ⟨a1, ea1⟩ : ∃ y, y = xs (i + 2).toNatClampNeg := ⟨_, rfl⟩
  obtain ⟨r, S2, R2, hx, hm, hR2⟩ := op n S R a0 a1 hn hR
  refine j_aload_n h 2 rfl rfl dL_law_879 ?_
  refine j_aload_n h 3 rfl rfl dL_law_880 ?_
  refine j_iload_n h 0 rfl rfl dL_law_881 ?_
  refine j_iconst h (v := 1) (by decide) dL_law_882 ?_
  refine j_iadd h dL_law_883 ?_
  refine j_sld h hX hbl hbA hb1 dL_law_884 ?_
  rw [← ea0]
  refine j_aload_n h 3 rfl rfl dL_law_885 ?_
  refine j_iload_n h 0 rfl rfl dL_law_886 ?_
  refine j_iconst h (v := 2) (by decide) dL_law_887 ?_
  refine j_iadd h dL_law_888 ?_
  refine j_sld h hX hbl hbA hb2 dL_law_889 ?_
  rw [← ea1]
  refine j_callVi h (st := []) (S' := (S2, R)) (c_X6_tokenFor X.l X.D X.cI X.cZ X.cV (B := fun S => X.B (S, R)) (hP R) S a0 a1 hx) rfl rfl q3_192 cw_X6_tokenFor C.hO rfl rfl rfl ⟨rfl, rfl, Nat.le_of_ble_eq_true rfl, Nat.le_of_ble_eq_true rfl⟩ _ rfl (Nat.le_of_ble_eq_true rfl) dL_law_890 ?_
  refine j_aload_n h 1 rfl rfl dL_law_893 ?_
  refine j_aload_n h 3 rfl rfl dL_law_894 ?_
  refine j_iload_n h 0 rfl rfl dL_law_895 ?_
  refine j_iconst h (v := 1) (by decide) dL_law_896 ?_
  refine j_iadd h dL_law_897 ?_
  refine j_sld h hX hbl hbA hb1 dL_law_898 ?_
  rw [← ea0]
  refine j_aload_n h 3 rfl rfl dL_law_899 ?_
  refine j_iload_n h 0 rfl rfl dL_law_900 ?_
  refine j_iconst h (v := 2) (by decide) dL_law_901 ?_
  refine j_iadd h dL_law_902 ?_
  refine j_sld h hX hbl hbA hb2 dL_law_903 ?_
  rw [← ea1]
  refine j_callVi h (st := [.int r]) (S' := (S2, R2)) (c_X7_tokenFor X.l X.D X.cI X.cZ X.cV (B := fun R => X.B (S2, R)) (hM S2) R a0 a1 hm) rfl rfl q5_125 cw_X7_tokenFor C.hM rfl rfl rfl ⟨rfl, rfl, Nat.le_of_ble_eq_true rfl, Nat.le_of_ble_eq_true rfl⟩ _ rfl (Nat.le_of_ble_eq_true rfl) dL_law_904 ?_
  exact j_icmp_eq (ρ := Bool) (fa := some true) (fb := some false) (res := true) h 967 (by decide) dL_law_907 (by rw [if_pos rfl]) (fun _ => K S2 R2 hR2) (fun hF => absurd hF (by decide))
set_option maxHeartbeats 4000000 in
set_option maxRecDepth 100000 in
theorem law_met {X : JX (PS × RS)} {AD : Nat → Nat → Nat} {ad t : Nat → Nat} {b L : Nat} {xs : Nat → Int32} (C : LawX X AD ad t b L xs) {Rel : Nat → PS → RS → Prop} {n : Nat} {i : Int32} (hn : n < 512) (hi : i = nI (4 * n)) (hL : 4 * n + 4 ≤ L) {S : PS} {R : RS} (hR : Rel n S R) (K : ∀ (S2 : PS) (R2 : RS), Rel (n + 1) S2 R2 → J X 967 [(3, .int i), (2, .ref (ad 7)), (1, .ref (AD 12 7)), (0, .ref b)] [] (S2, R2)) (op : Op_met Rel) : J X 912 [(3, .int i), (2, .ref (ad 7)), (1, .ref (AD 12 7)), (0, .ref b)] [] (S, R) := by
  obtain ⟨h, hP, hM, hSt, hX, hbl, hbA, hnL, hL2⟩ := id C
  obtain ⟨r, hx, hm, hR2⟩ := op n S R hn hR
  refine j_aload_n h 2 rfl rfl dL_law_912 ?_
  refine j_callVd h (st := []) (S' := (S, R)) (c_X6_met X.l X.D X.cI X.cZ X.cV (B := fun S => X.B (S, R)) (hP R) S hx) rfl rfl q3_205 cw_X6_met C.hO rfl rfl rfl ⟨rfl, rfl, Nat.le_of_ble_eq_true rfl, Nat.le_of_ble_eq_true rfl⟩ _ rfl (Nat.le_of_ble_eq_true rfl) dL_law_913 ?_
  refine j_dstore h hnL [(4, .double r), (3, .int i), (2, .ref (ad 7)), (1, .ref (AD 12 7)), (0, .ref b)] (by decide) rfl dL_law_916 ?_
  refine j_aload_n h 2 rfl rfl dL_law_918 ?_
  refine j_callVd h (st := []) (S' := (S, R)) (c_X7_met X.l X.D X.cI X.cZ X.cV (B := fun R => X.B (S, R)) (hM S) R hm) rfl rfl q5_129 cw_X7_met C.hM rfl rfl rfl ⟨rfl, rfl, Nat.le_of_ble_eq_true rfl, Nat.le_of_ble_eq_true rfl⟩ _ rfl (Nat.le_of_ble_eq_true rfl) dL_law_919 ?_
  refine j_dstore h hnL [(6, .double r), (4, .double r), (3, .int i), (2, .ref (ad 7)), (1, .ref (AD 12 7)), (0, .ref b)] (by decide) rfl dL_law_922 ?_
  have hend : J X 950 [(6, .double r), (4, .double r), (3, .int i), (2, .ref (ad 7)), (1, .ref (AD 12 7)), (0, .ref b)] [] (S, R) := by
    refine j_goto h 967 (by decide) dL_law_950 ?_
    exact j_sub [2, 3, 4, 5] rfl (K S R hR2)
  refine j_dload h 1 rfl dL_law_924 ?_
  refine j_dload h 0 rfl dL_law_926 ?_
  refine j_dcmp h dL_law_928 ?_
  by_cases hz : Op.cmpValue (FP.dcmp r r) .l = 0
  · exact j_if_eq (ρ := Bool) (fa := some true) (fb := some false) (res := true) h 950 (by decide) dL_law_929 (by rw [if_pos hz]) (fun _ => hend) (fun hF => absurd hF (by decide))
  · refine j_if_eq (ρ := Bool) (fa := some true) (fb := some false) (res := false) h 950 (by decide) dL_law_929 (by rw [if_neg hz]) (fun hF => absurd hF (by decide)) (fun _ => ?_)
    refine j_dload h 1 rfl dL_law_932 ?_
    refine j_dload h 1 rfl dL_law_934 ?_
    refine j_dcmp h dL_law_936 ?_
    refine j_if_eq (ρ := Bool) (fa := some true) (fb := some false) (res := false) h 948 (by decide) dL_law_937 (by rw [if_neg hz]) (fun hF => absurd hF (by decide)) (fun _ => ?_)
    refine j_dload h 0 rfl dL_law_940 ?_
    refine j_dload h 0 rfl dL_law_942 ?_
    refine j_dcmp h dL_law_944 ?_
    exact j_if_ne (ρ := Bool) (fa := some false) (fb := some true) (res := true) h 950 (by decide) dL_law_945 (by rw [if_neg hz]) (fun hF => absurd hF (by decide)) (fun _ => hend)
set_option maxHeartbeats 4000000 in
set_option maxRecDepth 100000 in
theorem law_digest {X : JX (PS × RS)} {AD : Nat → Nat → Nat} {ad t : Nat → Nat} {b L : Nat} {xs : Nat → Int32} (C : LawX X AD ad t b L xs) {Rel : Nat → PS → RS → Prop} {n : Nat} {i : Int32} (hn : n < 512) (hi : i = nI (4 * n)) (hL : 4 * n + 4 ≤ L) {S : PS} {R : RS} (hR : Rel n S R) (K : ∀ (S2 : PS) (R2 : RS), Rel (n + 1) S2 R2 → J X 967 [(3, .int i), (2, .ref (ad 7)), (1, .ref (AD 12 7)), (0, .ref b)] [] (S2, R2)) (op : Op_digest Rel) : J X 953 [(3, .int i), (2, .ref (ad 7)), (1, .ref (AD 12 7)), (0, .ref b)] [] (S, R) := by
  obtain ⟨h, hP, hM, hSt, hX, hbl, hbA, hnL, hL2⟩ := id C
  obtain ⟨r, S2, R2, hx, hm, hR2⟩ := op n S R hn hR
  refine j_aload_n h 2 rfl rfl dL_law_953 ?_
  refine j_callVl h (st := []) (S' := (S2, R)) (c_X6_digest X.l X.D X.cI X.cZ X.cV (B := fun S => X.B (S, R)) (hP R) S hx) rfl rfl q3_210 cw_X6_digest C.hO rfl rfl rfl ⟨rfl, rfl, Nat.le_of_ble_eq_true rfl, Nat.le_of_ble_eq_true rfl⟩ _ rfl (Nat.le_of_ble_eq_true rfl) dL_law_954 ?_
  refine j_aload_n h 1 rfl rfl dL_law_957 ?_
  refine j_callVl h (st := [.long r]) (S' := (S2, R2)) (c_X7_digest X.l X.D X.cI X.cZ X.cV (B := fun R => X.B (S2, R)) (hM S2) R hm) rfl rfl q5_133 cw_X7_digest C.hM rfl rfl rfl ⟨rfl, rfl, Nat.le_of_ble_eq_true rfl, Nat.le_of_ble_eq_true rfl⟩ _ rfl (Nat.le_of_ble_eq_true rfl) dL_law_958 ?_
  refine j_lcmp h dL_law_961 ?_
  have hz : lg_cmp r r = 0 := by unfold lg_cmp; simp
  exact j_if_eq (ρ := Bool) (fa := some true) (fb := some false) (res := true) h 967 (by decide) dL_law_962 (by rw [if_pos hz]) (fun _ => K S2 R2 hR2) (fun hF => absurd hF (by decide))
set_option maxHeartbeats 4000000 in
set_option maxRecDepth 100000 in
theorem law_step {X : JX (PS × RS)} {AD : Nat → Nat → Nat} {ad t : Nat → Nat} {b L : Nat} {xs : Nat → Int32} (C : LawX X AD ad t b L xs) {Rel : Nat → PS → RS → Prop} {n : Nat} {i : Int32} (hn : n < 512) (hi : i = nI (4 * n)) (hL : 4 * n + 4 ≤ L) {S : PS} {R : RS} (hR : Rel n S R) (K : ∀ (S2 : PS) (R2 : RS), Rel (n + 1) S2 R2 → J X 967 [(3, .int i), (2, .ref (ad 7)), (1, .ref (AD 12 7)), (0, .ref b)] [] (S2, R2)) (ops : Ops Rel) : J X 26 [(3, .int i), (2, .ref (ad 7)), (1, .ref (AD 12 7)), (0, .ref b)] [] (S, R) := by
  obtain ⟨h, hP, hM, hSt, hX, hbl, hbA, hnL, hL2⟩ := id C
  have hb0 : vp_in i L := by rw [hi]; exact vp_in_nI (by omega) (by omega)
  refine j_aload_n h 3 rfl rfl dL_law_26 ?_
  refine j_iload_n h 0 rfl rfl dL_law_27 ?_
  refine j_sld h hX hbl hbA hb0 dL_law_28 ?_
  refine j_bipush h (v := 31) (by decide) dL_law_29 ?_
  refine j_iand h dL_law_31 ?_
  obtain ⟨j, hj, ej⟩ := pk_andE (xs i.toNatClampNeg) (m := 31) 5 (by decide)
  obtain ⟨op0, op_addHouse, op_setHouse, op_removeHouse, op_buy, op_lend, op_remit, op_net, op_set, op_setBattery, op_run, op_type, op_clear, op_fault, op_load, op_undo, op_keep, op_back, op_house, op_loan, op_battery, op_feeder, op_account, op_supply, op_count, op_setting, op_ifRun, op_darkIn, op_tokenFor, op_met, op_digest⟩ := ops
  match j, hj, ej with
  | 0, _, ej => exact j_tableIn h (136) 168 0 (ej.trans (by decide)) (by decide) (by decide) (by decide) (by decide) dL_law_32 (law_addHouse C hn hi hL hR K op_addHouse)
  | 1, _, ej => exact j_tableIn h (169) 201 1 (ej.trans (by decide)) (by decide) (by decide) (by decide) (by decide) dL_law_32 (law_setHouse C hn hi hL hR K op_setHouse)
  | 2, _, ej => exact j_tableIn h (212) 244 2 (ej.trans (by decide)) (by decide) (by decide) (by decide) (by decide) dL_law_32 (law_removeHouse C hn hi hL hR K op_removeHouse)
  | 3, _, ej => exact j_tableIn h (235) 267 3 (ej.trans (by decide)) (by decide) (by decide) (by decide) (by decide) dL_law_32 (law_buy C hn hi hL hR K op_buy)
  | 4, _, ej => exact j_tableIn h (268) 300 4 (ej.trans (by decide)) (by decide) (by decide) (by decide) (by decide) dL_law_32 (law_lend C hn hi hL hR K op_lend)
  | 5, _, ej => exact j_tableIn h (311) 343 5 (ej.trans (by decide)) (by decide) (by decide) (by decide) (by decide) dL_law_32 (law_remit C hn hi hL hR K op_remit)
  | 6, _, ej => exact j_tableIn h (334) 366 6 (ej.trans (by decide)) (by decide) (by decide) (by decide) (by decide) dL_law_32 (law_net C hn hi hL hR K op_net)
  | 7, _, ej => exact j_tableIn h (347) 379 7 (ej.trans (by decide)) (by decide) (by decide) (by decide) (by decide) dL_law_32 (law_set C hn hi hL hR K op_set)
  | 8, _, ej => exact j_tableIn h (380) 412 8 (ej.trans (by decide)) (by decide) (by decide) (by decide) (by decide) dL_law_32 (law_setBattery C hn hi hL hR K op_setBattery)
  | 9, _, ej => exact j_tableIn h (423) 455 9 (ej.trans (by decide)) (by decide) (by decide) (by decide) (by decide) dL_law_32 (law_run C hn hi hL hR K op_run)
  | 10, _, ej => exact j_tableIn h (446) 478 10 (ej.trans (by decide)) (by decide) (by decide) (by decide) (by decide) dL_law_32 (law_type C hn hi hL hR K op_type)
  | 11, _, ej => exact j_tableIn h (469) 501 11 (ej.trans (by decide)) (by decide) (by decide) (by decide) (by decide) dL_law_32 (law_clear C hn hi hL hR K op_clear)
  | 12, _, ej => exact j_tableIn h (482) 514 12 (ej.trans (by decide)) (by decide) (by decide) (by decide) (by decide) dL_law_32 (law_fault C hn hi hL hR K op_fault)
  | 13, _, ej => exact j_tableIn h (495) 527 13 (ej.trans (by decide)) (by decide) (by decide) (by decide) (by decide) dL_law_32 (law_load C hn hi hL hR K op_load)
  | 14, _, ej => exact j_tableIn h (508) 540 14 (ej.trans (by decide)) (by decide) (by decide) (by decide) (by decide) dL_law_32 (law_undo C hn hi hL hR K op_undo)
  | 15, _, ej => exact j_tableIn h (521) 553 15 (ej.trans (by decide)) (by decide) (by decide) (by decide) (by decide) dL_law_32 (law_keep C hn hi hL hR K op_keep)
  | 16, _, ej => exact j_tableIn h (544) 576 16 (ej.trans (by decide)) (by decide) (by decide) (by decide) (by decide) dL_law_32 (law_back C hn hi hL hR K op_back)
  | 17, _, ej => exact j_tableIn h (567) 599 17 (ej.trans (by decide)) (by decide) (by decide) (by decide) (by decide) dL_law_32 (law_house C hn hi hL hR K op_house)
  | 18, _, ej => exact j_tableIn h (600) 632 18 (ej.trans (by decide)) (by decide) (by decide) (by decide) (by decide) dL_law_32 (law_loan C hn hi hL hR K op_loan)
  | 19, _, ej => exact j_tableIn h (633) 665 19 (ej.trans (by decide)) (by decide) (by decide) (by decide) (by decide) dL_law_32 (law_battery C hn hi hL hR K op_battery)
  | 20, _, ej => exact j_tableIn h (666) 698 20 (ej.trans (by decide)) (by decide) (by decide) (by decide) (by decide) dL_law_32 (law_feeder C hn hi hL hR K op_feeder)
  | 21, _, ej => exact j_tableIn h (699) 731 21 (ej.trans (by decide)) (by decide) (by decide) (by decide) (by decide) dL_law_32 (law_account C hn hi hL hR K op_account)
  | 22, _, ej => exact j_tableIn h (722) 754 22 (ej.trans (by decide)) (by decide) (by decide) (by decide) (by decide) dL_law_32 (law_supply C hn hi hL hR K op_supply)
  | 23, _, ej => exact j_tableIn h (745) 777 23 (ej.trans (by decide)) (by decide) (by decide) (by decide) (by decide) dL_law_32 (law_count C hn hi hL hR K op_count)
  | 24, _, ej => exact j_tableIn h (768) 800 24 (ej.trans (by decide)) (by decide) (by decide) (by decide) (by decide) dL_law_32 (law_setting C hn hi hL hR K op_setting)
  | 25, _, ej => exact j_tableIn h (791) 823 25 (ej.trans (by decide)) (by decide) (by decide) (by decide) (by decide) dL_law_32 (law_ifRun C hn hi hL hR K op_ifRun)
  | 26, _, ej => exact j_tableIn h (824) 856 26 (ej.trans (by decide)) (by decide) (by decide) (by decide) (by decide) dL_law_32 (law_darkIn C hn hi hL hR K op_darkIn)
  | 27, _, ej => exact j_tableIn h (847) 879 27 (ej.trans (by decide)) (by decide) (by decide) (by decide) (by decide) dL_law_32 (law_tokenFor C hn hi hL hR K op_tokenFor)
  | 28, _, ej => exact j_tableIn h (880) 912 28 (ej.trans (by decide)) (by decide) (by decide) (by decide) (by decide) dL_law_32 (law_met C hn hi hL hR K op_met)
  | 29, _, ej => exact j_tableIn h (921) 953 29 (ej.trans (by decide)) (by decide) (by decide) (by decide) (by decide) dL_law_32 (law_digest C hn hi hL hR K op_digest)
  | 30, _, ej => exact j_tableOut h 967 (Or.inr (by rw [ej]; decide)) (by decide) dL_law_32 (K S R (op0 n S R hn hR))
  | 31, _, ej => exact j_tableOut h 967 (Or.inr (by rw [ej]; decide)) (by decide) dL_law_32 (K S R (op0 n S R hn hR))
  | j + 32, hj, _ => exact absurd hj (by omega)
set_option maxHeartbeats 4000000 in
set_option maxRecDepth 100000 in
/-- the loop: with n calls done, at its head; the end comes with 1 on the stack -/
theorem law_loop {X : JX (PS × RS)} {AD : Nat → Nat → Nat} {ad t : Nat → Nat} {b L : Nat} {xs : Nat → Int32} (C : LawX X AD ad t b L xs) {Rel : Nat → PS → RS → Prop} (ops : Ops Rel) (hE : ∀ (lv : List (Nat × Value)) (Z : PS × RS), J X 974 lv [.int 1] Z) : ∀ (k n : Nat), 512 ≤ n + k → n ≤ 512 → ∀ (i : Int32) (S : PS) (R : RS), i = nI (4 * n) → Rel n S R → J X 18 [(3, .int i), (2, .ref (ad 7)), (1, .ref (AD 12 7)), (0, .ref b)] [] (S, R) := by
  obtain ⟨h, hP, hM, hSt, hX, hbl, hbA, hnL, hL2⟩ := id C
  intro k
  induction k with
  | zero =>
    intro n h1 h2 i S R hi hR
    refine j_iload_n h 0 rfl rfl dL_law_18 ?_
    refine j_aload_n h 3 rfl rfl dL_law_19 ?_
    refine j_slen h hX hbl hbA dL_law_20 ?_
    refine j_iconst h (v := 4) (by decide) dL_law_21 ?_
    refine j_isub h dL_law_22 ?_
    refine j_icmp_gt (ρ := Bool) (fa := some true) (fb := some false) (res := true) h 973 (by decide) dL_law_23 (by rw [if_pos (law_out hL2 hi (by omega))]) (fun _ => ?_) (fun hF => absurd hF (by decide))
    refine j_iconst h (v := 1) (by decide) dL_law_973 ?_
    exact hE _ _
  | succ k ih =>
    intro n h1 h2 i S R hi hR
    refine j_iload_n h 0 rfl rfl dL_law_18 ?_
    refine j_aload_n h 3 rfl rfl dL_law_19 ?_
    refine j_slen h hX hbl hbA dL_law_20 ?_
    refine j_iconst h (v := 4) (by decide) dL_law_21 ?_
    refine j_isub h dL_law_22 ?_
    by_cases hc : 4 * n + 4 ≤ L
    · refine j_icmp_gt (ρ := Bool) (fa := some true) (fb := some false) (res := false) h 973 (by decide) dL_law_23 (by rw [if_neg (law_in hL2 hi hc)]) (fun hF => absurd hF (by decide)) (fun _ => ?_)
      refine law_step C (by omega) hi hc hR (fun S2 R2 hR2 => ?_) ops
      refine j_iinc h hnL 0 (v := nI (4 * (n + 1))) (y := 4) [(3, .int (nI (4 * (n + 1)))), (2, .ref (ad 7)), (1, .ref (AD 12 7)), (0, .ref b)] rfl (by rw [hi, show (4 : Int32) = nI 4 from rfl, nI_add]; rfl) (by decide) (by decide) rfl dL_law_967 ?_
      refine j_goto h 18 (by decide) dL_law_970 ?_
      exact ih (n + 1) (by omega) (by omega) _ S2 R2 rfl hR2
    · refine j_icmp_gt (ρ := Bool) (fa := some true) (fb := some false) (res := true) h 973 (by decide) dL_law_23 (by rw [if_pos (law_out hL2 hi hc)]) (fun _ => ?_) (fun hF => absurd hF (by decide))
      refine j_iconst h (v := 1) (by decide) dL_law_973 ?_
      exact hE _ _
