set_option maxRecDepth 100000 in
set_option maxHeartbeats 4000000 in
theorem lw_c0 {p : Program} {l : Launch} {e : Env} {s : State} {m : MethodId} {below : List Frame} {meth : Method} {c : Code} {Q : State → Prop} {D : va_G} {cs : Nat → ClassId} {A : Nat → Prop} {b L : Nat} {xs : Nat → Int32} {ad bd : Nat → Nat → Nat} {RR : RT} (hp : P_person RR) (LC0 : LC p s m c b L xs D cs A) (Ma : ST) (Fo : ST) (Sc : ST) (Se : ST) (Tr : ST) (Ch : ST) (Us : ST) (Ta : ST) (Dr : ST) (G0 : ST) (N0 : LT) (G1 : ST) (N1 : LT) (G2 : ST) (N2 : LT) (G3 : ST) (N3 : LT) (Fo2 : ST) (Sc2 : ST) (Se2 : ST) (Tr2 : ST) (Fo3 : ST) (Sc3 : ST) (Se3 : ST) (Tr3 : ST) (M : ST) (N : LT) (hR : RR Ma Fo Sc Se Tr Ch Us Ta Dr G0 N0 G1 N1 G2 N2 G3 N3 Fo2 Sc2 Se2 Tr2 Fo3 Sc3 Se3 Tr3 M N) (y3 : Int32) (i1 : vp_in (y3 + 1) L) (i2 : vp_in (y3 + 2) L) (i3 : vp_in (y3 + 3) L) (i4 : vp_in (y3 + 4) L) (i5 : vp_in (y3 + 5) L) (H : Heap) (locs : List Loc) (ls : Array Slot) (hP : va_P D vwCl ((List.range 31).flatMap (wB cs ad bd Ma Fo Sc Se Tr Ch Us Ta Dr G0 N0 G1 N1 G2 N2 G3 N3 Fo2 Sc2 Se2 Tr2 Fo3 Sc3 Se3 Tr3 M N)) H) (hD : va_D A ((List.range 31).flatMap (wB cs ad bd Ma Fo Sc Se Tr Ch Us Ta Dr G0 N0 G1 N1 G2 N2 G3 N3 Fo2 Sc2 Se2 Tr2 Fo3 Sc3 Se3 Tr3 M N))) (hS : va_S A s.heap H locs) (hl : lv_has ls 4 [(0, .ref b), (1, .ref (ad 0 0)), (2, .ref (bd 0 0)), (3, .int y3)])
    (hk : ∀ (Ma : ST) (Fo : ST) (Sc : ST) (Se : ST) (Tr : ST) (Ch : ST) (Us : ST) (Ta : ST) (Dr : ST) (G0 : ST) (N0 : LT) (G1 : ST) (N1 : LT) (G2 : ST) (N2 : LT) (G3 : ST) (N3 : LT) (Fo2 : ST) (Sc2 : ST) (Se2 : ST) (Tr2 : ST) (Fo3 : ST) (Sc3 : ST) (Se3 : ST) (Tr3 : ST) (M : ST) (N : LT), RR Ma Fo Sc Se Tr Ch Us Ta Dr G0 N0 G1 N1 G2 N2 G3 N3 Fo2 Sc2 Se2 Tr2 Fo3 Sc3 Se3 Tr3 M N → ∀ (H : Heap) (locs : List Loc), va_P D vwCl ((List.range 31).flatMap (wB cs ad bd Ma Fo Sc Se Tr Ch Us Ta Dr G0 N0 G1 N1 G2 N2 G3 N3 Fo2 Sc2 Se2 Tr2 Fo3 Sc3 Se3 Tr3 M N)) H → va_D A ((List.range 31).flatMap (wB cs ad bd Ma Fo Sc Se Tr Ch Us Ta Dr G0 N0 G1 N1 G2 N2 G3 N3 Fo2 Sc2 Se2 Tr2 Fo3 Sc3 Se3 Tr3 M N)) → va_S A s.heap H locs → W p l e room_1 s m #[Value.ref b] below meth c H locs 98 4085 Q (F0 m 1379 ls [])) : W p l e room_1 s m #[Value.ref b] below meth c H locs 98 4085 Q (F0 m 208 ls []) := by
  obtain ⟨hx, hb, hml, hown, hu, hK, hZ, hX, hbl, hbA, hA⟩ := LC0
  obtain ⟨r0, Maz, Foz, Mz, e1, e2, hR1⟩ := hp (xs (Int32.toNatClampNeg (y3 + 1))) (xs (Int32.toNatClampNeg (y3 + 2))) (xs (Int32.toNatClampNeg (y3 + 3))) Ma Fo Sc Se Tr Ch Us Ta Dr G0 N0 G1 N1 G2 N2 G3 N3 Fo2 Sc2 Se2 Tr2 Fo3 Sc3 Se3 Tr3 M N hR
  refine lv_aload_n hx hb dL_law_208 rfl (lv_at hl 1 rfl) ?_
  refine lv_aload_n hx hb dL_law_209 rfl (lv_at hl 0 rfl) ?_
  refine lv_iload_n hx hb dL_law_210 rfl (lv_at hl 3 rfl) ?_
  refine lv_iconst (v := 1) hx hb dL_law_211 (by decide) ?_
  refine lv_iadd hx hb dL_law_212 ?_
  refine va_sld hx hb hX hbl hbA hS i1 dL_law_213 ?_
  refine lv_aload_n hx hb dL_law_214 rfl (lv_at hl 0 rfl) ?_
  refine lv_iload_n hx hb dL_law_215 rfl (lv_at hl 3 rfl) ?_
  refine lv_iconst (v := 2) hx hb dL_law_216 (by decide) ?_
  refine lv_iadd hx hb dL_law_217 ?_
  refine va_sld hx hb hX hbl hbA hS i2 dL_law_218 ?_
  refine lv_aload_n hx hb dL_law_219 rfl (lv_at hl 0 rfl) ?_
  refine lv_iload_n hx hb dL_law_220 rfl (lv_at hl 3 rfl) ?_
  refine lv_iconst (v := 3) hx hb dL_law_221 (by decide) ?_
  refine lv_iadd hx hb dL_law_222 ?_
  refine va_sld hx hb hX hbl hbA hS i3 dL_law_223 ?_
  refine cl_VB (B' := (wB cs ad bd Maz Foz Sc Se Tr Ch Us Ta Dr G0 N0 G1 N1 G2 N2 G3 N3 Fo2 Sc2 Se2 Tr2 Fo3 Sc3 Se3 Tr3 M N)) (st1 := [.int r0]) [.int (xs (Int32.toNatClampNeg (y3 + 1))), .int (xs (Int32.toNatClampNeg (y3 + 2))), .int (xs (Int32.toNatClampNeg (y3 + 3)))] hx hb hml hown hu (tX7_person l D cs (ad 0) (ad 1) (ad 19) (ad 24) (ad 6) (ad 8) (ad 10) (ad 2) (ad 3) (ad 5) (ad 4) (xs (Int32.toNatClampNeg (y3 + 1))) (xs (Int32.toNatClampNeg (y3 + 2))) (xs (Int32.toNatClampNeg (y3 + 3))) Ma Fo r0 Maz Foz e1) q328 q54 q325 q326 q327 pdX7_person ⟨Nat.le_of_ble_eq_true rfl, Nat.le_of_ble_eq_true rfl⟩ ⟨rfl, rfl, Nat.le_of_ble_eq_true rfl, Nat.le_of_ble_eq_true rfl⟩ (List.range 31) [0, 1, 2] [3, 4, 5, 6, 7, 8, 9, 10, 11, 12, 13, 14, 15, 16, 17, 18, 19, 20, 21, 22, 23, 24, 25, 26, 27, 28, 29, 30] hK hZ hP hD hS hA (by decide) rfl rfl rfl rfl rfl rfl hl.1 rfl (Nat.le_of_ble_eq_true rfl) dL_law_224 rfl (fun H locs hP hD hS => ?_)
  refine lv_aload_n hx hb dL_law_227 rfl (lv_at hl 2 rfl) ?_
  refine lv_aload_n hx hb dL_law_228 rfl (lv_at hl 0 rfl) ?_
  refine lv_iload_n hx hb dL_law_229 rfl (lv_at hl 3 rfl) ?_
  refine lv_iconst (v := 1) hx hb dL_law_230 (by decide) ?_
  refine lv_iadd hx hb dL_law_231 ?_
  refine va_sld hx hb hX hbl hbA hS i1 dL_law_232 ?_
  refine lv_aload_n hx hb dL_law_233 rfl (lv_at hl 0 rfl) ?_
  refine lv_iload_n hx hb dL_law_234 rfl (lv_at hl 3 rfl) ?_
  refine lv_iconst (v := 2) hx hb dL_law_235 (by decide) ?_
  refine lv_iadd hx hb dL_law_236 ?_
  refine va_sld hx hb hX hbl hbA hS i2 dL_law_237 ?_
  refine lv_aload_n hx hb dL_law_238 rfl (lv_at hl 0 rfl) ?_
  refine lv_iload_n hx hb dL_law_239 rfl (lv_at hl 3 rfl) ?_
  refine lv_iconst (v := 3) hx hb dL_law_240 (by decide) ?_
  refine lv_iadd hx hb dL_law_241 ?_
  refine va_sld hx hb hX hbl hbA hS i3 dL_law_242 ?_
  refine cl_VB (B' := (wB cs ad bd Maz Foz Sc Se Tr Ch Us Ta Dr G0 N0 G1 N1 G2 N2 G3 N3 Fo2 Sc2 Se2 Tr2 Fo3 Sc3 Se3 Tr3 Mz N)) (st1 := [.int r0, .int r0]) [.int (xs (Int32.toNatClampNeg (y3 + 1))), .int (xs (Int32.toNatClampNeg (y3 + 2))), .int (xs (Int32.toNatClampNeg (y3 + 3)))] hx hb hml hown hu (tX8_person l D cs (bd 0) (bd 1) (xs (Int32.toNatClampNeg (y3 + 1))) (xs (Int32.toNatClampNeg (y3 + 2))) (xs (Int32.toNatClampNeg (y3 + 3))) M r0 Mz e2) q1000 q62 q997 q998 q999 pdX8_person ⟨Nat.le_of_ble_eq_true rfl, Nat.le_of_ble_eq_true rfl⟩ ⟨rfl, rfl, Nat.le_of_ble_eq_true rfl, Nat.le_of_ble_eq_true rfl⟩ (List.range 31) [29] [0, 1, 2, 3, 4, 5, 6, 7, 8, 9, 10, 11, 12, 13, 14, 15, 16, 17, 18, 19, 20, 21, 22, 23, 24, 25, 26, 27, 28, 30] hK hZ hP hD hS hA (by decide) rfl rfl rfl rfl rfl rfl hl.1 rfl (Nat.le_of_ble_eq_true rfl) dL_law_243 rfl (fun H locs hP hD hS => ?_)
  refine lv_icmp_eq (tgt := 1379) hx hb dL_law_246 (by decide) (fun _ => ?_) (fun hc => absurd rfl hc)
  exact hk Maz Foz Sc Se Tr Ch Us Ta Dr G0 N0 G1 N1 G2 N2 G3 N3 Fo2 Sc2 Se2 Tr2 Fo3 Sc3 Se3 Tr3 Mz N hR1 _ _ hP hD hS

set_option maxRecDepth 100000 in
set_option maxHeartbeats 4000000 in
theorem lw_c1 {p : Program} {l : Launch} {e : Env} {s : State} {m : MethodId} {below : List Frame} {meth : Method} {c : Code} {Q : State → Prop} {D : va_G} {cs : Nat → ClassId} {A : Nat → Prop} {b L : Nat} {xs : Nat → Int32} {ad bd : Nat → Nat → Nat} {RR : RT} (hp : P_of RR) (LC0 : LC p s m c b L xs D cs A) (Ma : ST) (Fo : ST) (Sc : ST) (Se : ST) (Tr : ST) (Ch : ST) (Us : ST) (Ta : ST) (Dr : ST) (G0 : ST) (N0 : LT) (G1 : ST) (N1 : LT) (G2 : ST) (N2 : LT) (G3 : ST) (N3 : LT) (Fo2 : ST) (Sc2 : ST) (Se2 : ST) (Tr2 : ST) (Fo3 : ST) (Sc3 : ST) (Se3 : ST) (Tr3 : ST) (M : ST) (N : LT) (hR : RR Ma Fo Sc Se Tr Ch Us Ta Dr G0 N0 G1 N1 G2 N2 G3 N3 Fo2 Sc2 Se2 Tr2 Fo3 Sc3 Se3 Tr3 M N) (y3 : Int32) (i1 : vp_in (y3 + 1) L) (i2 : vp_in (y3 + 2) L) (i3 : vp_in (y3 + 3) L) (i4 : vp_in (y3 + 4) L) (i5 : vp_in (y3 + 5) L) (H : Heap) (locs : List Loc) (ls : Array Slot) (hP : va_P D vwCl ((List.range 31).flatMap (wB cs ad bd Ma Fo Sc Se Tr Ch Us Ta Dr G0 N0 G1 N1 G2 N2 G3 N3 Fo2 Sc2 Se2 Tr2 Fo3 Sc3 Se3 Tr3 M N)) H) (hD : va_D A ((List.range 31).flatMap (wB cs ad bd Ma Fo Sc Se Tr Ch Us Ta Dr G0 N0 G1 N1 G2 N2 G3 N3 Fo2 Sc2 Se2 Tr2 Fo3 Sc3 Se3 Tr3 M N))) (hS : va_S A s.heap H locs) (hl : lv_has ls 4 [(0, .ref b), (1, .ref (ad 0 0)), (2, .ref (bd 0 0)), (3, .int y3)])
    (hk : ∀ (Ma : ST) (Fo : ST) (Sc : ST) (Se : ST) (Tr : ST) (Ch : ST) (Us : ST) (Ta : ST) (Dr : ST) (G0 : ST) (N0 : LT) (G1 : ST) (N1 : LT) (G2 : ST) (N2 : LT) (G3 : ST) (N3 : LT) (Fo2 : ST) (Sc2 : ST) (Se2 : ST) (Tr2 : ST) (Fo3 : ST) (Sc3 : ST) (Se3 : ST) (Tr3 : ST) (M : ST) (N : LT), RR Ma Fo Sc Se Tr Ch Us Ta Dr G0 N0 G1 N1 G2 N2 G3 N3 Fo2 Sc2 Se2 Tr2 Fo3 Sc3 Se3 Tr3 M N → ∀ (H : Heap) (locs : List Loc), va_P D vwCl ((List.range 31).flatMap (wB cs ad bd Ma Fo Sc Se Tr Ch Us Ta Dr G0 N0 G1 N1 G2 N2 G3 N3 Fo2 Sc2 Se2 Tr2 Fo3 Sc3 Se3 Tr3 M N)) H → va_D A ((List.range 31).flatMap (wB cs ad bd Ma Fo Sc Se Tr Ch Us Ta Dr G0 N0 G1 N1 G2 N2 G3 N3 Fo2 Sc2 Se2 Tr2 Fo3 Sc3 Se3 Tr3 M N)) → va_S A s.heap H locs → W p l e room_1 s m #[Value.ref b] below meth c H locs 98 4085 Q (F0 m 1379 ls [])) : W p l e room_1 s m #[Value.ref b] below meth c H locs 98 4085 Q (F0 m 251 ls []) := by
  obtain ⟨hx, hb, hml, hown, hu, hK, hZ, hX, hbl, hbA, hA⟩ := LC0
  obtain ⟨r0, Maz, Scz, Trz, Mz, e1, e2, hR1⟩ := hp (xs (Int32.toNatClampNeg (y3 + 1))) (xs (Int32.toNatClampNeg (y3 + 2))) Ma Fo Sc Se Tr Ch Us Ta Dr G0 N0 G1 N1 G2 N2 G3 N3 Fo2 Sc2 Se2 Tr2 Fo3 Sc3 Se3 Tr3 M N hR
  refine lv_aload_n hx hb dL_law_251 rfl (lv_at hl 1 rfl) ?_
  refine lv_aload_n hx hb dL_law_252 rfl (lv_at hl 0 rfl) ?_
  refine lv_iload_n hx hb dL_law_253 rfl (lv_at hl 3 rfl) ?_
  refine lv_iconst (v := 1) hx hb dL_law_254 (by decide) ?_
  refine lv_iadd hx hb dL_law_255 ?_
  refine va_sld hx hb hX hbl hbA hS i1 dL_law_256 ?_
  refine lv_aload_n hx hb dL_law_257 rfl (lv_at hl 0 rfl) ?_
  refine lv_iload_n hx hb dL_law_258 rfl (lv_at hl 3 rfl) ?_
  refine lv_iconst (v := 2) hx hb dL_law_259 (by decide) ?_
  refine lv_iadd hx hb dL_law_260 ?_
  refine va_sld hx hb hX hbl hbA hS i2 dL_law_261 ?_
  refine cl_VB (B' := (wB cs ad bd Maz Fo Scz Se Trz Ch Us Ta Dr G0 N0 G1 N1 G2 N2 G3 N3 Fo2 Sc2 Se2 Tr2 Fo3 Sc3 Se3 Tr3 M N)) (st1 := [.int r0]) [.int (xs (Int32.toNatClampNeg (y3 + 1))), .int (xs (Int32.toNatClampNeg (y3 + 2)))] hx hb hml hown hu (tX7_of l D cs (ad 0) (ad 1) (ad 19) (ad 24) (ad 6) (ad 8) (ad 10) (ad 2) (ad 3) (ad 5) (ad 4) (xs (Int32.toNatClampNeg (y3 + 1))) (xs (Int32.toNatClampNeg (y3 + 2))) Ma Fo Sc Se Tr r0 Maz Scz Trz e1) q348 q54 q345 q346 q347 pdX7_of ⟨Nat.le_of_ble_eq_true rfl, Nat.le_of_ble_eq_true rfl⟩ ⟨rfl, rfl, Nat.le_of_ble_eq_true rfl, Nat.le_of_ble_eq_true rfl⟩ (List.range 31) [0, 1, 2, 3, 4, 5] [6, 7, 8, 9, 10, 11, 12, 13, 14, 15, 16, 17, 18, 19, 20, 21, 22, 23, 24, 25, 26, 27, 28, 29, 30] hK hZ hP hD hS hA (by decide) rfl rfl rfl rfl rfl rfl hl.1 rfl (Nat.le_of_ble_eq_true rfl) dL_law_262 rfl (fun H locs hP hD hS => ?_)
  refine lv_aload_n hx hb dL_law_265 rfl (lv_at hl 2 rfl) ?_
  refine lv_aload_n hx hb dL_law_266 rfl (lv_at hl 0 rfl) ?_
  refine lv_iload_n hx hb dL_law_267 rfl (lv_at hl 3 rfl) ?_
  refine lv_iconst (v := 1) hx hb dL_law_268 (by decide) ?_
  refine lv_iadd hx hb dL_law_269 ?_
  refine va_sld hx hb hX hbl hbA hS i1 dL_law_270 ?_
  refine lv_aload_n hx hb dL_law_271 rfl (lv_at hl 0 rfl) ?_
  refine lv_iload_n hx hb dL_law_272 rfl (lv_at hl 3 rfl) ?_
  refine lv_iconst (v := 2) hx hb dL_law_273 (by decide) ?_
  refine lv_iadd hx hb dL_law_274 ?_
  refine va_sld hx hb hX hbl hbA hS i2 dL_law_275 ?_
  refine cl_VB (B' := (wB cs ad bd Maz Fo Scz Se Trz Ch Us Ta Dr G0 N0 G1 N1 G2 N2 G3 N3 Fo2 Sc2 Se2 Tr2 Fo3 Sc3 Se3 Tr3 Mz N)) (st1 := [.int r0, .int r0]) [.int (xs (Int32.toNatClampNeg (y3 + 1))), .int (xs (Int32.toNatClampNeg (y3 + 2)))] hx hb hml hown hu (tX8_of l D cs (bd 0) (bd 1) (xs (Int32.toNatClampNeg (y3 + 1))) (xs (Int32.toNatClampNeg (y3 + 2))) M r0 Mz e2) q1017 q62 q1014 q1015 q1016 pdX8_of ⟨Nat.le_of_ble_eq_true rfl, Nat.le_of_ble_eq_true rfl⟩ ⟨rfl, rfl, Nat.le_of_ble_eq_true rfl, Nat.le_of_ble_eq_true rfl⟩ (List.range 31) [29] [0, 1, 2, 3, 4, 5, 6, 7, 8, 9, 10, 11, 12, 13, 14, 15, 16, 17, 18, 19, 20, 21, 22, 23, 24, 25, 26, 27, 28, 30] hK hZ hP hD hS hA (by decide) rfl rfl rfl rfl rfl rfl hl.1 rfl (Nat.le_of_ble_eq_true rfl) dL_law_276 rfl (fun H locs hP hD hS => ?_)
  refine lv_icmp_eq (tgt := 1379) hx hb dL_law_279 (by decide) (fun _ => ?_) (fun hc => absurd rfl hc)
  exact hk Maz Fo Scz Se Trz Ch Us Ta Dr G0 N0 G1 N1 G2 N2 G3 N3 Fo2 Sc2 Se2 Tr2 Fo3 Sc3 Se3 Tr3 Mz N hR1 _ _ hP hD hS

set_option maxRecDepth 100000 in
set_option maxHeartbeats 4000000 in
theorem lw_c2 {p : Program} {l : Launch} {e : Env} {s : State} {m : MethodId} {below : List Frame} {meth : Method} {c : Code} {Q : State → Prop} {D : va_G} {cs : Nat → ClassId} {A : Nat → Prop} {b L : Nat} {xs : Nat → Int32} {ad bd : Nat → Nat → Nat} {RR : RT} (hp : P_set RR) (LC0 : LC p s m c b L xs D cs A) (Ma : ST) (Fo : ST) (Sc : ST) (Se : ST) (Tr : ST) (Ch : ST) (Us : ST) (Ta : ST) (Dr : ST) (G0 : ST) (N0 : LT) (G1 : ST) (N1 : LT) (G2 : ST) (N2 : LT) (G3 : ST) (N3 : LT) (Fo2 : ST) (Sc2 : ST) (Se2 : ST) (Tr2 : ST) (Fo3 : ST) (Sc3 : ST) (Se3 : ST) (Tr3 : ST) (M : ST) (N : LT) (hR : RR Ma Fo Sc Se Tr Ch Us Ta Dr G0 N0 G1 N1 G2 N2 G3 N3 Fo2 Sc2 Se2 Tr2 Fo3 Sc3 Se3 Tr3 M N) (y3 : Int32) (i1 : vp_in (y3 + 1) L) (i2 : vp_in (y3 + 2) L) (i3 : vp_in (y3 + 3) L) (i4 : vp_in (y3 + 4) L) (i5 : vp_in (y3 + 5) L) (H : Heap) (locs : List Loc) (ls : Array Slot) (hP : va_P D vwCl ((List.range 31).flatMap (wB cs ad bd Ma Fo Sc Se Tr Ch Us Ta Dr G0 N0 G1 N1 G2 N2 G3 N3 Fo2 Sc2 Se2 Tr2 Fo3 Sc3 Se3 Tr3 M N)) H) (hD : va_D A ((List.range 31).flatMap (wB cs ad bd Ma Fo Sc Se Tr Ch Us Ta Dr G0 N0 G1 N1 G2 N2 G3 N3 Fo2 Sc2 Se2 Tr2 Fo3 Sc3 Se3 Tr3 M N))) (hS : va_S A s.heap H locs) (hl : lv_has ls 4 [(0, .ref b), (1, .ref (ad 0 0)), (2, .ref (bd 0 0)), (3, .int y3)])
    (hk : ∀ (Ma : ST) (Fo : ST) (Sc : ST) (Se : ST) (Tr : ST) (Ch : ST) (Us : ST) (Ta : ST) (Dr : ST) (G0 : ST) (N0 : LT) (G1 : ST) (N1 : LT) (G2 : ST) (N2 : LT) (G3 : ST) (N3 : LT) (Fo2 : ST) (Sc2 : ST) (Se2 : ST) (Tr2 : ST) (Fo3 : ST) (Sc3 : ST) (Se3 : ST) (Tr3 : ST) (M : ST) (N : LT), RR Ma Fo Sc Se Tr Ch Us Ta Dr G0 N0 G1 N1 G2 N2 G3 N3 Fo2 Sc2 Se2 Tr2 Fo3 Sc3 Se3 Tr3 M N → ∀ (H : Heap) (locs : List Loc), va_P D vwCl ((List.range 31).flatMap (wB cs ad bd Ma Fo Sc Se Tr Ch Us Ta Dr G0 N0 G1 N1 G2 N2 G3 N3 Fo2 Sc2 Se2 Tr2 Fo3 Sc3 Se3 Tr3 M N)) H → va_D A ((List.range 31).flatMap (wB cs ad bd Ma Fo Sc Se Tr Ch Us Ta Dr G0 N0 G1 N1 G2 N2 G3 N3 Fo2 Sc2 Se2 Tr2 Fo3 Sc3 Se3 Tr3 M N)) → va_S A s.heap H locs → W p l e room_1 s m #[Value.ref b] below meth c H locs 98 4085 Q (F0 m 1379 ls [])) : W p l e room_1 s m #[Value.ref b] below meth c H locs 98 4085 Q (F0 m 284 ls []) := by
  obtain ⟨hx, hb, hml, hown, hu, hK, hZ, hX, hbl, hbA, hA⟩ := LC0
  obtain ⟨r0, Maz, Foz, Mz, e1, e2, hR1⟩ := hp (xs (Int32.toNatClampNeg (y3 + 1))) (xs (Int32.toNatClampNeg (y3 + 2))) (xs (Int32.toNatClampNeg (y3 + 3))) Ma Fo Sc Se Tr Ch Us Ta Dr G0 N0 G1 N1 G2 N2 G3 N3 Fo2 Sc2 Se2 Tr2 Fo3 Sc3 Se3 Tr3 M N hR
  refine lv_aload_n hx hb dL_law_284 rfl (lv_at hl 1 rfl) ?_
  refine lv_aload_n hx hb dL_law_285 rfl (lv_at hl 0 rfl) ?_
  refine lv_iload_n hx hb dL_law_286 rfl (lv_at hl 3 rfl) ?_
  refine lv_iconst (v := 1) hx hb dL_law_287 (by decide) ?_
  refine lv_iadd hx hb dL_law_288 ?_
  refine va_sld hx hb hX hbl hbA hS i1 dL_law_289 ?_
  refine lv_aload_n hx hb dL_law_290 rfl (lv_at hl 0 rfl) ?_
  refine lv_iload_n hx hb dL_law_291 rfl (lv_at hl 3 rfl) ?_
  refine lv_iconst (v := 2) hx hb dL_law_292 (by decide) ?_
  refine lv_iadd hx hb dL_law_293 ?_
  refine va_sld hx hb hX hbl hbA hS i2 dL_law_294 ?_
  refine lv_aload_n hx hb dL_law_295 rfl (lv_at hl 0 rfl) ?_
  refine lv_iload_n hx hb dL_law_296 rfl (lv_at hl 3 rfl) ?_
  refine lv_iconst (v := 3) hx hb dL_law_297 (by decide) ?_
  refine lv_iadd hx hb dL_law_298 ?_
  refine va_sld hx hb hX hbl hbA hS i3 dL_law_299 ?_
  refine cl_VB (B' := (wB cs ad bd Maz Foz Sc Se Tr Ch Us Ta Dr G0 N0 G1 N1 G2 N2 G3 N3 Fo2 Sc2 Se2 Tr2 Fo3 Sc3 Se3 Tr3 M N)) (st1 := [.int r0]) [.int (xs (Int32.toNatClampNeg (y3 + 1))), .int (xs (Int32.toNatClampNeg (y3 + 2))), .int (xs (Int32.toNatClampNeg (y3 + 3)))] hx hb hml hown hu (tX7_set l D cs (ad 0) (ad 1) (ad 19) (ad 24) (ad 6) (ad 8) (ad 10) (ad 2) (ad 3) (ad 5) (ad 4) (xs (Int32.toNatClampNeg (y3 + 1))) (xs (Int32.toNatClampNeg (y3 + 2))) (xs (Int32.toNatClampNeg (y3 + 3))) Ma Fo r0 Maz Foz e1) q452 q54 q449 q450 q451 pdX7_set ⟨Nat.le_of_ble_eq_true rfl, Nat.le_of_ble_eq_true rfl⟩ ⟨rfl, rfl, Nat.le_of_ble_eq_true rfl, Nat.le_of_ble_eq_true rfl⟩ (List.range 31) [0, 1, 2] [3, 4, 5, 6, 7, 8, 9, 10, 11, 12, 13, 14, 15, 16, 17, 18, 19, 20, 21, 22, 23, 24, 25, 26, 27, 28, 29, 30] hK hZ hP hD hS hA (by decide) rfl rfl rfl rfl rfl rfl hl.1 rfl (Nat.le_of_ble_eq_true rfl) dL_law_300 rfl (fun H locs hP hD hS => ?_)
  refine lv_aload_n hx hb dL_law_303 rfl (lv_at hl 2 rfl) ?_
  refine lv_aload_n hx hb dL_law_304 rfl (lv_at hl 0 rfl) ?_
  refine lv_iload_n hx hb dL_law_305 rfl (lv_at hl 3 rfl) ?_
  refine lv_iconst (v := 1) hx hb dL_law_306 (by decide) ?_
  refine lv_iadd hx hb dL_law_307 ?_
  refine va_sld hx hb hX hbl hbA hS i1 dL_law_308 ?_
  refine lv_aload_n hx hb dL_law_309 rfl (lv_at hl 0 rfl) ?_
  refine lv_iload_n hx hb dL_law_310 rfl (lv_at hl 3 rfl) ?_
  refine lv_iconst (v := 2) hx hb dL_law_311 (by decide) ?_
  refine lv_iadd hx hb dL_law_312 ?_
  refine va_sld hx hb hX hbl hbA hS i2 dL_law_313 ?_
  refine lv_aload_n hx hb dL_law_314 rfl (lv_at hl 0 rfl) ?_
  refine lv_iload_n hx hb dL_law_315 rfl (lv_at hl 3 rfl) ?_
  refine lv_iconst (v := 3) hx hb dL_law_316 (by decide) ?_
  refine lv_iadd hx hb dL_law_317 ?_
  refine va_sld hx hb hX hbl hbA hS i3 dL_law_318 ?_
  refine cl_VB (B' := (wB cs ad bd Maz Foz Sc Se Tr Ch Us Ta Dr G0 N0 G1 N1 G2 N2 G3 N3 Fo2 Sc2 Se2 Tr2 Fo3 Sc3 Se3 Tr3 Mz N)) (st1 := [.int r0, .int r0]) [.int (xs (Int32.toNatClampNeg (y3 + 1))), .int (xs (Int32.toNatClampNeg (y3 + 2))), .int (xs (Int32.toNatClampNeg (y3 + 3)))] hx hb hml hown hu (tX8_set l D cs (bd 0) (bd 1) (xs (Int32.toNatClampNeg (y3 + 1))) (xs (Int32.toNatClampNeg (y3 + 2))) (xs (Int32.toNatClampNeg (y3 + 3))) M r0 Mz e2) q1085 q62 q1082 q1083 q1084 pdX8_set ⟨Nat.le_of_ble_eq_true rfl, Nat.le_of_ble_eq_true rfl⟩ ⟨rfl, rfl, Nat.le_of_ble_eq_true rfl, Nat.le_of_ble_eq_true rfl⟩ (List.range 31) [29] [0, 1, 2, 3, 4, 5, 6, 7, 8, 9, 10, 11, 12, 13, 14, 15, 16, 17, 18, 19, 20, 21, 22, 23, 24, 25, 26, 27, 28, 30] hK hZ hP hD hS hA (by decide) rfl rfl rfl rfl rfl rfl hl.1 rfl (Nat.le_of_ble_eq_true rfl) dL_law_319 rfl (fun H locs hP hD hS => ?_)
  refine lv_icmp_eq (tgt := 1379) hx hb dL_law_322 (by decide) (fun _ => ?_) (fun hc => absurd rfl hc)
  exact hk Maz Foz Sc Se Tr Ch Us Ta Dr G0 N0 G1 N1 G2 N2 G3 N3 Fo2 Sc2 Se2 Tr2 Fo3 Sc3 Se3 Tr3 Mz N hR1 _ _ hP hD hS

set_option maxRecDepth 100000 in
set_option maxHeartbeats 4000000 in
theorem lw_c3 {p : Program} {l : Launch} {e : Env} {s : State} {m : MethodId} {below : List Frame} {meth : Method} {c : Code} {Q : State → Prop} {D : va_G} {cs : Nat → ClassId} {A : Nat → Prop} {b L : Nat} {xs : Nat → Int32} {ad bd : Nat → Nat → Nat} {RR : RT} (hp : P_as RR) (LC0 : LC p s m c b L xs D cs A) (Ma : ST) (Fo : ST) (Sc : ST) (Se : ST) (Tr : ST) (Ch : ST) (Us : ST) (Ta : ST) (Dr : ST) (G0 : ST) (N0 : LT) (G1 : ST) (N1 : LT) (G2 : ST) (N2 : LT) (G3 : ST) (N3 : LT) (Fo2 : ST) (Sc2 : ST) (Se2 : ST) (Tr2 : ST) (Fo3 : ST) (Sc3 : ST) (Se3 : ST) (Tr3 : ST) (M : ST) (N : LT) (hR : RR Ma Fo Sc Se Tr Ch Us Ta Dr G0 N0 G1 N1 G2 N2 G3 N3 Fo2 Sc2 Se2 Tr2 Fo3 Sc3 Se3 Tr3 M N) (y3 : Int32) (i1 : vp_in (y3 + 1) L) (i2 : vp_in (y3 + 2) L) (i3 : vp_in (y3 + 3) L) (i4 : vp_in (y3 + 4) L) (i5 : vp_in (y3 + 5) L) (H : Heap) (locs : List Loc) (ls : Array Slot) (hP : va_P D vwCl ((List.range 31).flatMap (wB cs ad bd Ma Fo Sc Se Tr Ch Us Ta Dr G0 N0 G1 N1 G2 N2 G3 N3 Fo2 Sc2 Se2 Tr2 Fo3 Sc3 Se3 Tr3 M N)) H) (hD : va_D A ((List.range 31).flatMap (wB cs ad bd Ma Fo Sc Se Tr Ch Us Ta Dr G0 N0 G1 N1 G2 N2 G3 N3 Fo2 Sc2 Se2 Tr2 Fo3 Sc3 Se3 Tr3 M N))) (hS : va_S A s.heap H locs) (hl : lv_has ls 4 [(0, .ref b), (1, .ref (ad 0 0)), (2, .ref (bd 0 0)), (3, .int y3)])
    (hk : ∀ (Ma : ST) (Fo : ST) (Sc : ST) (Se : ST) (Tr : ST) (Ch : ST) (Us : ST) (Ta : ST) (Dr : ST) (G0 : ST) (N0 : LT) (G1 : ST) (N1 : LT) (G2 : ST) (N2 : LT) (G3 : ST) (N3 : LT) (Fo2 : ST) (Sc2 : ST) (Se2 : ST) (Tr2 : ST) (Fo3 : ST) (Sc3 : ST) (Se3 : ST) (Tr3 : ST) (M : ST) (N : LT), RR Ma Fo Sc Se Tr Ch Us Ta Dr G0 N0 G1 N1 G2 N2 G3 N3 Fo2 Sc2 Se2 Tr2 Fo3 Sc3 Se3 Tr3 M N → ∀ (H : Heap) (locs : List Loc), va_P D vwCl ((List.range 31).flatMap (wB cs ad bd Ma Fo Sc Se Tr Ch Us Ta Dr G0 N0 G1 N1 G2 N2 G3 N3 Fo2 Sc2 Se2 Tr2 Fo3 Sc3 Se3 Tr3 M N)) H → va_D A ((List.range 31).flatMap (wB cs ad bd Ma Fo Sc Se Tr Ch Us Ta Dr G0 N0 G1 N1 G2 N2 G3 N3 Fo2 Sc2 Se2 Tr2 Fo3 Sc3 Se3 Tr3 M N)) → va_S A s.heap H locs → W p l e room_1 s m #[Value.ref b] below meth c H locs 98 4085 Q (F0 m 1379 ls [])) : W p l e room_1 s m #[Value.ref b] below meth c H locs 98 4085 Q (F0 m 327 ls []) := by
  obtain ⟨hx, hb, hml, hown, hu, hK, hZ, hX, hbl, hbA, hA⟩ := LC0
  obtain ⟨r0, Maz, Mz, e1, e2, hR1⟩ := hp (xs (Int32.toNatClampNeg (y3 + 1))) (xs (Int32.toNatClampNeg (y3 + 2))) Ma Fo Sc Se Tr Ch Us Ta Dr G0 N0 G1 N1 G2 N2 G3 N3 Fo2 Sc2 Se2 Tr2 Fo3 Sc3 Se3 Tr3 M N hR
  refine lv_aload_n hx hb dL_law_327 rfl (lv_at hl 1 rfl) ?_
  refine lv_aload_n hx hb dL_law_328 rfl (lv_at hl 0 rfl) ?_
  refine lv_iload_n hx hb dL_law_329 rfl (lv_at hl 3 rfl) ?_
  refine lv_iconst (v := 1) hx hb dL_law_330 (by decide) ?_
  refine lv_iadd hx hb dL_law_331 ?_
  refine va_sld hx hb hX hbl hbA hS i1 dL_law_332 ?_
  refine lv_aload_n hx hb dL_law_333 rfl (lv_at hl 0 rfl) ?_
  refine lv_iload_n hx hb dL_law_334 rfl (lv_at hl 3 rfl) ?_
  refine lv_iconst (v := 2) hx hb dL_law_335 (by decide) ?_
  refine lv_iadd hx hb dL_law_336 ?_
  refine va_sld hx hb hX hbl hbA hS i2 dL_law_337 ?_
  refine cl_VB (B' := (wB cs ad bd Maz Fo Sc Se Tr Ch Us Ta Dr G0 N0 G1 N1 G2 N2 G3 N3 Fo2 Sc2 Se2 Tr2 Fo3 Sc3 Se3 Tr3 M N)) (st1 := [.int r0]) [.int (xs (Int32.toNatClampNeg (y3 + 1))), .int (xs (Int32.toNatClampNeg (y3 + 2)))] hx hb hml hown hu (tX7_as l D cs (ad 0) (ad 1) (ad 19) (ad 24) (ad 6) (ad 8) (ad 10) (ad 2) (ad 3) (ad 5) (ad 4) (xs (Int32.toNatClampNeg (y3 + 1))) (xs (Int32.toNatClampNeg (y3 + 2))) Ma Fo Se r0 Maz e1) q459 q54 q456 q457 q458 pdX7_as ⟨Nat.le_of_ble_eq_true rfl, Nat.le_of_ble_eq_true rfl⟩ ⟨rfl, rfl, Nat.le_of_ble_eq_true rfl, Nat.le_of_ble_eq_true rfl⟩ (List.range 31) [0, 1, 2, 4] [3, 5, 6, 7, 8, 9, 10, 11, 12, 13, 14, 15, 16, 17, 18, 19, 20, 21, 22, 23, 24, 25, 26, 27, 28, 29, 30] hK hZ hP hD hS hA (by decide) rfl rfl rfl rfl rfl rfl hl.1 rfl (Nat.le_of_ble_eq_true rfl) dL_law_338 rfl (fun H locs hP hD hS => ?_)
  refine lv_aload_n hx hb dL_law_341 rfl (lv_at hl 2 rfl) ?_
  refine lv_aload_n hx hb dL_law_342 rfl (lv_at hl 0 rfl) ?_
  refine lv_iload_n hx hb dL_law_343 rfl (lv_at hl 3 rfl) ?_
  refine lv_iconst (v := 1) hx hb dL_law_344 (by decide) ?_
  refine lv_iadd hx hb dL_law_345 ?_
  refine va_sld hx hb hX hbl hbA hS i1 dL_law_346 ?_
  refine lv_aload_n hx hb dL_law_347 rfl (lv_at hl 0 rfl) ?_
  refine lv_iload_n hx hb dL_law_348 rfl (lv_at hl 3 rfl) ?_
  refine lv_iconst (v := 2) hx hb dL_law_349 (by decide) ?_
  refine lv_iadd hx hb dL_law_350 ?_
  refine va_sld hx hb hX hbl hbA hS i2 dL_law_351 ?_
  refine cl_VB (B' := (wB cs ad bd Maz Fo Sc Se Tr Ch Us Ta Dr G0 N0 G1 N1 G2 N2 G3 N3 Fo2 Sc2 Se2 Tr2 Fo3 Sc3 Se3 Tr3 Mz N)) (st1 := [.int r0, .int r0]) [.int (xs (Int32.toNatClampNeg (y3 + 1))), .int (xs (Int32.toNatClampNeg (y3 + 2)))] hx hb hml hown hu (tX8_as l D cs (bd 0) (bd 1) (xs (Int32.toNatClampNeg (y3 + 1))) (xs (Int32.toNatClampNeg (y3 + 2))) M r0 Mz e2) q1097 q62 q1094 q1095 q1096 pdX8_as ⟨Nat.le_of_ble_eq_true rfl, Nat.le_of_ble_eq_true rfl⟩ ⟨rfl, rfl, Nat.le_of_ble_eq_true rfl, Nat.le_of_ble_eq_true rfl⟩ (List.range 31) [29] [0, 1, 2, 3, 4, 5, 6, 7, 8, 9, 10, 11, 12, 13, 14, 15, 16, 17, 18, 19, 20, 21, 22, 23, 24, 25, 26, 27, 28, 30] hK hZ hP hD hS hA (by decide) rfl rfl rfl rfl rfl rfl hl.1 rfl (Nat.le_of_ble_eq_true rfl) dL_law_352 rfl (fun H locs hP hD hS => ?_)
  refine lv_icmp_eq (tgt := 1379) hx hb dL_law_355 (by decide) (fun _ => ?_) (fun hc => absurd rfl hc)
  exact hk Maz Fo Sc Se Tr Ch Us Ta Dr G0 N0 G1 N1 G2 N2 G3 N3 Fo2 Sc2 Se2 Tr2 Fo3 Sc3 Se3 Tr3 Mz N hR1 _ _ hP hD hS

set_option maxRecDepth 100000 in
set_option maxHeartbeats 4000000 in
theorem lw_c4 {p : Program} {l : Launch} {e : Env} {s : State} {m : MethodId} {below : List Frame} {meth : Method} {c : Code} {Q : State → Prop} {D : va_G} {cs : Nat → ClassId} {A : Nat → Prop} {b L : Nat} {xs : Nat → Int32} {ad bd : Nat → Nat → Nat} {RR : RT} (hp : P_likes RR) (LC0 : LC p s m c b L xs D cs A) (Ma : ST) (Fo : ST) (Sc : ST) (Se : ST) (Tr : ST) (Ch : ST) (Us : ST) (Ta : ST) (Dr : ST) (G0 : ST) (N0 : LT) (G1 : ST) (N1 : LT) (G2 : ST) (N2 : LT) (G3 : ST) (N3 : LT) (Fo2 : ST) (Sc2 : ST) (Se2 : ST) (Tr2 : ST) (Fo3 : ST) (Sc3 : ST) (Se3 : ST) (Tr3 : ST) (M : ST) (N : LT) (hR : RR Ma Fo Sc Se Tr Ch Us Ta Dr G0 N0 G1 N1 G2 N2 G3 N3 Fo2 Sc2 Se2 Tr2 Fo3 Sc3 Se3 Tr3 M N) (y3 : Int32) (i1 : vp_in (y3 + 1) L) (i2 : vp_in (y3 + 2) L) (i3 : vp_in (y3 + 3) L) (i4 : vp_in (y3 + 4) L) (i5 : vp_in (y3 + 5) L) (H : Heap) (locs : List Loc) (ls : Array Slot) (hP : va_P D vwCl ((List.range 31).flatMap (wB cs ad bd Ma Fo Sc Se Tr Ch Us Ta Dr G0 N0 G1 N1 G2 N2 G3 N3 Fo2 Sc2 Se2 Tr2 Fo3 Sc3 Se3 Tr3 M N)) H) (hD : va_D A ((List.range 31).flatMap (wB cs ad bd Ma Fo Sc Se Tr Ch Us Ta Dr G0 N0 G1 N1 G2 N2 G3 N3 Fo2 Sc2 Se2 Tr2 Fo3 Sc3 Se3 Tr3 M N))) (hS : va_S A s.heap H locs) (hl : lv_has ls 4 [(0, .ref b), (1, .ref (ad 0 0)), (2, .ref (bd 0 0)), (3, .int y3)])
    (hk : ∀ (Ma : ST) (Fo : ST) (Sc : ST) (Se : ST) (Tr : ST) (Ch : ST) (Us : ST) (Ta : ST) (Dr : ST) (G0 : ST) (N0 : LT) (G1 : ST) (N1 : LT) (G2 : ST) (N2 : LT) (G3 : ST) (N3 : LT) (Fo2 : ST) (Sc2 : ST) (Se2 : ST) (Tr2 : ST) (Fo3 : ST) (Sc3 : ST) (Se3 : ST) (Tr3 : ST) (M : ST) (N : LT), RR Ma Fo Sc Se Tr Ch Us Ta Dr G0 N0 G1 N1 G2 N2 G3 N3 Fo2 Sc2 Se2 Tr2 Fo3 Sc3 Se3 Tr3 M N → ∀ (H : Heap) (locs : List Loc), va_P D vwCl ((List.range 31).flatMap (wB cs ad bd Ma Fo Sc Se Tr Ch Us Ta Dr G0 N0 G1 N1 G2 N2 G3 N3 Fo2 Sc2 Se2 Tr2 Fo3 Sc3 Se3 Tr3 M N)) H → va_D A ((List.range 31).flatMap (wB cs ad bd Ma Fo Sc Se Tr Ch Us Ta Dr G0 N0 G1 N1 G2 N2 G3 N3 Fo2 Sc2 Se2 Tr2 Fo3 Sc3 Se3 Tr3 M N)) → va_S A s.heap H locs → W p l e room_1 s m #[Value.ref b] below meth c H locs 98 4085 Q (F0 m 1379 ls [])) : W p l e room_1 s m #[Value.ref b] below meth c H locs 98 4085 Q (F0 m 360 ls []) := by
  obtain ⟨hx, hb, hml, hown, hu, hK, hZ, hX, hbl, hbA, hA⟩ := LC0
  obtain ⟨r0, Maz, Foz, Mz, e1, e2, hR1⟩ := hp (xs (Int32.toNatClampNeg (y3 + 1))) (xs (Int32.toNatClampNeg (y3 + 2))) (xs (Int32.toNatClampNeg (y3 + 3))) Ma Fo Sc Se Tr Ch Us Ta Dr G0 N0 G1 N1 G2 N2 G3 N3 Fo2 Sc2 Se2 Tr2 Fo3 Sc3 Se3 Tr3 M N hR
  refine lv_aload_n hx hb dL_law_360 rfl (lv_at hl 1 rfl) ?_
  refine lv_aload_n hx hb dL_law_361 rfl (lv_at hl 0 rfl) ?_
  refine lv_iload_n hx hb dL_law_362 rfl (lv_at hl 3 rfl) ?_
  refine lv_iconst (v := 1) hx hb dL_law_363 (by decide) ?_
  refine lv_iadd hx hb dL_law_364 ?_
  refine va_sld hx hb hX hbl hbA hS i1 dL_law_365 ?_
  refine lv_aload_n hx hb dL_law_366 rfl (lv_at hl 0 rfl) ?_
  refine lv_iload_n hx hb dL_law_367 rfl (lv_at hl 3 rfl) ?_
  refine lv_iconst (v := 2) hx hb dL_law_368 (by decide) ?_
  refine lv_iadd hx hb dL_law_369 ?_
  refine va_sld hx hb hX hbl hbA hS i2 dL_law_370 ?_
  refine lv_aload_n hx hb dL_law_371 rfl (lv_at hl 0 rfl) ?_
  refine lv_iload_n hx hb dL_law_372 rfl (lv_at hl 3 rfl) ?_
  refine lv_iconst (v := 3) hx hb dL_law_373 (by decide) ?_
  refine lv_iadd hx hb dL_law_374 ?_
  refine va_sld hx hb hX hbl hbA hS i3 dL_law_375 ?_
  refine cl_VB (B' := (wB cs ad bd Maz Foz Sc Se Tr Ch Us Ta Dr G0 N0 G1 N1 G2 N2 G3 N3 Fo2 Sc2 Se2 Tr2 Fo3 Sc3 Se3 Tr3 M N)) (st1 := [.int r0]) [.int (xs (Int32.toNatClampNeg (y3 + 1))), .int (xs (Int32.toNatClampNeg (y3 + 2))), .int (xs (Int32.toNatClampNeg (y3 + 3)))] hx hb hml hown hu (tX7_likes l D cs (ad 0) (ad 1) (ad 19) (ad 24) (ad 6) (ad 8) (ad 10) (ad 2) (ad 3) (ad 5) (ad 4) (xs (Int32.toNatClampNeg (y3 + 1))) (xs (Int32.toNatClampNeg (y3 + 2))) (xs (Int32.toNatClampNeg (y3 + 3))) Ma Fo r0 Maz Foz e1) q469 q54 q466 q467 q468 pdX7_likes ⟨Nat.le_of_ble_eq_true rfl, Nat.le_of_ble_eq_true rfl⟩ ⟨rfl, rfl, Nat.le_of_ble_eq_true rfl, Nat.le_of_ble_eq_true rfl⟩ (List.range 31) [0, 1, 2] [3, 4, 5, 6, 7, 8, 9, 10, 11, 12, 13, 14, 15, 16, 17, 18, 19, 20, 21, 22, 23, 24, 25, 26, 27, 28, 29, 30] hK hZ hP hD hS hA (by decide) rfl rfl rfl rfl rfl rfl hl.1 rfl (Nat.le_of_ble_eq_true rfl) dL_law_376 rfl (fun H locs hP hD hS => ?_)
  refine lv_aload_n hx hb dL_law_379 rfl (lv_at hl 2 rfl) ?_
  refine lv_aload_n hx hb dL_law_380 rfl (lv_at hl 0 rfl) ?_
  refine lv_iload_n hx hb dL_law_381 rfl (lv_at hl 3 rfl) ?_
  refine lv_iconst (v := 1) hx hb dL_law_382 (by decide) ?_
  refine lv_iadd hx hb dL_law_383 ?_
  refine va_sld hx hb hX hbl hbA hS i1 dL_law_384 ?_
  refine lv_aload_n hx hb dL_law_385 rfl (lv_at hl 0 rfl) ?_
  refine lv_iload_n hx hb dL_law_386 rfl (lv_at hl 3 rfl) ?_
  refine lv_iconst (v := 2) hx hb dL_law_387 (by decide) ?_
  refine lv_iadd hx hb dL_law_388 ?_
  refine va_sld hx hb hX hbl hbA hS i2 dL_law_389 ?_
  refine lv_aload_n hx hb dL_law_390 rfl (lv_at hl 0 rfl) ?_
  refine lv_iload_n hx hb dL_law_391 rfl (lv_at hl 3 rfl) ?_
  refine lv_iconst (v := 3) hx hb dL_law_392 (by decide) ?_
  refine lv_iadd hx hb dL_law_393 ?_
  refine va_sld hx hb hX hbl hbA hS i3 dL_law_394 ?_
  refine cl_VB (B' := (wB cs ad bd Maz Foz Sc Se Tr Ch Us Ta Dr G0 N0 G1 N1 G2 N2 G3 N3 Fo2 Sc2 Se2 Tr2 Fo3 Sc3 Se3 Tr3 Mz N)) (st1 := [.int r0, .int r0]) [.int (xs (Int32.toNatClampNeg (y3 + 1))), .int (xs (Int32.toNatClampNeg (y3 + 2))), .int (xs (Int32.toNatClampNeg (y3 + 3)))] hx hb hml hown hu (tX8_likes l D cs (bd 0) (bd 1) (xs (Int32.toNatClampNeg (y3 + 1))) (xs (Int32.toNatClampNeg (y3 + 2))) (xs (Int32.toNatClampNeg (y3 + 3))) M r0 Mz e2) q1102 q62 q1099 q1100 q1101 pdX8_likes ⟨Nat.le_of_ble_eq_true rfl, Nat.le_of_ble_eq_true rfl⟩ ⟨rfl, rfl, Nat.le_of_ble_eq_true rfl, Nat.le_of_ble_eq_true rfl⟩ (List.range 31) [29] [0, 1, 2, 3, 4, 5, 6, 7, 8, 9, 10, 11, 12, 13, 14, 15, 16, 17, 18, 19, 20, 21, 22, 23, 24, 25, 26, 27, 28, 30] hK hZ hP hD hS hA (by decide) rfl rfl rfl rfl rfl rfl hl.1 rfl (Nat.le_of_ble_eq_true rfl) dL_law_395 rfl (fun H locs hP hD hS => ?_)
  refine lv_icmp_eq (tgt := 1379) hx hb dL_law_398 (by decide) (fun _ => ?_) (fun hc => absurd rfl hc)
  exact hk Maz Foz Sc Se Tr Ch Us Ta Dr G0 N0 G1 N1 G2 N2 G3 N3 Fo2 Sc2 Se2 Tr2 Fo3 Sc3 Se3 Tr3 Mz N hR1 _ _ hP hD hS

set_option maxRecDepth 100000 in
set_option maxHeartbeats 4000000 in
theorem lw_c5 {p : Program} {l : Launch} {e : Env} {s : State} {m : MethodId} {below : List Frame} {meth : Method} {c : Code} {Q : State → Prop} {D : va_G} {cs : Nat → ClassId} {A : Nat → Prop} {b L : Nat} {xs : Nat → Int32} {ad bd : Nat → Nat → Nat} {RR : RT} (hp : P_worth RR) (LC0 : LC p s m c b L xs D cs A) (Ma : ST) (Fo : ST) (Sc : ST) (Se : ST) (Tr : ST) (Ch : ST) (Us : ST) (Ta : ST) (Dr : ST) (G0 : ST) (N0 : LT) (G1 : ST) (N1 : LT) (G2 : ST) (N2 : LT) (G3 : ST) (N3 : LT) (Fo2 : ST) (Sc2 : ST) (Se2 : ST) (Tr2 : ST) (Fo3 : ST) (Sc3 : ST) (Se3 : ST) (Tr3 : ST) (M : ST) (N : LT) (hR : RR Ma Fo Sc Se Tr Ch Us Ta Dr G0 N0 G1 N1 G2 N2 G3 N3 Fo2 Sc2 Se2 Tr2 Fo3 Sc3 Se3 Tr3 M N) (y3 : Int32) (i1 : vp_in (y3 + 1) L) (i2 : vp_in (y3 + 2) L) (i3 : vp_in (y3 + 3) L) (i4 : vp_in (y3 + 4) L) (i5 : vp_in (y3 + 5) L) (H : Heap) (locs : List Loc) (ls : Array Slot) (hP : va_P D vwCl ((List.range 31).flatMap (wB cs ad bd Ma Fo Sc Se Tr Ch Us Ta Dr G0 N0 G1 N1 G2 N2 G3 N3 Fo2 Sc2 Se2 Tr2 Fo3 Sc3 Se3 Tr3 M N)) H) (hD : va_D A ((List.range 31).flatMap (wB cs ad bd Ma Fo Sc Se Tr Ch Us Ta Dr G0 N0 G1 N1 G2 N2 G3 N3 Fo2 Sc2 Se2 Tr2 Fo3 Sc3 Se3 Tr3 M N))) (hS : va_S A s.heap H locs) (hl : lv_has ls 4 [(0, .ref b), (1, .ref (ad 0 0)), (2, .ref (bd 0 0)), (3, .int y3)])
    (hk : ∀ (Ma : ST) (Fo : ST) (Sc : ST) (Se : ST) (Tr : ST) (Ch : ST) (Us : ST) (Ta : ST) (Dr : ST) (G0 : ST) (N0 : LT) (G1 : ST) (N1 : LT) (G2 : ST) (N2 : LT) (G3 : ST) (N3 : LT) (Fo2 : ST) (Sc2 : ST) (Se2 : ST) (Tr2 : ST) (Fo3 : ST) (Sc3 : ST) (Se3 : ST) (Tr3 : ST) (M : ST) (N : LT), RR Ma Fo Sc Se Tr Ch Us Ta Dr G0 N0 G1 N1 G2 N2 G3 N3 Fo2 Sc2 Se2 Tr2 Fo3 Sc3 Se3 Tr3 M N → ∀ (H : Heap) (locs : List Loc), va_P D vwCl ((List.range 31).flatMap (wB cs ad bd Ma Fo Sc Se Tr Ch Us Ta Dr G0 N0 G1 N1 G2 N2 G3 N3 Fo2 Sc2 Se2 Tr2 Fo3 Sc3 Se3 Tr3 M N)) H → va_D A ((List.range 31).flatMap (wB cs ad bd Ma Fo Sc Se Tr Ch Us Ta Dr G0 N0 G1 N1 G2 N2 G3 N3 Fo2 Sc2 Se2 Tr2 Fo3 Sc3 Se3 Tr3 M N)) → va_S A s.heap H locs → W p l e room_1 s m #[Value.ref b] below meth c H locs 98 4085 Q (F0 m 1379 ls [])) : W p l e room_1 s m #[Value.ref b] below meth c H locs 98 4085 Q (F0 m 403 ls []) := by
  obtain ⟨hx, hb, hml, hown, hu, hK, hZ, hX, hbl, hbA, hA⟩ := LC0
  obtain ⟨r0, Maz, Foz, Mz, e1, e2, hR1⟩ := hp (xs (Int32.toNatClampNeg (y3 + 1))) (xs (Int32.toNatClampNeg (y3 + 2))) (xs (Int32.toNatClampNeg (y3 + 3))) Ma Fo Sc Se Tr Ch Us Ta Dr G0 N0 G1 N1 G2 N2 G3 N3 Fo2 Sc2 Se2 Tr2 Fo3 Sc3 Se3 Tr3 M N hR
  refine lv_aload_n hx hb dL_law_403 rfl (lv_at hl 1 rfl) ?_
  refine lv_aload_n hx hb dL_law_404 rfl (lv_at hl 0 rfl) ?_
  refine lv_iload_n hx hb dL_law_405 rfl (lv_at hl 3 rfl) ?_
  refine lv_iconst (v := 1) hx hb dL_law_406 (by decide) ?_
  refine lv_iadd hx hb dL_law_407 ?_
  refine va_sld hx hb hX hbl hbA hS i1 dL_law_408 ?_
  refine lv_aload_n hx hb dL_law_409 rfl (lv_at hl 0 rfl) ?_
  refine lv_iload_n hx hb dL_law_410 rfl (lv_at hl 3 rfl) ?_
  refine lv_iconst (v := 2) hx hb dL_law_411 (by decide) ?_
  refine lv_iadd hx hb dL_law_412 ?_
  refine va_sld hx hb hX hbl hbA hS i2 dL_law_413 ?_
  refine lv_aload_n hx hb dL_law_414 rfl (lv_at hl 0 rfl) ?_
  refine lv_iload_n hx hb dL_law_415 rfl (lv_at hl 3 rfl) ?_
  refine lv_iconst (v := 3) hx hb dL_law_416 (by decide) ?_
  refine lv_iadd hx hb dL_law_417 ?_
  refine va_sld hx hb hX hbl hbA hS i3 dL_law_418 ?_
  refine cl_VB (B' := (wB cs ad bd Maz Foz Sc Se Tr Ch Us Ta Dr G0 N0 G1 N1 G2 N2 G3 N3 Fo2 Sc2 Se2 Tr2 Fo3 Sc3 Se3 Tr3 M N)) (st1 := [.int r0]) [.int (xs (Int32.toNatClampNeg (y3 + 1))), .int (xs (Int32.toNatClampNeg (y3 + 2))), .int (xs (Int32.toNatClampNeg (y3 + 3)))] hx hb hml hown hu (tX7_worth l D cs (ad 0) (ad 1) (ad 19) (ad 24) (ad 6) (ad 8) (ad 10) (ad 2) (ad 3) (ad 5) (ad 4) (xs (Int32.toNatClampNeg (y3 + 1))) (xs (Int32.toNatClampNeg (y3 + 2))) (xs (Int32.toNatClampNeg (y3 + 3))) Ma Fo r0 Maz Foz e1) q477 q54 q474 q475 q476 pdX7_worth ⟨Nat.le_of_ble_eq_true rfl, Nat.le_of_ble_eq_true rfl⟩ ⟨rfl, rfl, Nat.le_of_ble_eq_true rfl, Nat.le_of_ble_eq_true rfl⟩ (List.range 31) [0, 1, 2] [3, 4, 5, 6, 7, 8, 9, 10, 11, 12, 13, 14, 15, 16, 17, 18, 19, 20, 21, 22, 23, 24, 25, 26, 27, 28, 29, 30] hK hZ hP hD hS hA (by decide) rfl rfl rfl rfl rfl rfl hl.1 rfl (Nat.le_of_ble_eq_true rfl) dL_law_419 rfl (fun H locs hP hD hS => ?_)
  refine lv_aload_n hx hb dL_law_422 rfl (lv_at hl 2 rfl) ?_
  refine lv_aload_n hx hb dL_law_423 rfl (lv_at hl 0 rfl) ?_
  refine lv_iload_n hx hb dL_law_424 rfl (lv_at hl 3 rfl) ?_
  refine lv_iconst (v := 1) hx hb dL_law_425 (by decide) ?_
  refine lv_iadd hx hb dL_law_426 ?_
  refine va_sld hx hb hX hbl hbA hS i1 dL_law_427 ?_
  refine lv_aload_n hx hb dL_law_428 rfl (lv_at hl 0 rfl) ?_
  refine lv_iload_n hx hb dL_law_429 rfl (lv_at hl 3 rfl) ?_
  refine lv_iconst (v := 2) hx hb dL_law_430 (by decide) ?_
  refine lv_iadd hx hb dL_law_431 ?_
  refine va_sld hx hb hX hbl hbA hS i2 dL_law_432 ?_
  refine lv_aload_n hx hb dL_law_433 rfl (lv_at hl 0 rfl) ?_
  refine lv_iload_n hx hb dL_law_434 rfl (lv_at hl 3 rfl) ?_
  refine lv_iconst (v := 3) hx hb dL_law_435 (by decide) ?_
  refine lv_iadd hx hb dL_law_436 ?_
  refine va_sld hx hb hX hbl hbA hS i3 dL_law_437 ?_
  refine cl_VB (B' := (wB cs ad bd Maz Foz Sc Se Tr Ch Us Ta Dr G0 N0 G1 N1 G2 N2 G3 N3 Fo2 Sc2 Se2 Tr2 Fo3 Sc3 Se3 Tr3 Mz N)) (st1 := [.int r0, .int r0]) [.int (xs (Int32.toNatClampNeg (y3 + 1))), .int (xs (Int32.toNatClampNeg (y3 + 2))), .int (xs (Int32.toNatClampNeg (y3 + 3)))] hx hb hml hown hu (tX8_worth l D cs (bd 0) (bd 1) (xs (Int32.toNatClampNeg (y3 + 1))) (xs (Int32.toNatClampNeg (y3 + 2))) (xs (Int32.toNatClampNeg (y3 + 3))) M r0 Mz e2) q1108 q62 q1105 q1106 q1107 pdX8_worth ⟨Nat.le_of_ble_eq_true rfl, Nat.le_of_ble_eq_true rfl⟩ ⟨rfl, rfl, Nat.le_of_ble_eq_true rfl, Nat.le_of_ble_eq_true rfl⟩ (List.range 31) [29] [0, 1, 2, 3, 4, 5, 6, 7, 8, 9, 10, 11, 12, 13, 14, 15, 16, 17, 18, 19, 20, 21, 22, 23, 24, 25, 26, 27, 28, 30] hK hZ hP hD hS hA (by decide) rfl rfl rfl rfl rfl rfl hl.1 rfl (Nat.le_of_ble_eq_true rfl) dL_law_438 rfl (fun H locs hP hD hS => ?_)
  refine lv_icmp_eq (tgt := 1379) hx hb dL_law_441 (by decide) (fun _ => ?_) (fun hc => absurd rfl hc)
  exact hk Maz Foz Sc Se Tr Ch Us Ta Dr G0 N0 G1 N1 G2 N2 G3 N3 Fo2 Sc2 Se2 Tr2 Fo3 Sc3 Se3 Tr3 Mz N hR1 _ _ hP hD hS

set_option maxRecDepth 100000 in
set_option maxHeartbeats 4000000 in
theorem lw_c6 {p : Program} {l : Launch} {e : Env} {s : State} {m : MethodId} {below : List Frame} {meth : Method} {c : Code} {Q : State → Prop} {D : va_G} {cs : Nat → ClassId} {A : Nat → Prop} {b L : Nat} {xs : Nat → Int32} {ad bd : Nat → Nat → Nat} {RR : RT} (hp : P_rule RR) (LC0 : LC p s m c b L xs D cs A) (Ma : ST) (Fo : ST) (Sc : ST) (Se : ST) (Tr : ST) (Ch : ST) (Us : ST) (Ta : ST) (Dr : ST) (G0 : ST) (N0 : LT) (G1 : ST) (N1 : LT) (G2 : ST) (N2 : LT) (G3 : ST) (N3 : LT) (Fo2 : ST) (Sc2 : ST) (Se2 : ST) (Tr2 : ST) (Fo3 : ST) (Sc3 : ST) (Se3 : ST) (Tr3 : ST) (M : ST) (N : LT) (hR : RR Ma Fo Sc Se Tr Ch Us Ta Dr G0 N0 G1 N1 G2 N2 G3 N3 Fo2 Sc2 Se2 Tr2 Fo3 Sc3 Se3 Tr3 M N) (y3 : Int32) (i1 : vp_in (y3 + 1) L) (i2 : vp_in (y3 + 2) L) (i3 : vp_in (y3 + 3) L) (i4 : vp_in (y3 + 4) L) (i5 : vp_in (y3 + 5) L) (H : Heap) (locs : List Loc) (ls : Array Slot) (hP : va_P D vwCl ((List.range 31).flatMap (wB cs ad bd Ma Fo Sc Se Tr Ch Us Ta Dr G0 N0 G1 N1 G2 N2 G3 N3 Fo2 Sc2 Se2 Tr2 Fo3 Sc3 Se3 Tr3 M N)) H) (hD : va_D A ((List.range 31).flatMap (wB cs ad bd Ma Fo Sc Se Tr Ch Us Ta Dr G0 N0 G1 N1 G2 N2 G3 N3 Fo2 Sc2 Se2 Tr2 Fo3 Sc3 Se3 Tr3 M N))) (hS : va_S A s.heap H locs) (hl : lv_has ls 4 [(0, .ref b), (1, .ref (ad 0 0)), (2, .ref (bd 0 0)), (3, .int y3)])
    (hk : ∀ (Ma : ST) (Fo : ST) (Sc : ST) (Se : ST) (Tr : ST) (Ch : ST) (Us : ST) (Ta : ST) (Dr : ST) (G0 : ST) (N0 : LT) (G1 : ST) (N1 : LT) (G2 : ST) (N2 : LT) (G3 : ST) (N3 : LT) (Fo2 : ST) (Sc2 : ST) (Se2 : ST) (Tr2 : ST) (Fo3 : ST) (Sc3 : ST) (Se3 : ST) (Tr3 : ST) (M : ST) (N : LT), RR Ma Fo Sc Se Tr Ch Us Ta Dr G0 N0 G1 N1 G2 N2 G3 N3 Fo2 Sc2 Se2 Tr2 Fo3 Sc3 Se3 Tr3 M N → ∀ (H : Heap) (locs : List Loc), va_P D vwCl ((List.range 31).flatMap (wB cs ad bd Ma Fo Sc Se Tr Ch Us Ta Dr G0 N0 G1 N1 G2 N2 G3 N3 Fo2 Sc2 Se2 Tr2 Fo3 Sc3 Se3 Tr3 M N)) H → va_D A ((List.range 31).flatMap (wB cs ad bd Ma Fo Sc Se Tr Ch Us Ta Dr G0 N0 G1 N1 G2 N2 G3 N3 Fo2 Sc2 Se2 Tr2 Fo3 Sc3 Se3 Tr3 M N)) → va_S A s.heap H locs → W p l e room_1 s m #[Value.ref b] below meth c H locs 98 4085 Q (F0 m 1379 ls [])) : W p l e room_1 s m #[Value.ref b] below meth c H locs 98 4085 Q (F0 m 446 ls []) := by
  obtain ⟨hx, hb, hml, hown, hu, hK, hZ, hX, hbl, hbA, hA⟩ := LC0
  obtain ⟨r0, Maz, Sez, Mz, e1, e2, hR1⟩ := hp (xs (Int32.toNatClampNeg (y3 + 1))) (xs (Int32.toNatClampNeg (y3 + 2))) Ma Fo Sc Se Tr Ch Us Ta Dr G0 N0 G1 N1 G2 N2 G3 N3 Fo2 Sc2 Se2 Tr2 Fo3 Sc3 Se3 Tr3 M N hR
  refine lv_aload_n hx hb dL_law_446 rfl (lv_at hl 1 rfl) ?_
  refine lv_aload_n hx hb dL_law_447 rfl (lv_at hl 0 rfl) ?_
  refine lv_iload_n hx hb dL_law_448 rfl (lv_at hl 3 rfl) ?_
  refine lv_iconst (v := 1) hx hb dL_law_449 (by decide) ?_
  refine lv_iadd hx hb dL_law_450 ?_
  refine va_sld hx hb hX hbl hbA hS i1 dL_law_451 ?_
  refine lv_aload_n hx hb dL_law_452 rfl (lv_at hl 0 rfl) ?_
  refine lv_iload_n hx hb dL_law_453 rfl (lv_at hl 3 rfl) ?_
  refine lv_iconst (v := 2) hx hb dL_law_454 (by decide) ?_
  refine lv_iadd hx hb dL_law_455 ?_
  refine va_sld hx hb hX hbl hbA hS i2 dL_law_456 ?_
  refine cl_VB (B' := (wB cs ad bd Maz Fo Sc Sez Tr Ch Us Ta Dr G0 N0 G1 N1 G2 N2 G3 N3 Fo2 Sc2 Se2 Tr2 Fo3 Sc3 Se3 Tr3 M N)) (st1 := [.int r0]) [.int (xs (Int32.toNatClampNeg (y3 + 1))), .int (xs (Int32.toNatClampNeg (y3 + 2)))] hx hb hml hown hu (tX7_rule l D cs (ad 0) (ad 1) (ad 19) (ad 24) (ad 6) (ad 8) (ad 10) (ad 2) (ad 3) (ad 5) (ad 4) (xs (Int32.toNatClampNeg (y3 + 1))) (xs (Int32.toNatClampNeg (y3 + 2))) Ma Se r0 Maz Sez e1) q481 q54 q478 q479 q480 pdX7_rule ⟨Nat.le_of_ble_eq_true rfl, Nat.le_of_ble_eq_true rfl⟩ ⟨rfl, rfl, Nat.le_of_ble_eq_true rfl, Nat.le_of_ble_eq_true rfl⟩ (List.range 31) [0, 1, 4] [2, 3, 5, 6, 7, 8, 9, 10, 11, 12, 13, 14, 15, 16, 17, 18, 19, 20, 21, 22, 23, 24, 25, 26, 27, 28, 29, 30] hK hZ hP hD hS hA (by decide) rfl rfl rfl rfl rfl rfl hl.1 rfl (Nat.le_of_ble_eq_true rfl) dL_law_457 rfl (fun H locs hP hD hS => ?_)
  refine lv_aload_n hx hb dL_law_460 rfl (lv_at hl 2 rfl) ?_
  refine lv_aload_n hx hb dL_law_461 rfl (lv_at hl 0 rfl) ?_
  refine lv_iload_n hx hb dL_law_462 rfl (lv_at hl 3 rfl) ?_
  refine lv_iconst (v := 1) hx hb dL_law_463 (by decide) ?_
  refine lv_iadd hx hb dL_law_464 ?_
  refine va_sld hx hb hX hbl hbA hS i1 dL_law_465 ?_
  refine lv_aload_n hx hb dL_law_466 rfl (lv_at hl 0 rfl) ?_
  refine lv_iload_n hx hb dL_law_467 rfl (lv_at hl 3 rfl) ?_
  refine lv_iconst (v := 2) hx hb dL_law_468 (by decide) ?_
  refine lv_iadd hx hb dL_law_469 ?_
  refine va_sld hx hb hX hbl hbA hS i2 dL_law_470 ?_
  refine cl_VB (B' := (wB cs ad bd Maz Fo Sc Sez Tr Ch Us Ta Dr G0 N0 G1 N1 G2 N2 G3 N3 Fo2 Sc2 Se2 Tr2 Fo3 Sc3 Se3 Tr3 Mz N)) (st1 := [.int r0, .int r0]) [.int (xs (Int32.toNatClampNeg (y3 + 1))), .int (xs (Int32.toNatClampNeg (y3 + 2)))] hx hb hml hown hu (tX8_rule l D cs (bd 0) (bd 1) (xs (Int32.toNatClampNeg (y3 + 1))) (xs (Int32.toNatClampNeg (y3 + 2))) M r0 Mz e2) q1113 q62 q1110 q1111 q1112 pdX8_rule ⟨Nat.le_of_ble_eq_true rfl, Nat.le_of_ble_eq_true rfl⟩ ⟨rfl, rfl, Nat.le_of_ble_eq_true rfl, Nat.le_of_ble_eq_true rfl⟩ (List.range 31) [29] [0, 1, 2, 3, 4, 5, 6, 7, 8, 9, 10, 11, 12, 13, 14, 15, 16, 17, 18, 19, 20, 21, 22, 23, 24, 25, 26, 27, 28, 30] hK hZ hP hD hS hA (by decide) rfl rfl rfl rfl rfl rfl hl.1 rfl (Nat.le_of_ble_eq_true rfl) dL_law_471 rfl (fun H locs hP hD hS => ?_)
  refine lv_icmp_eq (tgt := 1379) hx hb dL_law_474 (by decide) (fun _ => ?_) (fun hc => absurd rfl hc)
  exact hk Maz Fo Sc Sez Tr Ch Us Ta Dr G0 N0 G1 N1 G2 N2 G3 N3 Fo2 Sc2 Se2 Tr2 Fo3 Sc3 Se3 Tr3 Mz N hR1 _ _ hP hD hS

set_option maxRecDepth 100000 in
set_option maxHeartbeats 4000000 in
theorem lw_c7 {p : Program} {l : Launch} {e : Env} {s : State} {m : MethodId} {below : List Frame} {meth : Method} {c : Code} {Q : State → Prop} {D : va_G} {cs : Nat → ClassId} {A : Nat → Prop} {b L : Nat} {xs : Nat → Int32} {ad bd : Nat → Nat → Nat} {RR : RT} (hp : P_sit RR) (LC0 : LC p s m c b L xs D cs A) (Ma : ST) (Fo : ST) (Sc : ST) (Se : ST) (Tr : ST) (Ch : ST) (Us : ST) (Ta : ST) (Dr : ST) (G0 : ST) (N0 : LT) (G1 : ST) (N1 : LT) (G2 : ST) (N2 : LT) (G3 : ST) (N3 : LT) (Fo2 : ST) (Sc2 : ST) (Se2 : ST) (Tr2 : ST) (Fo3 : ST) (Sc3 : ST) (Se3 : ST) (Tr3 : ST) (M : ST) (N : LT) (hR : RR Ma Fo Sc Se Tr Ch Us Ta Dr G0 N0 G1 N1 G2 N2 G3 N3 Fo2 Sc2 Se2 Tr2 Fo3 Sc3 Se3 Tr3 M N) (y3 : Int32) (i1 : vp_in (y3 + 1) L) (i2 : vp_in (y3 + 2) L) (i3 : vp_in (y3 + 3) L) (i4 : vp_in (y3 + 4) L) (i5 : vp_in (y3 + 5) L) (H : Heap) (locs : List Loc) (ls : Array Slot) (hP : va_P D vwCl ((List.range 31).flatMap (wB cs ad bd Ma Fo Sc Se Tr Ch Us Ta Dr G0 N0 G1 N1 G2 N2 G3 N3 Fo2 Sc2 Se2 Tr2 Fo3 Sc3 Se3 Tr3 M N)) H) (hD : va_D A ((List.range 31).flatMap (wB cs ad bd Ma Fo Sc Se Tr Ch Us Ta Dr G0 N0 G1 N1 G2 N2 G3 N3 Fo2 Sc2 Se2 Tr2 Fo3 Sc3 Se3 Tr3 M N))) (hS : va_S A s.heap H locs) (hl : lv_has ls 4 [(0, .ref b), (1, .ref (ad 0 0)), (2, .ref (bd 0 0)), (3, .int y3)])
    (hk : ∀ (Ma : ST) (Fo : ST) (Sc : ST) (Se : ST) (Tr : ST) (Ch : ST) (Us : ST) (Ta : ST) (Dr : ST) (G0 : ST) (N0 : LT) (G1 : ST) (N1 : LT) (G2 : ST) (N2 : LT) (G3 : ST) (N3 : LT) (Fo2 : ST) (Sc2 : ST) (Se2 : ST) (Tr2 : ST) (Fo3 : ST) (Sc3 : ST) (Se3 : ST) (Tr3 : ST) (M : ST) (N : LT), RR Ma Fo Sc Se Tr Ch Us Ta Dr G0 N0 G1 N1 G2 N2 G3 N3 Fo2 Sc2 Se2 Tr2 Fo3 Sc3 Se3 Tr3 M N → ∀ (H : Heap) (locs : List Loc), va_P D vwCl ((List.range 31).flatMap (wB cs ad bd Ma Fo Sc Se Tr Ch Us Ta Dr G0 N0 G1 N1 G2 N2 G3 N3 Fo2 Sc2 Se2 Tr2 Fo3 Sc3 Se3 Tr3 M N)) H → va_D A ((List.range 31).flatMap (wB cs ad bd Ma Fo Sc Se Tr Ch Us Ta Dr G0 N0 G1 N1 G2 N2 G3 N3 Fo2 Sc2 Se2 Tr2 Fo3 Sc3 Se3 Tr3 M N)) → va_S A s.heap H locs → W p l e room_1 s m #[Value.ref b] below meth c H locs 98 4085 Q (F0 m 1379 ls [])) : W p l e room_1 s m #[Value.ref b] below meth c H locs 98 4085 Q (F0 m 479 ls []) := by
  obtain ⟨hx, hb, hml, hown, hu, hK, hZ, hX, hbl, hbA, hA⟩ := LC0
  obtain ⟨r0, Maz, Sez, Mz, e1, e2, hR1⟩ := hp (xs (Int32.toNatClampNeg (y3 + 1))) Ma Fo Sc Se Tr Ch Us Ta Dr G0 N0 G1 N1 G2 N2 G3 N3 Fo2 Sc2 Se2 Tr2 Fo3 Sc3 Se3 Tr3 M N hR
  refine lv_aload_n hx hb dL_law_479 rfl (lv_at hl 1 rfl) ?_
  refine lv_aload_n hx hb dL_law_480 rfl (lv_at hl 0 rfl) ?_
  refine lv_iload_n hx hb dL_law_481 rfl (lv_at hl 3 rfl) ?_
  refine lv_iconst (v := 1) hx hb dL_law_482 (by decide) ?_
  refine lv_iadd hx hb dL_law_483 ?_
  refine va_sld hx hb hX hbl hbA hS i1 dL_law_484 ?_
  refine cl_VB (B' := (wB cs ad bd Maz Fo Sc Sez Tr Ch Us Ta Dr G0 N0 G1 N1 G2 N2 G3 N3 Fo2 Sc2 Se2 Tr2 Fo3 Sc3 Se3 Tr3 M N)) (st1 := [.int r0]) [.int (xs (Int32.toNatClampNeg (y3 + 1)))] hx hb hml hown hu (tX7_sit l D cs (ad 0) (ad 1) (ad 19) (ad 24) (ad 6) (ad 8) (ad 10) (ad 2) (ad 3) (ad 5) (ad 4) (xs (Int32.toNatClampNeg (y3 + 1))) Ma Fo Se r0 Maz Sez e1) q499 q54 q496 q497 q498 pdX7_sit ⟨Nat.le_of_ble_eq_true rfl, Nat.le_of_ble_eq_true rfl⟩ ⟨rfl, rfl, Nat.le_of_ble_eq_true rfl, Nat.le_of_ble_eq_true rfl⟩ (List.range 31) [0, 1, 2, 4] [3, 5, 6, 7, 8, 9, 10, 11, 12, 13, 14, 15, 16, 17, 18, 19, 20, 21, 22, 23, 24, 25, 26, 27, 28, 29, 30] hK hZ hP hD hS hA (by decide) rfl rfl rfl rfl rfl rfl hl.1 rfl (Nat.le_of_ble_eq_true rfl) dL_law_485 rfl (fun H locs hP hD hS => ?_)
  refine lv_aload_n hx hb dL_law_488 rfl (lv_at hl 2 rfl) ?_
  refine lv_aload_n hx hb dL_law_489 rfl (lv_at hl 0 rfl) ?_
  refine lv_iload_n hx hb dL_law_490 rfl (lv_at hl 3 rfl) ?_
  refine lv_iconst (v := 1) hx hb dL_law_491 (by decide) ?_
  refine lv_iadd hx hb dL_law_492 ?_
  refine va_sld hx hb hX hbl hbA hS i1 dL_law_493 ?_
  refine cl_VB (B' := (wB cs ad bd Maz Fo Sc Sez Tr Ch Us Ta Dr G0 N0 G1 N1 G2 N2 G3 N3 Fo2 Sc2 Se2 Tr2 Fo3 Sc3 Se3 Tr3 Mz N)) (st1 := [.int r0, .int r0]) [.int (xs (Int32.toNatClampNeg (y3 + 1)))] hx hb hml hown hu (tX8_sit l D cs (bd 0) (bd 1) (xs (Int32.toNatClampNeg (y3 + 1))) M r0 Mz e2) q1127 q62 q1124 q1125 q1126 pdX8_sit ⟨Nat.le_of_ble_eq_true rfl, Nat.le_of_ble_eq_true rfl⟩ ⟨rfl, rfl, Nat.le_of_ble_eq_true rfl, Nat.le_of_ble_eq_true rfl⟩ (List.range 31) [29] [0, 1, 2, 3, 4, 5, 6, 7, 8, 9, 10, 11, 12, 13, 14, 15, 16, 17, 18, 19, 20, 21, 22, 23, 24, 25, 26, 27, 28, 30] hK hZ hP hD hS hA (by decide) rfl rfl rfl rfl rfl rfl hl.1 rfl (Nat.le_of_ble_eq_true rfl) dL_law_494 rfl (fun H locs hP hD hS => ?_)
  refine lv_icmp_eq (tgt := 1379) hx hb dL_law_497 (by decide) (fun _ => ?_) (fun hc => absurd rfl hc)
  exact hk Maz Fo Sc Sez Tr Ch Us Ta Dr G0 N0 G1 N1 G2 N2 G3 N3 Fo2 Sc2 Se2 Tr2 Fo3 Sc3 Se3 Tr3 Mz N hR1 _ _ hP hD hS

set_option maxRecDepth 100000 in
set_option maxHeartbeats 4000000 in
theorem lw_c8 {p : Program} {l : Launch} {e : Env} {s : State} {m : MethodId} {below : List Frame} {meth : Method} {c : Code} {Q : State → Prop} {D : va_G} {cs : Nat → ClassId} {A : Nat → Prop} {b L : Nat} {xs : Nat → Int32} {ad bd : Nat → Nat → Nat} {RR : RT} (hp : P_line RR) (LC0 : LC p s m c b L xs D cs A) (Ma : ST) (Fo : ST) (Sc : ST) (Se : ST) (Tr : ST) (Ch : ST) (Us : ST) (Ta : ST) (Dr : ST) (G0 : ST) (N0 : LT) (G1 : ST) (N1 : LT) (G2 : ST) (N2 : LT) (G3 : ST) (N3 : LT) (Fo2 : ST) (Sc2 : ST) (Se2 : ST) (Tr2 : ST) (Fo3 : ST) (Sc3 : ST) (Se3 : ST) (Tr3 : ST) (M : ST) (N : LT) (hR : RR Ma Fo Sc Se Tr Ch Us Ta Dr G0 N0 G1 N1 G2 N2 G3 N3 Fo2 Sc2 Se2 Tr2 Fo3 Sc3 Se3 Tr3 M N) (y3 : Int32) (i1 : vp_in (y3 + 1) L) (i2 : vp_in (y3 + 2) L) (i3 : vp_in (y3 + 3) L) (i4 : vp_in (y3 + 4) L) (i5 : vp_in (y3 + 5) L) (H : Heap) (locs : List Loc) (ls : Array Slot) (hP : va_P D vwCl ((List.range 31).flatMap (wB cs ad bd Ma Fo Sc Se Tr Ch Us Ta Dr G0 N0 G1 N1 G2 N2 G3 N3 Fo2 Sc2 Se2 Tr2 Fo3 Sc3 Se3 Tr3 M N)) H) (hD : va_D A ((List.range 31).flatMap (wB cs ad bd Ma Fo Sc Se Tr Ch Us Ta Dr G0 N0 G1 N1 G2 N2 G3 N3 Fo2 Sc2 Se2 Tr2 Fo3 Sc3 Se3 Tr3 M N))) (hS : va_S A s.heap H locs) (hl : lv_has ls 4 [(0, .ref b), (1, .ref (ad 0 0)), (2, .ref (bd 0 0)), (3, .int y3)])
    (hk : ∀ (Ma : ST) (Fo : ST) (Sc : ST) (Se : ST) (Tr : ST) (Ch : ST) (Us : ST) (Ta : ST) (Dr : ST) (G0 : ST) (N0 : LT) (G1 : ST) (N1 : LT) (G2 : ST) (N2 : LT) (G3 : ST) (N3 : LT) (Fo2 : ST) (Sc2 : ST) (Se2 : ST) (Tr2 : ST) (Fo3 : ST) (Sc3 : ST) (Se3 : ST) (Tr3 : ST) (M : ST) (N : LT), RR Ma Fo Sc Se Tr Ch Us Ta Dr G0 N0 G1 N1 G2 N2 G3 N3 Fo2 Sc2 Se2 Tr2 Fo3 Sc3 Se3 Tr3 M N → ∀ (H : Heap) (locs : List Loc), va_P D vwCl ((List.range 31).flatMap (wB cs ad bd Ma Fo Sc Se Tr Ch Us Ta Dr G0 N0 G1 N1 G2 N2 G3 N3 Fo2 Sc2 Se2 Tr2 Fo3 Sc3 Se3 Tr3 M N)) H → va_D A ((List.range 31).flatMap (wB cs ad bd Ma Fo Sc Se Tr Ch Us Ta Dr G0 N0 G1 N1 G2 N2 G3 N3 Fo2 Sc2 Se2 Tr2 Fo3 Sc3 Se3 Tr3 M N)) → va_S A s.heap H locs → W p l e room_1 s m #[Value.ref b] below meth c H locs 98 4085 Q (F0 m 1379 ls [])) : W p l e room_1 s m #[Value.ref b] below meth c H locs 98 4085 Q (F0 m 502 ls []) := by
  obtain ⟨hx, hb, hml, hown, hu, hK, hZ, hX, hbl, hbA, hA⟩ := LC0
  obtain ⟨r0, Maz, Sez, Mz, e1, e2, hR1⟩ := hp (xs (Int32.toNatClampNeg (y3 + 1))) (xs (Int32.toNatClampNeg (y3 + 2))) Ma Fo Sc Se Tr Ch Us Ta Dr G0 N0 G1 N1 G2 N2 G3 N3 Fo2 Sc2 Se2 Tr2 Fo3 Sc3 Se3 Tr3 M N hR
  refine lv_aload_n hx hb dL_law_502 rfl (lv_at hl 1 rfl) ?_
  refine lv_aload_n hx hb dL_law_503 rfl (lv_at hl 0 rfl) ?_
  refine lv_iload_n hx hb dL_law_504 rfl (lv_at hl 3 rfl) ?_
  refine lv_iconst (v := 1) hx hb dL_law_505 (by decide) ?_
  refine lv_iadd hx hb dL_law_506 ?_
  refine va_sld hx hb hX hbl hbA hS i1 dL_law_507 ?_
  refine lv_aload_n hx hb dL_law_508 rfl (lv_at hl 0 rfl) ?_
  refine lv_iload_n hx hb dL_law_509 rfl (lv_at hl 3 rfl) ?_
  refine lv_iconst (v := 2) hx hb dL_law_510 (by decide) ?_
  refine lv_iadd hx hb dL_law_511 ?_
  refine va_sld hx hb hX hbl hbA hS i2 dL_law_512 ?_
  refine cl_VB (B' := (wB cs ad bd Maz Fo Sc Sez Tr Ch Us Ta Dr G0 N0 G1 N1 G2 N2 G3 N3 Fo2 Sc2 Se2 Tr2 Fo3 Sc3 Se3 Tr3 M N)) (st1 := [.int r0]) [.int (xs (Int32.toNatClampNeg (y3 + 1))), .int (xs (Int32.toNatClampNeg (y3 + 2)))] hx hb hml hown hu (tX7_line l D cs (ad 0) (ad 1) (ad 19) (ad 24) (ad 6) (ad 8) (ad 10) (ad 2) (ad 3) (ad 5) (ad 4) (xs (Int32.toNatClampNeg (y3 + 1))) (xs (Int32.toNatClampNeg (y3 + 2))) Ma Fo Se r0 Maz Sez e1) q504 q54 q501 q502 q503 pdX7_line ⟨Nat.le_of_ble_eq_true rfl, Nat.le_of_ble_eq_true rfl⟩ ⟨rfl, rfl, Nat.le_of_ble_eq_true rfl, Nat.le_of_ble_eq_true rfl⟩ (List.range 31) [0, 1, 2, 4] [3, 5, 6, 7, 8, 9, 10, 11, 12, 13, 14, 15, 16, 17, 18, 19, 20, 21, 22, 23, 24, 25, 26, 27, 28, 29, 30] hK hZ hP hD hS hA (by decide) rfl rfl rfl rfl rfl rfl hl.1 rfl (Nat.le_of_ble_eq_true rfl) dL_law_513 rfl (fun H locs hP hD hS => ?_)
  refine lv_aload_n hx hb dL_law_516 rfl (lv_at hl 2 rfl) ?_
  refine lv_aload_n hx hb dL_law_517 rfl (lv_at hl 0 rfl) ?_
  refine lv_iload_n hx hb dL_law_518 rfl (lv_at hl 3 rfl) ?_
  refine lv_iconst (v := 1) hx hb dL_law_519 (by decide) ?_
  refine lv_iadd hx hb dL_law_520 ?_
  refine va_sld hx hb hX hbl hbA hS i1 dL_law_521 ?_
  refine lv_aload_n hx hb dL_law_522 rfl (lv_at hl 0 rfl) ?_
  refine lv_iload_n hx hb dL_law_523 rfl (lv_at hl 3 rfl) ?_
  refine lv_iconst (v := 2) hx hb dL_law_524 (by decide) ?_
  refine lv_iadd hx hb dL_law_525 ?_
  refine va_sld hx hb hX hbl hbA hS i2 dL_law_526 ?_
  refine cl_VB (B' := (wB cs ad bd Maz Fo Sc Sez Tr Ch Us Ta Dr G0 N0 G1 N1 G2 N2 G3 N3 Fo2 Sc2 Se2 Tr2 Fo3 Sc3 Se3 Tr3 Mz N)) (st1 := [.int r0, .int r0]) [.int (xs (Int32.toNatClampNeg (y3 + 1))), .int (xs (Int32.toNatClampNeg (y3 + 2)))] hx hb hml hown hu (tX8_line l D cs (bd 0) (bd 1) (xs (Int32.toNatClampNeg (y3 + 1))) (xs (Int32.toNatClampNeg (y3 + 2))) M r0 Mz e2) q1132 q62 q1129 q1130 q1131 pdX8_line ⟨Nat.le_of_ble_eq_true rfl, Nat.le_of_ble_eq_true rfl⟩ ⟨rfl, rfl, Nat.le_of_ble_eq_true rfl, Nat.le_of_ble_eq_true rfl⟩ (List.range 31) [29] [0, 1, 2, 3, 4, 5, 6, 7, 8, 9, 10, 11, 12, 13, 14, 15, 16, 17, 18, 19, 20, 21, 22, 23, 24, 25, 26, 27, 28, 30] hK hZ hP hD hS hA (by decide) rfl rfl rfl rfl rfl rfl hl.1 rfl (Nat.le_of_ble_eq_true rfl) dL_law_527 rfl (fun H locs hP hD hS => ?_)
  refine lv_icmp_eq (tgt := 1379) hx hb dL_law_530 (by decide) (fun _ => ?_) (fun hc => absurd rfl hc)
  exact hk Maz Fo Sc Sez Tr Ch Us Ta Dr G0 N0 G1 N1 G2 N2 G3 N3 Fo2 Sc2 Se2 Tr2 Fo3 Sc3 Se3 Tr3 Mz N hR1 _ _ hP hD hS

set_option maxRecDepth 100000 in
set_option maxHeartbeats 4000000 in
theorem lw_c9 {p : Program} {l : Launch} {e : Env} {s : State} {m : MethodId} {below : List Frame} {meth : Method} {c : Code} {Q : State → Prop} {D : va_G} {cs : Nat → ClassId} {A : Nat → Prop} {b L : Nat} {xs : Nat → Int32} {ad bd : Nat → Nat → Nat} {RR : RT} (hp : P_may RR) (LC0 : LC p s m c b L xs D cs A) (Ma : ST) (Fo : ST) (Sc : ST) (Se : ST) (Tr : ST) (Ch : ST) (Us : ST) (Ta : ST) (Dr : ST) (G0 : ST) (N0 : LT) (G1 : ST) (N1 : LT) (G2 : ST) (N2 : LT) (G3 : ST) (N3 : LT) (Fo2 : ST) (Sc2 : ST) (Se2 : ST) (Tr2 : ST) (Fo3 : ST) (Sc3 : ST) (Se3 : ST) (Tr3 : ST) (M : ST) (N : LT) (hR : RR Ma Fo Sc Se Tr Ch Us Ta Dr G0 N0 G1 N1 G2 N2 G3 N3 Fo2 Sc2 Se2 Tr2 Fo3 Sc3 Se3 Tr3 M N) (y3 : Int32) (i1 : vp_in (y3 + 1) L) (i2 : vp_in (y3 + 2) L) (i3 : vp_in (y3 + 3) L) (i4 : vp_in (y3 + 4) L) (i5 : vp_in (y3 + 5) L) (H : Heap) (locs : List Loc) (ls : Array Slot) (hP : va_P D vwCl ((List.range 31).flatMap (wB cs ad bd Ma Fo Sc Se Tr Ch Us Ta Dr G0 N0 G1 N1 G2 N2 G3 N3 Fo2 Sc2 Se2 Tr2 Fo3 Sc3 Se3 Tr3 M N)) H) (hD : va_D A ((List.range 31).flatMap (wB cs ad bd Ma Fo Sc Se Tr Ch Us Ta Dr G0 N0 G1 N1 G2 N2 G3 N3 Fo2 Sc2 Se2 Tr2 Fo3 Sc3 Se3 Tr3 M N))) (hS : va_S A s.heap H locs) (hl : lv_has ls 4 [(0, .ref b), (1, .ref (ad 0 0)), (2, .ref (bd 0 0)), (3, .int y3)])
    (hk : ∀ (Ma : ST) (Fo : ST) (Sc : ST) (Se : ST) (Tr : ST) (Ch : ST) (Us : ST) (Ta : ST) (Dr : ST) (G0 : ST) (N0 : LT) (G1 : ST) (N1 : LT) (G2 : ST) (N2 : LT) (G3 : ST) (N3 : LT) (Fo2 : ST) (Sc2 : ST) (Se2 : ST) (Tr2 : ST) (Fo3 : ST) (Sc3 : ST) (Se3 : ST) (Tr3 : ST) (M : ST) (N : LT), RR Ma Fo Sc Se Tr Ch Us Ta Dr G0 N0 G1 N1 G2 N2 G3 N3 Fo2 Sc2 Se2 Tr2 Fo3 Sc3 Se3 Tr3 M N → ∀ (H : Heap) (locs : List Loc), va_P D vwCl ((List.range 31).flatMap (wB cs ad bd Ma Fo Sc Se Tr Ch Us Ta Dr G0 N0 G1 N1 G2 N2 G3 N3 Fo2 Sc2 Se2 Tr2 Fo3 Sc3 Se3 Tr3 M N)) H → va_D A ((List.range 31).flatMap (wB cs ad bd Ma Fo Sc Se Tr Ch Us Ta Dr G0 N0 G1 N1 G2 N2 G3 N3 Fo2 Sc2 Se2 Tr2 Fo3 Sc3 Se3 Tr3 M N)) → va_S A s.heap H locs → W p l e room_1 s m #[Value.ref b] below meth c H locs 98 4085 Q (F0 m 1379 ls [])) : W p l e room_1 s m #[Value.ref b] below meth c H locs 98 4085 Q (F0 m 535 ls []) := by
  obtain ⟨hx, hb, hml, hown, hu, hK, hZ, hX, hbl, hbA, hA⟩ := LC0
  obtain ⟨r0, Maz, Mz, e1, e2, hR1⟩ := hp (xs (Int32.toNatClampNeg (y3 + 1))) Ma Fo Sc Se Tr Ch Us Ta Dr G0 N0 G1 N1 G2 N2 G3 N3 Fo2 Sc2 Se2 Tr2 Fo3 Sc3 Se3 Tr3 M N hR
  refine lv_aload_n hx hb dL_law_535 rfl (lv_at hl 1 rfl) ?_
  refine lv_aload_n hx hb dL_law_536 rfl (lv_at hl 0 rfl) ?_
  refine lv_iload_n hx hb dL_law_537 rfl (lv_at hl 3 rfl) ?_
  refine lv_iconst (v := 1) hx hb dL_law_538 (by decide) ?_
  refine lv_iadd hx hb dL_law_539 ?_
  refine va_sld hx hb hX hbl hbA hS i1 dL_law_540 ?_
  refine cl_VB (B' := (wB cs ad bd Maz Fo Sc Se Tr Ch Us Ta Dr G0 N0 G1 N1 G2 N2 G3 N3 Fo2 Sc2 Se2 Tr2 Fo3 Sc3 Se3 Tr3 M N)) (st1 := [.int r0]) [.int (xs (Int32.toNatClampNeg (y3 + 1)))] hx hb hml hown hu (tX7_may l D cs (ad 0) (ad 1) (ad 19) (ad 24) (ad 6) (ad 8) (ad 10) (ad 2) (ad 3) (ad 5) (ad 4) (xs (Int32.toNatClampNeg (y3 + 1))) Ma Fo Se r0 Maz e1) q516 q54 q513 q514 q515 pdX7_may ⟨Nat.le_of_ble_eq_true rfl, Nat.le_of_ble_eq_true rfl⟩ ⟨rfl, rfl, Nat.le_of_ble_eq_true rfl, Nat.le_of_ble_eq_true rfl⟩ (List.range 31) [0, 1, 2, 4] [3, 5, 6, 7, 8, 9, 10, 11, 12, 13, 14, 15, 16, 17, 18, 19, 20, 21, 22, 23, 24, 25, 26, 27, 28, 29, 30] hK hZ hP hD hS hA (by decide) rfl rfl rfl rfl rfl rfl hl.1 rfl (Nat.le_of_ble_eq_true rfl) dL_law_541 rfl (fun H locs hP hD hS => ?_)
  refine lv_aload_n hx hb dL_law_544 rfl (lv_at hl 2 rfl) ?_
  refine lv_aload_n hx hb dL_law_545 rfl (lv_at hl 0 rfl) ?_
  refine lv_iload_n hx hb dL_law_546 rfl (lv_at hl 3 rfl) ?_
  refine lv_iconst (v := 1) hx hb dL_law_547 (by decide) ?_
  refine lv_iadd hx hb dL_law_548 ?_
  refine va_sld hx hb hX hbl hbA hS i1 dL_law_549 ?_
  refine cl_VB (B' := (wB cs ad bd Maz Fo Sc Se Tr Ch Us Ta Dr G0 N0 G1 N1 G2 N2 G3 N3 Fo2 Sc2 Se2 Tr2 Fo3 Sc3 Se3 Tr3 Mz N)) (st1 := [.int r0, .int r0]) [.int (xs (Int32.toNatClampNeg (y3 + 1)))] hx hb hml hown hu (tX8_may l D cs (bd 0) (bd 1) (xs (Int32.toNatClampNeg (y3 + 1))) M r0 Mz e2) q1136 q62 q1133 q1134 q1135 pdX8_may ⟨Nat.le_of_ble_eq_true rfl, Nat.le_of_ble_eq_true rfl⟩ ⟨rfl, rfl, Nat.le_of_ble_eq_true rfl, Nat.le_of_ble_eq_true rfl⟩ (List.range 31) [29] [0, 1, 2, 3, 4, 5, 6, 7, 8, 9, 10, 11, 12, 13, 14, 15, 16, 17, 18, 19, 20, 21, 22, 23, 24, 25, 26, 27, 28, 30] hK hZ hP hD hS hA (by decide) rfl rfl rfl rfl rfl rfl hl.1 rfl (Nat.le_of_ble_eq_true rfl) dL_law_550 rfl (fun H locs hP hD hS => ?_)
  refine lv_icmp_eq (tgt := 1379) hx hb dL_law_553 (by decide) (fun _ => ?_) (fun hc => absurd rfl hc)
  exact hk Maz Fo Sc Se Tr Ch Us Ta Dr G0 N0 G1 N1 G2 N2 G3 N3 Fo2 Sc2 Se2 Tr2 Fo3 Sc3 Se3 Tr3 Mz N hR1 _ _ hP hD hS
