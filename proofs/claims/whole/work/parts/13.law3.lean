set_option maxRecDepth 100000 in
set_option maxHeartbeats 4000000 in
theorem lw_c20 {p : Program} {l : Launch} {e : Env} {s : State} {m : MethodId} {below : List Frame} {meth : Method} {c : Code} {Q : State → Prop} {D : va_G} {cs : Nat → ClassId} {A : Nat → Prop} {b L : Nat} {xs : Nat → Int32} {ad bd : Nat → Nat → Nat} {RR : RT} (hp : P_but RR) (LC0 : LC p s m c b L xs D cs A) (Ma : ST) (Fo : ST) (Sc : ST) (Se : ST) (Tr : ST) (Ch : ST) (Us : ST) (Ta : ST) (Dr : ST) (G0 : ST) (N0 : LT) (G1 : ST) (N1 : LT) (G2 : ST) (N2 : LT) (G3 : ST) (N3 : LT) (Fo2 : ST) (Sc2 : ST) (Se2 : ST) (Tr2 : ST) (Fo3 : ST) (Sc3 : ST) (Se3 : ST) (Tr3 : ST) (M : ST) (N : LT) (hR : RR Ma Fo Sc Se Tr Ch Us Ta Dr G0 N0 G1 N1 G2 N2 G3 N3 Fo2 Sc2 Se2 Tr2 Fo3 Sc3 Se3 Tr3 M N) (y3 : Int32) (i1 : vp_in (y3 + 1) L) (i2 : vp_in (y3 + 2) L) (i3 : vp_in (y3 + 3) L) (i4 : vp_in (y3 + 4) L) (i5 : vp_in (y3 + 5) L) (H : Heap) (locs : List Loc) (ls : Array Slot) (hP : va_P D vwCl ((List.range 31).flatMap (wB cs ad bd Ma Fo Sc Se Tr Ch Us Ta Dr G0 N0 G1 N1 G2 N2 G3 N3 Fo2 Sc2 Se2 Tr2 Fo3 Sc3 Se3 Tr3 M N)) H) (hD : va_D A ((List.range 31).flatMap (wB cs ad bd Ma Fo Sc Se Tr Ch Us Ta Dr G0 N0 G1 N1 G2 N2 G3 N3 Fo2 Sc2 Se2 Tr2 Fo3 Sc3 Se3 Tr3 M N))) (hS : va_S A s.heap H locs) (hl : lv_has ls 4 [(0, .ref b), (1, .ref (ad 0 0)), (2, .ref (bd 0 0)), (3, .int y3)])
    (hk : ∀ (Ma : ST) (Fo : ST) (Sc : ST) (Se : ST) (Tr : ST) (Ch : ST) (Us : ST) (Ta : ST) (Dr : ST) (G0 : ST) (N0 : LT) (G1 : ST) (N1 : LT) (G2 : ST) (N2 : LT) (G3 : ST) (N3 : LT) (Fo2 : ST) (Sc2 : ST) (Se2 : ST) (Tr2 : ST) (Fo3 : ST) (Sc3 : ST) (Se3 : ST) (Tr3 : ST) (M : ST) (N : LT), RR Ma Fo Sc Se Tr Ch Us Ta Dr G0 N0 G1 N1 G2 N2 G3 N3 Fo2 Sc2 Se2 Tr2 Fo3 Sc3 Se3 Tr3 M N → ∀ (H : Heap) (locs : List Loc), va_P D vwCl ((List.range 31).flatMap (wB cs ad bd Ma Fo Sc Se Tr Ch Us Ta Dr G0 N0 G1 N1 G2 N2 G3 N3 Fo2 Sc2 Se2 Tr2 Fo3 Sc3 Se3 Tr3 M N)) H → va_D A ((List.range 31).flatMap (wB cs ad bd Ma Fo Sc Se Tr Ch Us Ta Dr G0 N0 G1 N1 G2 N2 G3 N3 Fo2 Sc2 Se2 Tr2 Fo3 Sc3 Se3 Tr3 M N)) → va_S A s.heap H locs → W p l e room_1 s m #[Value.ref b] below meth c H locs 98 4085 Q (F0 m 1379 ls [])) : W p l e room_1 s m #[Value.ref b] below meth c H locs 98 4085 Q (F0 m 798 ls []) := by
  obtain ⟨hx, hb, hml, hown, hu, hK, hZ, hX, hbl, hbA, hA⟩ := LC0
  obtain ⟨r0, Maz, Scz, Trz, Chz, Usz, Mz, e1, e2, hR1⟩ := hp (xs (Int32.toNatClampNeg (y3 + 1))) (xs (Int32.toNatClampNeg (y3 + 2))) (xs (Int32.toNatClampNeg (y3 + 3))) Ma Fo Sc Se Tr Ch Us Ta Dr G0 N0 G1 N1 G2 N2 G3 N3 Fo2 Sc2 Se2 Tr2 Fo3 Sc3 Se3 Tr3 M N hR
  refine lv_aload_n hx hb dL_law_798 rfl (lv_at hl 1 rfl) ?_
  refine lv_aload_n hx hb dL_law_799 rfl (lv_at hl 0 rfl) ?_
  refine lv_iload_n hx hb dL_law_800 rfl (lv_at hl 3 rfl) ?_
  refine lv_iconst (v := 1) hx hb dL_law_801 (by decide) ?_
  refine lv_iadd hx hb dL_law_802 ?_
  refine va_sld hx hb hX hbl hbA hS i1 dL_law_803 ?_
  refine lv_aload_n hx hb dL_law_804 rfl (lv_at hl 0 rfl) ?_
  refine lv_iload_n hx hb dL_law_805 rfl (lv_at hl 3 rfl) ?_
  refine lv_iconst (v := 2) hx hb dL_law_806 (by decide) ?_
  refine lv_iadd hx hb dL_law_807 ?_
  refine va_sld hx hb hX hbl hbA hS i2 dL_law_808 ?_
  refine lv_aload_n hx hb dL_law_809 rfl (lv_at hl 0 rfl) ?_
  refine lv_iload_n hx hb dL_law_810 rfl (lv_at hl 3 rfl) ?_
  refine lv_iconst (v := 3) hx hb dL_law_811 (by decide) ?_
  refine lv_iadd hx hb dL_law_812 ?_
  refine va_sld hx hb hX hbl hbA hS i3 dL_law_813 ?_
  refine cl_VB (B' := (wB cs ad bd Maz Fo Scz Se Trz Chz Usz Ta Dr G0 N0 G1 N1 G2 N2 G3 N3 Fo2 Sc2 Se2 Tr2 Fo3 Sc3 Se3 Tr3 M N)) (st1 := [.int r0]) [.int (xs (Int32.toNatClampNeg (y3 + 1))), .int (xs (Int32.toNatClampNeg (y3 + 2))), .int (xs (Int32.toNatClampNeg (y3 + 3)))] hx hb hml hown hu (tX7_but l D cs (ad 0) (ad 1) (ad 19) (ad 24) (ad 6) (ad 8) (ad 10) (ad 2) (ad 3) (ad 5) (ad 4) (ad 7) (xs (Int32.toNatClampNeg (y3 + 1))) (xs (Int32.toNatClampNeg (y3 + 2))) (xs (Int32.toNatClampNeg (y3 + 3))) Ma Fo Sc Se Tr Ch Us r0 Maz Scz Trz Chz Usz e1) q617 q54 q614 q615 q616 pdX7_but ⟨Nat.le_of_ble_eq_true rfl, Nat.le_of_ble_eq_true rfl⟩ ⟨rfl, rfl, Nat.le_of_ble_eq_true rfl, Nat.le_of_ble_eq_true rfl⟩ (List.range 31) [0, 1, 2, 3, 4, 5, 6, 7] [8, 9, 10, 11, 12, 13, 14, 15, 16, 17, 18, 19, 20, 21, 22, 23, 24, 25, 26, 27, 28, 29, 30] hK hZ hP hD hS hA (by decide) rfl rfl rfl rfl rfl rfl hl.1 rfl (Nat.le_of_ble_eq_true rfl) dL_law_814 rfl (fun H locs hP hD hS => ?_)
  refine lv_aload_n hx hb dL_law_817 rfl (lv_at hl 2 rfl) ?_
  refine lv_aload_n hx hb dL_law_818 rfl (lv_at hl 0 rfl) ?_
  refine lv_iload_n hx hb dL_law_819 rfl (lv_at hl 3 rfl) ?_
  refine lv_iconst (v := 1) hx hb dL_law_820 (by decide) ?_
  refine lv_iadd hx hb dL_law_821 ?_
  refine va_sld hx hb hX hbl hbA hS i1 dL_law_822 ?_
  refine lv_aload_n hx hb dL_law_823 rfl (lv_at hl 0 rfl) ?_
  refine lv_iload_n hx hb dL_law_824 rfl (lv_at hl 3 rfl) ?_
  refine lv_iconst (v := 2) hx hb dL_law_825 (by decide) ?_
  refine lv_iadd hx hb dL_law_826 ?_
  refine va_sld hx hb hX hbl hbA hS i2 dL_law_827 ?_
  refine lv_aload_n hx hb dL_law_828 rfl (lv_at hl 0 rfl) ?_
  refine lv_iload_n hx hb dL_law_829 rfl (lv_at hl 3 rfl) ?_
  refine lv_iconst (v := 3) hx hb dL_law_830 (by decide) ?_
  refine lv_iadd hx hb dL_law_831 ?_
  refine va_sld hx hb hX hbl hbA hS i3 dL_law_832 ?_
  refine cl_VB (B' := (wB cs ad bd Maz Fo Scz Se Trz Chz Usz Ta Dr G0 N0 G1 N1 G2 N2 G3 N3 Fo2 Sc2 Se2 Tr2 Fo3 Sc3 Se3 Tr3 Mz N)) (st1 := [.int r0, .int r0]) [.int (xs (Int32.toNatClampNeg (y3 + 1))), .int (xs (Int32.toNatClampNeg (y3 + 2))), .int (xs (Int32.toNatClampNeg (y3 + 3)))] hx hb hml hown hu (tX8_but l D cs (bd 0) (bd 1) (xs (Int32.toNatClampNeg (y3 + 1))) (xs (Int32.toNatClampNeg (y3 + 2))) (xs (Int32.toNatClampNeg (y3 + 3))) M r0 Mz e2) q1215 q62 q1212 q1213 q1214 pdX8_but ⟨Nat.le_of_ble_eq_true rfl, Nat.le_of_ble_eq_true rfl⟩ ⟨rfl, rfl, Nat.le_of_ble_eq_true rfl, Nat.le_of_ble_eq_true rfl⟩ (List.range 31) [29] [0, 1, 2, 3, 4, 5, 6, 7, 8, 9, 10, 11, 12, 13, 14, 15, 16, 17, 18, 19, 20, 21, 22, 23, 24, 25, 26, 27, 28, 30] hK hZ hP hD hS hA (by decide) rfl rfl rfl rfl rfl rfl hl.1 rfl (Nat.le_of_ble_eq_true rfl) dL_law_833 rfl (fun H locs hP hD hS => ?_)
  refine lv_icmp_eq (tgt := 1379) hx hb dL_law_836 (by decide) (fun _ => ?_) (fun hc => absurd rfl hc)
  exact hk Maz Fo Scz Se Trz Chz Usz Ta Dr G0 N0 G1 N1 G2 N2 G3 N3 Fo2 Sc2 Se2 Tr2 Fo3 Sc3 Se3 Tr3 Mz N hR1 _ _ hP hD hS

set_option maxRecDepth 100000 in
set_option maxHeartbeats 4000000 in
theorem lw_c21 {p : Program} {l : Launch} {e : Env} {s : State} {m : MethodId} {below : List Frame} {meth : Method} {c : Code} {Q : State → Prop} {D : va_G} {cs : Nat → ClassId} {A : Nat → Prop} {b L : Nat} {xs : Nat → Int32} {ad bd : Nat → Nat → Nat} {RR : RT} (hp : P_vote RR) (LC0 : LC p s m c b L xs D cs A) (Ma : ST) (Fo : ST) (Sc : ST) (Se : ST) (Tr : ST) (Ch : ST) (Us : ST) (Ta : ST) (Dr : ST) (G0 : ST) (N0 : LT) (G1 : ST) (N1 : LT) (G2 : ST) (N2 : LT) (G3 : ST) (N3 : LT) (Fo2 : ST) (Sc2 : ST) (Se2 : ST) (Tr2 : ST) (Fo3 : ST) (Sc3 : ST) (Se3 : ST) (Tr3 : ST) (M : ST) (N : LT) (hR : RR Ma Fo Sc Se Tr Ch Us Ta Dr G0 N0 G1 N1 G2 N2 G3 N3 Fo2 Sc2 Se2 Tr2 Fo3 Sc3 Se3 Tr3 M N) (y3 : Int32) (i1 : vp_in (y3 + 1) L) (i2 : vp_in (y3 + 2) L) (i3 : vp_in (y3 + 3) L) (i4 : vp_in (y3 + 4) L) (i5 : vp_in (y3 + 5) L) (H : Heap) (locs : List Loc) (ls : Array Slot) (hP : va_P D vwCl ((List.range 31).flatMap (wB cs ad bd Ma Fo Sc Se Tr Ch Us Ta Dr G0 N0 G1 N1 G2 N2 G3 N3 Fo2 Sc2 Se2 Tr2 Fo3 Sc3 Se3 Tr3 M N)) H) (hD : va_D A ((List.range 31).flatMap (wB cs ad bd Ma Fo Sc Se Tr Ch Us Ta Dr G0 N0 G1 N1 G2 N2 G3 N3 Fo2 Sc2 Se2 Tr2 Fo3 Sc3 Se3 Tr3 M N))) (hS : va_S A s.heap H locs) (hl : lv_has ls 4 [(0, .ref b), (1, .ref (ad 0 0)), (2, .ref (bd 0 0)), (3, .int y3)])
    (hk : ∀ (Ma : ST) (Fo : ST) (Sc : ST) (Se : ST) (Tr : ST) (Ch : ST) (Us : ST) (Ta : ST) (Dr : ST) (G0 : ST) (N0 : LT) (G1 : ST) (N1 : LT) (G2 : ST) (N2 : LT) (G3 : ST) (N3 : LT) (Fo2 : ST) (Sc2 : ST) (Se2 : ST) (Tr2 : ST) (Fo3 : ST) (Sc3 : ST) (Se3 : ST) (Tr3 : ST) (M : ST) (N : LT), RR Ma Fo Sc Se Tr Ch Us Ta Dr G0 N0 G1 N1 G2 N2 G3 N3 Fo2 Sc2 Se2 Tr2 Fo3 Sc3 Se3 Tr3 M N → ∀ (H : Heap) (locs : List Loc), va_P D vwCl ((List.range 31).flatMap (wB cs ad bd Ma Fo Sc Se Tr Ch Us Ta Dr G0 N0 G1 N1 G2 N2 G3 N3 Fo2 Sc2 Se2 Tr2 Fo3 Sc3 Se3 Tr3 M N)) H → va_D A ((List.range 31).flatMap (wB cs ad bd Ma Fo Sc Se Tr Ch Us Ta Dr G0 N0 G1 N1 G2 N2 G3 N3 Fo2 Sc2 Se2 Tr2 Fo3 Sc3 Se3 Tr3 M N)) → va_S A s.heap H locs → W p l e room_1 s m #[Value.ref b] below meth c H locs 98 4085 Q (F0 m 1379 ls [])) : W p l e room_1 s m #[Value.ref b] below meth c H locs 98 4085 Q (F0 m 841 ls []) := by
  obtain ⟨hx, hb, hml, hown, hu, hK, hZ, hX, hbl, hbA, hA⟩ := LC0
  obtain ⟨r0, Maz, Mz, e1, e2, hR1⟩ := hp Ma Fo Sc Se Tr Ch Us Ta Dr G0 N0 G1 N1 G2 N2 G3 N3 Fo2 Sc2 Se2 Tr2 Fo3 Sc3 Se3 Tr3 M N hR
  refine lv_aload_n hx hb dL_law_841 rfl (lv_at hl 1 rfl) ?_
  refine cl_VB (B' := (wB cs ad bd Maz Fo Sc Se Tr Ch Us Ta Dr G0 N0 G1 N1 G2 N2 G3 N3 Fo2 Sc2 Se2 Tr2 Fo3 Sc3 Se3 Tr3 M N)) (st1 := [.int r0]) [] hx hb hml hown hu (tX7_vote l D cs (ad 0) (ad 1) (ad 19) (ad 24) (ad 6) (ad 8) (ad 10) (ad 2) (ad 3) (ad 5) (ad 4) Ma Fo r0 Maz e1) q621 q54 q618 q619 q620 pdX7_vote ⟨Nat.le_of_ble_eq_true rfl, Nat.le_of_ble_eq_true rfl⟩ ⟨rfl, rfl, Nat.le_of_ble_eq_true rfl, Nat.le_of_ble_eq_true rfl⟩ (List.range 31) [0, 1, 2] [3, 4, 5, 6, 7, 8, 9, 10, 11, 12, 13, 14, 15, 16, 17, 18, 19, 20, 21, 22, 23, 24, 25, 26, 27, 28, 29, 30] hK hZ hP hD hS hA (by decide) rfl rfl rfl rfl rfl rfl hl.1 rfl (Nat.le_of_ble_eq_true rfl) dL_law_842 rfl (fun H locs hP hD hS => ?_)
  refine lv_aload_n hx hb dL_law_845 rfl (lv_at hl 2 rfl) ?_
  refine cl_VB (B' := (wB cs ad bd Maz Fo Sc Se Tr Ch Us Ta Dr G0 N0 G1 N1 G2 N2 G3 N3 Fo2 Sc2 Se2 Tr2 Fo3 Sc3 Se3 Tr3 Mz N)) (st1 := [.int r0, .int r0]) [] hx hb hml hown hu (tX8_vote l D cs (bd 0) (bd 1) M r0 Mz e2) q1219 q62 q1216 q1217 q1218 pdX8_vote ⟨Nat.le_of_ble_eq_true rfl, Nat.le_of_ble_eq_true rfl⟩ ⟨rfl, rfl, Nat.le_of_ble_eq_true rfl, Nat.le_of_ble_eq_true rfl⟩ (List.range 31) [29] [0, 1, 2, 3, 4, 5, 6, 7, 8, 9, 10, 11, 12, 13, 14, 15, 16, 17, 18, 19, 20, 21, 22, 23, 24, 25, 26, 27, 28, 30] hK hZ hP hD hS hA (by decide) rfl rfl rfl rfl rfl rfl hl.1 rfl (Nat.le_of_ble_eq_true rfl) dL_law_846 rfl (fun H locs hP hD hS => ?_)
  refine lv_icmp_eq (tgt := 1379) hx hb dL_law_849 (by decide) (fun _ => ?_) (fun hc => absurd rfl hc)
  exact hk Maz Fo Sc Se Tr Ch Us Ta Dr G0 N0 G1 N1 G2 N2 G3 N3 Fo2 Sc2 Se2 Tr2 Fo3 Sc3 Se3 Tr3 Mz N hR1 _ _ hP hD hS

set_option maxRecDepth 100000 in
set_option maxHeartbeats 4000000 in
theorem lw_c22 {p : Program} {l : Launch} {e : Env} {s : State} {m : MethodId} {below : List Frame} {meth : Method} {c : Code} {Q : State → Prop} {D : va_G} {cs : Nat → ClassId} {A : Nat → Prop} {b L : Nat} {xs : Nat → Int32} {ad bd : Nat → Nat → Nat} {RR : RT} (hp : P_kept RR) (LC0 : LC p s m c b L xs D cs A) (Ma : ST) (Fo : ST) (Sc : ST) (Se : ST) (Tr : ST) (Ch : ST) (Us : ST) (Ta : ST) (Dr : ST) (G0 : ST) (N0 : LT) (G1 : ST) (N1 : LT) (G2 : ST) (N2 : LT) (G3 : ST) (N3 : LT) (Fo2 : ST) (Sc2 : ST) (Se2 : ST) (Tr2 : ST) (Fo3 : ST) (Sc3 : ST) (Se3 : ST) (Tr3 : ST) (M : ST) (N : LT) (hR : RR Ma Fo Sc Se Tr Ch Us Ta Dr G0 N0 G1 N1 G2 N2 G3 N3 Fo2 Sc2 Se2 Tr2 Fo3 Sc3 Se3 Tr3 M N) (y3 : Int32) (i1 : vp_in (y3 + 1) L) (i2 : vp_in (y3 + 2) L) (i3 : vp_in (y3 + 3) L) (i4 : vp_in (y3 + 4) L) (i5 : vp_in (y3 + 5) L) (H : Heap) (locs : List Loc) (ls : Array Slot) (hP : va_P D vwCl ((List.range 31).flatMap (wB cs ad bd Ma Fo Sc Se Tr Ch Us Ta Dr G0 N0 G1 N1 G2 N2 G3 N3 Fo2 Sc2 Se2 Tr2 Fo3 Sc3 Se3 Tr3 M N)) H) (hD : va_D A ((List.range 31).flatMap (wB cs ad bd Ma Fo Sc Se Tr Ch Us Ta Dr G0 N0 G1 N1 G2 N2 G3 N3 Fo2 Sc2 Se2 Tr2 Fo3 Sc3 Se3 Tr3 M N))) (hS : va_S A s.heap H locs) (hl : lv_has ls 4 [(0, .ref b), (1, .ref (ad 0 0)), (2, .ref (bd 0 0)), (3, .int y3)])
    (hk : ∀ (Ma : ST) (Fo : ST) (Sc : ST) (Se : ST) (Tr : ST) (Ch : ST) (Us : ST) (Ta : ST) (Dr : ST) (G0 : ST) (N0 : LT) (G1 : ST) (N1 : LT) (G2 : ST) (N2 : LT) (G3 : ST) (N3 : LT) (Fo2 : ST) (Sc2 : ST) (Se2 : ST) (Tr2 : ST) (Fo3 : ST) (Sc3 : ST) (Se3 : ST) (Tr3 : ST) (M : ST) (N : LT), RR Ma Fo Sc Se Tr Ch Us Ta Dr G0 N0 G1 N1 G2 N2 G3 N3 Fo2 Sc2 Se2 Tr2 Fo3 Sc3 Se3 Tr3 M N → ∀ (H : Heap) (locs : List Loc), va_P D vwCl ((List.range 31).flatMap (wB cs ad bd Ma Fo Sc Se Tr Ch Us Ta Dr G0 N0 G1 N1 G2 N2 G3 N3 Fo2 Sc2 Se2 Tr2 Fo3 Sc3 Se3 Tr3 M N)) H → va_D A ((List.range 31).flatMap (wB cs ad bd Ma Fo Sc Se Tr Ch Us Ta Dr G0 N0 G1 N1 G2 N2 G3 N3 Fo2 Sc2 Se2 Tr2 Fo3 Sc3 Se3 Tr3 M N)) → va_S A s.heap H locs → W p l e room_1 s m #[Value.ref b] below meth c H locs 98 4085 Q (F0 m 1379 ls [])) : W p l e room_1 s m #[Value.ref b] below meth c H locs 98 4085 Q (F0 m 854 ls []) := by
  obtain ⟨hx, hb, hml, hown, hu, hK, hZ, hX, hbl, hbA, hA⟩ := LC0
  obtain ⟨r0, Maz, Scz, Trz, Chz, Usz, Mz, e1, e2, hR1⟩ := hp (xs (Int32.toNatClampNeg (y3 + 1))) (xs (Int32.toNatClampNeg (y3 + 2))) (xs (Int32.toNatClampNeg (y3 + 3))) Ma Fo Sc Se Tr Ch Us Ta Dr G0 N0 G1 N1 G2 N2 G3 N3 Fo2 Sc2 Se2 Tr2 Fo3 Sc3 Se3 Tr3 M N hR
  refine lv_aload_n hx hb dL_law_854 rfl (lv_at hl 1 rfl) ?_
  refine lv_aload_n hx hb dL_law_855 rfl (lv_at hl 0 rfl) ?_
  refine lv_iload_n hx hb dL_law_856 rfl (lv_at hl 3 rfl) ?_
  refine lv_iconst (v := 1) hx hb dL_law_857 (by decide) ?_
  refine lv_iadd hx hb dL_law_858 ?_
  refine va_sld hx hb hX hbl hbA hS i1 dL_law_859 ?_
  refine lv_aload_n hx hb dL_law_860 rfl (lv_at hl 0 rfl) ?_
  refine lv_iload_n hx hb dL_law_861 rfl (lv_at hl 3 rfl) ?_
  refine lv_iconst (v := 2) hx hb dL_law_862 (by decide) ?_
  refine lv_iadd hx hb dL_law_863 ?_
  refine va_sld hx hb hX hbl hbA hS i2 dL_law_864 ?_
  refine lv_aload_n hx hb dL_law_865 rfl (lv_at hl 0 rfl) ?_
  refine lv_iload_n hx hb dL_law_866 rfl (lv_at hl 3 rfl) ?_
  refine lv_iconst (v := 3) hx hb dL_law_867 (by decide) ?_
  refine lv_iadd hx hb dL_law_868 ?_
  refine va_sld hx hb hX hbl hbA hS i3 dL_law_869 ?_
  refine cl_VB (B' := (wB cs ad bd Maz Fo Scz Se Trz Chz Usz Ta Dr G0 N0 G1 N1 G2 N2 G3 N3 Fo2 Sc2 Se2 Tr2 Fo3 Sc3 Se3 Tr3 M N)) (st1 := [.int r0]) [.int (xs (Int32.toNatClampNeg (y3 + 1))), .int (xs (Int32.toNatClampNeg (y3 + 2))), .int (xs (Int32.toNatClampNeg (y3 + 3)))] hx hb hml hown hu (tX7_kept l D cs (ad 0) (ad 1) (ad 19) (ad 24) (ad 6) (ad 8) (ad 10) (ad 2) (ad 3) (ad 5) (ad 4) (ad 7) (xs (Int32.toNatClampNeg (y3 + 1))) (xs (Int32.toNatClampNeg (y3 + 2))) (xs (Int32.toNatClampNeg (y3 + 3))) Ma Fo Sc Se Tr Ch Us r0 Maz Scz Trz Chz Usz e1) q629 q54 q626 q627 q628 pdX7_kept ⟨Nat.le_of_ble_eq_true rfl, Nat.le_of_ble_eq_true rfl⟩ ⟨rfl, rfl, Nat.le_of_ble_eq_true rfl, Nat.le_of_ble_eq_true rfl⟩ (List.range 31) [0, 1, 2, 3, 4, 5, 6, 7] [8, 9, 10, 11, 12, 13, 14, 15, 16, 17, 18, 19, 20, 21, 22, 23, 24, 25, 26, 27, 28, 29, 30] hK hZ hP hD hS hA (by decide) rfl rfl rfl rfl rfl rfl hl.1 rfl (Nat.le_of_ble_eq_true rfl) dL_law_870 rfl (fun H locs hP hD hS => ?_)
  refine lv_aload_n hx hb dL_law_873 rfl (lv_at hl 2 rfl) ?_
  refine lv_aload_n hx hb dL_law_874 rfl (lv_at hl 0 rfl) ?_
  refine lv_iload_n hx hb dL_law_875 rfl (lv_at hl 3 rfl) ?_
  refine lv_iconst (v := 1) hx hb dL_law_876 (by decide) ?_
  refine lv_iadd hx hb dL_law_877 ?_
  refine va_sld hx hb hX hbl hbA hS i1 dL_law_878 ?_
  refine lv_aload_n hx hb dL_law_879 rfl (lv_at hl 0 rfl) ?_
  refine lv_iload_n hx hb dL_law_880 rfl (lv_at hl 3 rfl) ?_
  refine lv_iconst (v := 2) hx hb dL_law_881 (by decide) ?_
  refine lv_iadd hx hb dL_law_882 ?_
  refine va_sld hx hb hX hbl hbA hS i2 dL_law_883 ?_
  refine lv_aload_n hx hb dL_law_884 rfl (lv_at hl 0 rfl) ?_
  refine lv_iload_n hx hb dL_law_885 rfl (lv_at hl 3 rfl) ?_
  refine lv_iconst (v := 3) hx hb dL_law_886 (by decide) ?_
  refine lv_iadd hx hb dL_law_887 ?_
  refine va_sld hx hb hX hbl hbA hS i3 dL_law_888 ?_
  refine cl_VB (B' := (wB cs ad bd Maz Fo Scz Se Trz Chz Usz Ta Dr G0 N0 G1 N1 G2 N2 G3 N3 Fo2 Sc2 Se2 Tr2 Fo3 Sc3 Se3 Tr3 Mz N)) (st1 := [.int r0, .int r0]) [.int (xs (Int32.toNatClampNeg (y3 + 1))), .int (xs (Int32.toNatClampNeg (y3 + 2))), .int (xs (Int32.toNatClampNeg (y3 + 3)))] hx hb hml hown hu (tX8_kept l D cs (bd 0) (bd 1) (xs (Int32.toNatClampNeg (y3 + 1))) (xs (Int32.toNatClampNeg (y3 + 2))) (xs (Int32.toNatClampNeg (y3 + 3))) M r0 Mz e2) q1223 q62 q1220 q1221 q1222 pdX8_kept ⟨Nat.le_of_ble_eq_true rfl, Nat.le_of_ble_eq_true rfl⟩ ⟨rfl, rfl, Nat.le_of_ble_eq_true rfl, Nat.le_of_ble_eq_true rfl⟩ (List.range 31) [29] [0, 1, 2, 3, 4, 5, 6, 7, 8, 9, 10, 11, 12, 13, 14, 15, 16, 17, 18, 19, 20, 21, 22, 23, 24, 25, 26, 27, 28, 30] hK hZ hP hD hS hA (by decide) rfl rfl rfl rfl rfl rfl hl.1 rfl (Nat.le_of_ble_eq_true rfl) dL_law_889 rfl (fun H locs hP hD hS => ?_)
  refine lv_icmp_eq (tgt := 1379) hx hb dL_law_892 (by decide) (fun _ => ?_) (fun hc => absurd rfl hc)
  exact hk Maz Fo Scz Se Trz Chz Usz Ta Dr G0 N0 G1 N1 G2 N2 G3 N3 Fo2 Sc2 Se2 Tr2 Fo3 Sc3 Se3 Tr3 Mz N hR1 _ _ hP hD hS

set_option maxRecDepth 100000 in
set_option maxHeartbeats 4000000 in
theorem lw_c23 {p : Program} {l : Launch} {e : Env} {s : State} {m : MethodId} {below : List Frame} {meth : Method} {c : Code} {Q : State → Prop} {D : va_G} {cs : Nat → ClassId} {A : Nat → Prop} {b L : Nat} {xs : Nat → Int32} {ad bd : Nat → Nat → Nat} {RR : RT} (hp : P_pact RR) (LC0 : LC p s m c b L xs D cs A) (Ma : ST) (Fo : ST) (Sc : ST) (Se : ST) (Tr : ST) (Ch : ST) (Us : ST) (Ta : ST) (Dr : ST) (G0 : ST) (N0 : LT) (G1 : ST) (N1 : LT) (G2 : ST) (N2 : LT) (G3 : ST) (N3 : LT) (Fo2 : ST) (Sc2 : ST) (Se2 : ST) (Tr2 : ST) (Fo3 : ST) (Sc3 : ST) (Se3 : ST) (Tr3 : ST) (M : ST) (N : LT) (hR : RR Ma Fo Sc Se Tr Ch Us Ta Dr G0 N0 G1 N1 G2 N2 G3 N3 Fo2 Sc2 Se2 Tr2 Fo3 Sc3 Se3 Tr3 M N) (y3 : Int32) (i1 : vp_in (y3 + 1) L) (i2 : vp_in (y3 + 2) L) (i3 : vp_in (y3 + 3) L) (i4 : vp_in (y3 + 4) L) (i5 : vp_in (y3 + 5) L) (H : Heap) (locs : List Loc) (ls : Array Slot) (hP : va_P D vwCl ((List.range 31).flatMap (wB cs ad bd Ma Fo Sc Se Tr Ch Us Ta Dr G0 N0 G1 N1 G2 N2 G3 N3 Fo2 Sc2 Se2 Tr2 Fo3 Sc3 Se3 Tr3 M N)) H) (hD : va_D A ((List.range 31).flatMap (wB cs ad bd Ma Fo Sc Se Tr Ch Us Ta Dr G0 N0 G1 N1 G2 N2 G3 N3 Fo2 Sc2 Se2 Tr2 Fo3 Sc3 Se3 Tr3 M N))) (hS : va_S A s.heap H locs) (hl : lv_has ls 4 [(0, .ref b), (1, .ref (ad 0 0)), (2, .ref (bd 0 0)), (3, .int y3)])
    (hk : ∀ (Ma : ST) (Fo : ST) (Sc : ST) (Se : ST) (Tr : ST) (Ch : ST) (Us : ST) (Ta : ST) (Dr : ST) (G0 : ST) (N0 : LT) (G1 : ST) (N1 : LT) (G2 : ST) (N2 : LT) (G3 : ST) (N3 : LT) (Fo2 : ST) (Sc2 : ST) (Se2 : ST) (Tr2 : ST) (Fo3 : ST) (Sc3 : ST) (Se3 : ST) (Tr3 : ST) (M : ST) (N : LT), RR Ma Fo Sc Se Tr Ch Us Ta Dr G0 N0 G1 N1 G2 N2 G3 N3 Fo2 Sc2 Se2 Tr2 Fo3 Sc3 Se3 Tr3 M N → ∀ (H : Heap) (locs : List Loc), va_P D vwCl ((List.range 31).flatMap (wB cs ad bd Ma Fo Sc Se Tr Ch Us Ta Dr G0 N0 G1 N1 G2 N2 G3 N3 Fo2 Sc2 Se2 Tr2 Fo3 Sc3 Se3 Tr3 M N)) H → va_D A ((List.range 31).flatMap (wB cs ad bd Ma Fo Sc Se Tr Ch Us Ta Dr G0 N0 G1 N1 G2 N2 G3 N3 Fo2 Sc2 Se2 Tr2 Fo3 Sc3 Se3 Tr3 M N)) → va_S A s.heap H locs → W p l e room_1 s m #[Value.ref b] below meth c H locs 98 4085 Q (F0 m 1379 ls [])) : W p l e room_1 s m #[Value.ref b] below meth c H locs 98 4085 Q (F0 m 897 ls []) := by
  obtain ⟨hx, hb, hml, hown, hu, hK, hZ, hX, hbl, hbA, hA⟩ := LC0
  obtain ⟨r0, Maz, Scz, Trz, Chz, Usz, Mz, e1, e2, hR1⟩ := hp (xs (Int32.toNatClampNeg (y3 + 1))) Ma Fo Sc Se Tr Ch Us Ta Dr G0 N0 G1 N1 G2 N2 G3 N3 Fo2 Sc2 Se2 Tr2 Fo3 Sc3 Se3 Tr3 M N hR
  refine lv_aload_n hx hb dL_law_897 rfl (lv_at hl 1 rfl) ?_
  refine lv_aload_n hx hb dL_law_898 rfl (lv_at hl 0 rfl) ?_
  refine lv_iload_n hx hb dL_law_899 rfl (lv_at hl 3 rfl) ?_
  refine lv_iconst (v := 1) hx hb dL_law_900 (by decide) ?_
  refine lv_iadd hx hb dL_law_901 ?_
  refine va_sld hx hb hX hbl hbA hS i1 dL_law_902 ?_
  refine cl_VB (B' := (wB cs ad bd Maz Fo Scz Se Trz Chz Usz Ta Dr G0 N0 G1 N1 G2 N2 G3 N3 Fo2 Sc2 Se2 Tr2 Fo3 Sc3 Se3 Tr3 M N)) (st1 := [.int r0]) [.int (xs (Int32.toNatClampNeg (y3 + 1)))] hx hb hml hown hu (tX7_pact l D cs (ad 0) (ad 1) (ad 19) (ad 24) (ad 6) (ad 8) (ad 10) (ad 2) (ad 3) (ad 5) (ad 4) (ad 7) (xs (Int32.toNatClampNeg (y3 + 1))) Ma Fo Sc Se Tr Ch Us r0 Maz Scz Trz Chz Usz e1) q643 q54 q640 q641 q642 pdX7_pact ⟨Nat.le_of_ble_eq_true rfl, Nat.le_of_ble_eq_true rfl⟩ ⟨rfl, rfl, Nat.le_of_ble_eq_true rfl, Nat.le_of_ble_eq_true rfl⟩ (List.range 31) [0, 1, 2, 3, 4, 5, 6, 7] [8, 9, 10, 11, 12, 13, 14, 15, 16, 17, 18, 19, 20, 21, 22, 23, 24, 25, 26, 27, 28, 29, 30] hK hZ hP hD hS hA (by decide) rfl rfl rfl rfl rfl rfl hl.1 rfl (Nat.le_of_ble_eq_true rfl) dL_law_903 rfl (fun H locs hP hD hS => ?_)
  refine lv_aload_n hx hb dL_law_906 rfl (lv_at hl 2 rfl) ?_
  refine lv_aload_n hx hb dL_law_907 rfl (lv_at hl 0 rfl) ?_
  refine lv_iload_n hx hb dL_law_908 rfl (lv_at hl 3 rfl) ?_
  refine lv_iconst (v := 1) hx hb dL_law_909 (by decide) ?_
  refine lv_iadd hx hb dL_law_910 ?_
  refine va_sld hx hb hX hbl hbA hS i1 dL_law_911 ?_
  refine cl_VB (B' := (wB cs ad bd Maz Fo Scz Se Trz Chz Usz Ta Dr G0 N0 G1 N1 G2 N2 G3 N3 Fo2 Sc2 Se2 Tr2 Fo3 Sc3 Se3 Tr3 Mz N)) (st1 := [.int r0, .int r0]) [.int (xs (Int32.toNatClampNeg (y3 + 1)))] hx hb hml hown hu (tX8_pact l D cs (bd 0) (bd 1) (xs (Int32.toNatClampNeg (y3 + 1))) M r0 Mz e2) q1231 q62 q1228 q1229 q1230 pdX8_pact ⟨Nat.le_of_ble_eq_true rfl, Nat.le_of_ble_eq_true rfl⟩ ⟨rfl, rfl, Nat.le_of_ble_eq_true rfl, Nat.le_of_ble_eq_true rfl⟩ (List.range 31) [29] [0, 1, 2, 3, 4, 5, 6, 7, 8, 9, 10, 11, 12, 13, 14, 15, 16, 17, 18, 19, 20, 21, 22, 23, 24, 25, 26, 27, 28, 30] hK hZ hP hD hS hA (by decide) rfl rfl rfl rfl rfl rfl hl.1 rfl (Nat.le_of_ble_eq_true rfl) dL_law_912 rfl (fun H locs hP hD hS => ?_)
  refine lv_icmp_eq (tgt := 1379) hx hb dL_law_915 (by decide) (fun _ => ?_) (fun hc => absurd rfl hc)
  exact hk Maz Fo Scz Se Trz Chz Usz Ta Dr G0 N0 G1 N1 G2 N2 G3 N3 Fo2 Sc2 Se2 Tr2 Fo3 Sc3 Se3 Tr3 Mz N hR1 _ _ hP hD hS

set_option maxRecDepth 100000 in
set_option maxHeartbeats 4000000 in
theorem lw_c24 {p : Program} {l : Launch} {e : Env} {s : State} {m : MethodId} {below : List Frame} {meth : Method} {c : Code} {Q : State → Prop} {D : va_G} {cs : Nat → ClassId} {A : Nat → Prop} {b L : Nat} {xs : Nat → Int32} {ad bd : Nat → Nat → Nat} {RR : RT} (hp : P_odds RR) (LC0 : LC p s m c b L xs D cs A) (Ma : ST) (Fo : ST) (Sc : ST) (Se : ST) (Tr : ST) (Ch : ST) (Us : ST) (Ta : ST) (Dr : ST) (G0 : ST) (N0 : LT) (G1 : ST) (N1 : LT) (G2 : ST) (N2 : LT) (G3 : ST) (N3 : LT) (Fo2 : ST) (Sc2 : ST) (Se2 : ST) (Tr2 : ST) (Fo3 : ST) (Sc3 : ST) (Se3 : ST) (Tr3 : ST) (M : ST) (N : LT) (hR : RR Ma Fo Sc Se Tr Ch Us Ta Dr G0 N0 G1 N1 G2 N2 G3 N3 Fo2 Sc2 Se2 Tr2 Fo3 Sc3 Se3 Tr3 M N) (y3 : Int32) (i1 : vp_in (y3 + 1) L) (i2 : vp_in (y3 + 2) L) (i3 : vp_in (y3 + 3) L) (i4 : vp_in (y3 + 4) L) (i5 : vp_in (y3 + 5) L) (H : Heap) (locs : List Loc) (ls : Array Slot) (hP : va_P D vwCl ((List.range 31).flatMap (wB cs ad bd Ma Fo Sc Se Tr Ch Us Ta Dr G0 N0 G1 N1 G2 N2 G3 N3 Fo2 Sc2 Se2 Tr2 Fo3 Sc3 Se3 Tr3 M N)) H) (hD : va_D A ((List.range 31).flatMap (wB cs ad bd Ma Fo Sc Se Tr Ch Us Ta Dr G0 N0 G1 N1 G2 N2 G3 N3 Fo2 Sc2 Se2 Tr2 Fo3 Sc3 Se3 Tr3 M N))) (hS : va_S A s.heap H locs) (hl : lv_has ls 4 [(0, .ref b), (1, .ref (ad 0 0)), (2, .ref (bd 0 0)), (3, .int y3)])
    (hk : ∀ (Ma : ST) (Fo : ST) (Sc : ST) (Se : ST) (Tr : ST) (Ch : ST) (Us : ST) (Ta : ST) (Dr : ST) (G0 : ST) (N0 : LT) (G1 : ST) (N1 : LT) (G2 : ST) (N2 : LT) (G3 : ST) (N3 : LT) (Fo2 : ST) (Sc2 : ST) (Se2 : ST) (Tr2 : ST) (Fo3 : ST) (Sc3 : ST) (Se3 : ST) (Tr3 : ST) (M : ST) (N : LT), RR Ma Fo Sc Se Tr Ch Us Ta Dr G0 N0 G1 N1 G2 N2 G3 N3 Fo2 Sc2 Se2 Tr2 Fo3 Sc3 Se3 Tr3 M N → ∀ (H : Heap) (locs : List Loc), va_P D vwCl ((List.range 31).flatMap (wB cs ad bd Ma Fo Sc Se Tr Ch Us Ta Dr G0 N0 G1 N1 G2 N2 G3 N3 Fo2 Sc2 Se2 Tr2 Fo3 Sc3 Se3 Tr3 M N)) H → va_D A ((List.range 31).flatMap (wB cs ad bd Ma Fo Sc Se Tr Ch Us Ta Dr G0 N0 G1 N1 G2 N2 G3 N3 Fo2 Sc2 Se2 Tr2 Fo3 Sc3 Se3 Tr3 M N)) → va_S A s.heap H locs → W p l e room_1 s m #[Value.ref b] below meth c H locs 98 4085 Q (F0 m 1379 ls [])) : W p l e room_1 s m #[Value.ref b] below meth c H locs 98 4085 Q (F0 m 920 ls []) := by
  obtain ⟨hx, hb, hml, hown, hu, hK, hZ, hX, hbl, hbA, hA⟩ := LC0
  obtain ⟨r0, Maz, Fo3z, Sc3z, Se3z, Tr3z, Mz, e1, e2, hR1⟩ := hp (xs (Int32.toNatClampNeg (y3 + 1))) (xs (Int32.toNatClampNeg (y3 + 2))) Ma Fo Sc Se Tr Ch Us Ta Dr G0 N0 G1 N1 G2 N2 G3 N3 Fo2 Sc2 Se2 Tr2 Fo3 Sc3 Se3 Tr3 M N hR
  refine lv_aload_n hx hb dL_law_920 rfl (lv_at hl 1 rfl) ?_
  refine lv_aload_n hx hb dL_law_921 rfl (lv_at hl 0 rfl) ?_
  refine lv_iload_n hx hb dL_law_922 rfl (lv_at hl 3 rfl) ?_
  refine lv_iconst (v := 1) hx hb dL_law_923 (by decide) ?_
  refine lv_iadd hx hb dL_law_924 ?_
  refine va_sld hx hb hX hbl hbA hS i1 dL_law_925 ?_
  refine lv_aload_n hx hb dL_law_926 rfl (lv_at hl 0 rfl) ?_
  refine lv_iload_n hx hb dL_law_927 rfl (lv_at hl 3 rfl) ?_
  refine lv_iconst (v := 2) hx hb dL_law_928 (by decide) ?_
  refine lv_iadd hx hb dL_law_929 ?_
  refine va_sld hx hb hX hbl hbA hS i2 dL_law_930 ?_
  refine cl_VB (B' := (wB cs ad bd Maz Fo Sc Se Tr Ch Us Ta Dr G0 N0 G1 N1 G2 N2 G3 N3 Fo2 Sc2 Se2 Tr2 Fo3z Sc3z Se3z Tr3z M N)) (st1 := [.int r0]) [.int (xs (Int32.toNatClampNeg (y3 + 1))), .int (xs (Int32.toNatClampNeg (y3 + 2)))] hx hb hml hown hu (tX7_odds l D cs (ad 0) (ad 1) (ad 19) (ad 24) (ad 6) (ad 8) (ad 10) (ad 2) (ad 3) (ad 5) (ad 4) (ad 25) (ad 26) (ad 28) (ad 27) (xs (Int32.toNatClampNeg (y3 + 1))) (xs (Int32.toNatClampNeg (y3 + 2))) Ma Fo Sc Se Fo3 Sc3 Se3 Tr3 r0 Maz Fo3z Sc3z Se3z Tr3z e1) q654 q54 q651 q652 q653 pdX7_odds ⟨Nat.le_of_ble_eq_true rfl, Nat.le_of_ble_eq_true rfl⟩ ⟨rfl, rfl, Nat.le_of_ble_eq_true rfl, Nat.le_of_ble_eq_true rfl⟩ (List.range 31) [0, 1, 2, 3, 4, 24, 25, 26, 27, 28] [5, 6, 7, 8, 9, 10, 11, 12, 13, 14, 15, 16, 17, 18, 19, 20, 21, 22, 23, 29, 30] hK hZ hP hD hS hA (by decide) rfl rfl rfl rfl rfl rfl hl.1 rfl (Nat.le_of_ble_eq_true rfl) dL_law_931 rfl (fun H locs hP hD hS => ?_)
  refine lv_aload_n hx hb dL_law_934 rfl (lv_at hl 2 rfl) ?_
  refine lv_aload_n hx hb dL_law_935 rfl (lv_at hl 0 rfl) ?_
  refine lv_iload_n hx hb dL_law_936 rfl (lv_at hl 3 rfl) ?_
  refine lv_iconst (v := 1) hx hb dL_law_937 (by decide) ?_
  refine lv_iadd hx hb dL_law_938 ?_
  refine va_sld hx hb hX hbl hbA hS i1 dL_law_939 ?_
  refine lv_aload_n hx hb dL_law_940 rfl (lv_at hl 0 rfl) ?_
  refine lv_iload_n hx hb dL_law_941 rfl (lv_at hl 3 rfl) ?_
  refine lv_iconst (v := 2) hx hb dL_law_942 (by decide) ?_
  refine lv_iadd hx hb dL_law_943 ?_
  refine va_sld hx hb hX hbl hbA hS i2 dL_law_944 ?_
  refine cl_VB (B' := (wB cs ad bd Maz Fo Sc Se Tr Ch Us Ta Dr G0 N0 G1 N1 G2 N2 G3 N3 Fo2 Sc2 Se2 Tr2 Fo3z Sc3z Se3z Tr3z Mz N)) (st1 := [.int r0, .int r0]) [.int (xs (Int32.toNatClampNeg (y3 + 1))), .int (xs (Int32.toNatClampNeg (y3 + 2)))] hx hb hml hown hu (tX8_odds l D cs (bd 0) (bd 1) (xs (Int32.toNatClampNeg (y3 + 1))) (xs (Int32.toNatClampNeg (y3 + 2))) M r0 Mz e2) q1235 q62 q1232 q1233 q1234 pdX8_odds ⟨Nat.le_of_ble_eq_true rfl, Nat.le_of_ble_eq_true rfl⟩ ⟨rfl, rfl, Nat.le_of_ble_eq_true rfl, Nat.le_of_ble_eq_true rfl⟩ (List.range 31) [29] [0, 1, 2, 3, 4, 5, 6, 7, 8, 9, 10, 11, 12, 13, 14, 15, 16, 17, 18, 19, 20, 21, 22, 23, 24, 25, 26, 27, 28, 30] hK hZ hP hD hS hA (by decide) rfl rfl rfl rfl rfl rfl hl.1 rfl (Nat.le_of_ble_eq_true rfl) dL_law_945 rfl (fun H locs hP hD hS => ?_)
  refine lv_icmp_eq (tgt := 1379) hx hb dL_law_948 (by decide) (fun _ => ?_) (fun hc => absurd rfl hc)
  exact hk Maz Fo Sc Se Tr Ch Us Ta Dr G0 N0 G1 N1 G2 N2 G3 N3 Fo2 Sc2 Se2 Tr2 Fo3z Sc3z Se3z Tr3z Mz N hR1 _ _ hP hD hS

set_option maxRecDepth 100000 in
set_option maxHeartbeats 4000000 in
theorem lw_c25 {p : Program} {l : Launch} {e : Env} {s : State} {m : MethodId} {below : List Frame} {meth : Method} {c : Code} {Q : State → Prop} {D : va_G} {cs : Nat → ClassId} {A : Nat → Prop} {b L : Nat} {xs : Nat → Int32} {ad bd : Nat → Nat → Nat} {RR : RT} (hp : P_feed RR) (LC0 : LC p s m c b L xs D cs A) (Ma : ST) (Fo : ST) (Sc : ST) (Se : ST) (Tr : ST) (Ch : ST) (Us : ST) (Ta : ST) (Dr : ST) (G0 : ST) (N0 : LT) (G1 : ST) (N1 : LT) (G2 : ST) (N2 : LT) (G3 : ST) (N3 : LT) (Fo2 : ST) (Sc2 : ST) (Se2 : ST) (Tr2 : ST) (Fo3 : ST) (Sc3 : ST) (Se3 : ST) (Tr3 : ST) (M : ST) (N : LT) (hR : RR Ma Fo Sc Se Tr Ch Us Ta Dr G0 N0 G1 N1 G2 N2 G3 N3 Fo2 Sc2 Se2 Tr2 Fo3 Sc3 Se3 Tr3 M N) (y3 : Int32) (i1 : vp_in (y3 + 1) L) (i2 : vp_in (y3 + 2) L) (i3 : vp_in (y3 + 3) L) (i4 : vp_in (y3 + 4) L) (i5 : vp_in (y3 + 5) L) (H : Heap) (locs : List Loc) (ls : Array Slot) (hP : va_P D vwCl ((List.range 31).flatMap (wB cs ad bd Ma Fo Sc Se Tr Ch Us Ta Dr G0 N0 G1 N1 G2 N2 G3 N3 Fo2 Sc2 Se2 Tr2 Fo3 Sc3 Se3 Tr3 M N)) H) (hD : va_D A ((List.range 31).flatMap (wB cs ad bd Ma Fo Sc Se Tr Ch Us Ta Dr G0 N0 G1 N1 G2 N2 G3 N3 Fo2 Sc2 Se2 Tr2 Fo3 Sc3 Se3 Tr3 M N))) (hS : va_S A s.heap H locs) (hl : lv_has ls 4 [(0, .ref b), (1, .ref (ad 0 0)), (2, .ref (bd 0 0)), (3, .int y3)])
    (hk : ∀ (Ma : ST) (Fo : ST) (Sc : ST) (Se : ST) (Tr : ST) (Ch : ST) (Us : ST) (Ta : ST) (Dr : ST) (G0 : ST) (N0 : LT) (G1 : ST) (N1 : LT) (G2 : ST) (N2 : LT) (G3 : ST) (N3 : LT) (Fo2 : ST) (Sc2 : ST) (Se2 : ST) (Tr2 : ST) (Fo3 : ST) (Sc3 : ST) (Se3 : ST) (Tr3 : ST) (M : ST) (N : LT), RR Ma Fo Sc Se Tr Ch Us Ta Dr G0 N0 G1 N1 G2 N2 G3 N3 Fo2 Sc2 Se2 Tr2 Fo3 Sc3 Se3 Tr3 M N → ∀ (H : Heap) (locs : List Loc), va_P D vwCl ((List.range 31).flatMap (wB cs ad bd Ma Fo Sc Se Tr Ch Us Ta Dr G0 N0 G1 N1 G2 N2 G3 N3 Fo2 Sc2 Se2 Tr2 Fo3 Sc3 Se3 Tr3 M N)) H → va_D A ((List.range 31).flatMap (wB cs ad bd Ma Fo Sc Se Tr Ch Us Ta Dr G0 N0 G1 N1 G2 N2 G3 N3 Fo2 Sc2 Se2 Tr2 Fo3 Sc3 Se3 Tr3 M N)) → va_S A s.heap H locs → W p l e room_1 s m #[Value.ref b] below meth c H locs 98 4085 Q (F0 m 1379 ls [])) : W p l e room_1 s m #[Value.ref b] below meth c H locs 98 4085 Q (F0 m 953 ls []) := by
  obtain ⟨hx, hb, hml, hown, hu, hK, hZ, hX, hbl, hbA, hA⟩ := LC0
  obtain ⟨r0, Maz, Taz, Mz, e1, e2, hR1⟩ := hp (xs (Int32.toNatClampNeg (y3 + 1))) (xs (Int32.toNatClampNeg (y3 + 2))) Ma Fo Sc Se Tr Ch Us Ta Dr G0 N0 G1 N1 G2 N2 G3 N3 Fo2 Sc2 Se2 Tr2 Fo3 Sc3 Se3 Tr3 M N hR
  refine lv_aload_n hx hb dL_law_953 rfl (lv_at hl 1 rfl) ?_
  refine lv_aload_n hx hb dL_law_954 rfl (lv_at hl 0 rfl) ?_
  refine lv_iload_n hx hb dL_law_955 rfl (lv_at hl 3 rfl) ?_
  refine lv_iconst (v := 1) hx hb dL_law_956 (by decide) ?_
  refine lv_iadd hx hb dL_law_957 ?_
  refine va_sld hx hb hX hbl hbA hS i1 dL_law_958 ?_
  refine lv_aload_n hx hb dL_law_959 rfl (lv_at hl 0 rfl) ?_
  refine lv_iload_n hx hb dL_law_960 rfl (lv_at hl 3 rfl) ?_
  refine lv_iconst (v := 2) hx hb dL_law_961 (by decide) ?_
  refine lv_iadd hx hb dL_law_962 ?_
  refine va_sld hx hb hX hbl hbA hS i2 dL_law_963 ?_
  refine cl_VB (B' := (wB cs ad bd Maz Fo Sc Se Tr Ch Us Taz Dr G0 N0 G1 N1 G2 N2 G3 N3 Fo2 Sc2 Se2 Tr2 Fo3 Sc3 Se3 Tr3 M N)) (st1 := [.int r0]) [.int (xs (Int32.toNatClampNeg (y3 + 1))), .int (xs (Int32.toNatClampNeg (y3 + 2)))] hx hb hml hown hu (tX7_feed l D cs (ad 0) (ad 1) (ad 19) (ad 24) (ad 6) (ad 8) (ad 10) (ad 9) (xs (Int32.toNatClampNeg (y3 + 1))) (xs (Int32.toNatClampNeg (y3 + 2))) Ma Ta r0 Maz Taz e1) q673 q54 q670 q671 q672 pdX7_feed ⟨Nat.le_of_ble_eq_true rfl, Nat.le_of_ble_eq_true rfl⟩ ⟨rfl, rfl, Nat.le_of_ble_eq_true rfl, Nat.le_of_ble_eq_true rfl⟩ (List.range 31) [0, 8] [1, 2, 3, 4, 5, 6, 7, 9, 10, 11, 12, 13, 14, 15, 16, 17, 18, 19, 20, 21, 22, 23, 24, 25, 26, 27, 28, 29, 30] hK hZ hP hD hS hA (by decide) rfl rfl rfl rfl rfl rfl hl.1 rfl (Nat.le_of_ble_eq_true rfl) dL_law_964 rfl (fun H locs hP hD hS => ?_)
  refine lv_aload_n hx hb dL_law_967 rfl (lv_at hl 2 rfl) ?_
  refine lv_aload_n hx hb dL_law_968 rfl (lv_at hl 0 rfl) ?_
  refine lv_iload_n hx hb dL_law_969 rfl (lv_at hl 3 rfl) ?_
  refine lv_iconst (v := 1) hx hb dL_law_970 (by decide) ?_
  refine lv_iadd hx hb dL_law_971 ?_
  refine va_sld hx hb hX hbl hbA hS i1 dL_law_972 ?_
  refine lv_aload_n hx hb dL_law_973 rfl (lv_at hl 0 rfl) ?_
  refine lv_iload_n hx hb dL_law_974 rfl (lv_at hl 3 rfl) ?_
  refine lv_iconst (v := 2) hx hb dL_law_975 (by decide) ?_
  refine lv_iadd hx hb dL_law_976 ?_
  refine va_sld hx hb hX hbl hbA hS i2 dL_law_977 ?_
  refine cl_VB (B' := (wB cs ad bd Maz Fo Sc Se Tr Ch Us Taz Dr G0 N0 G1 N1 G2 N2 G3 N3 Fo2 Sc2 Se2 Tr2 Fo3 Sc3 Se3 Tr3 Mz N)) (st1 := [.int r0, .int r0]) [.int (xs (Int32.toNatClampNeg (y3 + 1))), .int (xs (Int32.toNatClampNeg (y3 + 2)))] hx hb hml hown hu (tX8_feed l D cs (bd 0) (bd 1) (xs (Int32.toNatClampNeg (y3 + 1))) (xs (Int32.toNatClampNeg (y3 + 2))) M r0 Mz e2) q1239 q62 q1236 q1237 q1238 pdX8_feed ⟨Nat.le_of_ble_eq_true rfl, Nat.le_of_ble_eq_true rfl⟩ ⟨rfl, rfl, Nat.le_of_ble_eq_true rfl, Nat.le_of_ble_eq_true rfl⟩ (List.range 31) [29] [0, 1, 2, 3, 4, 5, 6, 7, 8, 9, 10, 11, 12, 13, 14, 15, 16, 17, 18, 19, 20, 21, 22, 23, 24, 25, 26, 27, 28, 30] hK hZ hP hD hS hA (by decide) rfl rfl rfl rfl rfl rfl hl.1 rfl (Nat.le_of_ble_eq_true rfl) dL_law_978 rfl (fun H locs hP hD hS => ?_)
  refine lv_icmp_eq (tgt := 1379) hx hb dL_law_981 (by decide) (fun _ => ?_) (fun hc => absurd rfl hc)
  exact hk Maz Fo Sc Se Tr Ch Us Taz Dr G0 N0 G1 N1 G2 N2 G3 N3 Fo2 Sc2 Se2 Tr2 Fo3 Sc3 Se3 Tr3 Mz N hR1 _ _ hP hD hS

set_option maxRecDepth 100000 in
set_option maxHeartbeats 4000000 in
theorem lw_c26 {p : Program} {l : Launch} {e : Env} {s : State} {m : MethodId} {below : List Frame} {meth : Method} {c : Code} {Q : State → Prop} {D : va_G} {cs : Nat → ClassId} {A : Nat → Prop} {b L : Nat} {xs : Nat → Int32} {ad bd : Nat → Nat → Nat} {RR : RT} (hp : P_wipe RR) (LC0 : LC p s m c b L xs D cs A) (Ma : ST) (Fo : ST) (Sc : ST) (Se : ST) (Tr : ST) (Ch : ST) (Us : ST) (Ta : ST) (Dr : ST) (G0 : ST) (N0 : LT) (G1 : ST) (N1 : LT) (G2 : ST) (N2 : LT) (G3 : ST) (N3 : LT) (Fo2 : ST) (Sc2 : ST) (Se2 : ST) (Tr2 : ST) (Fo3 : ST) (Sc3 : ST) (Se3 : ST) (Tr3 : ST) (M : ST) (N : LT) (hR : RR Ma Fo Sc Se Tr Ch Us Ta Dr G0 N0 G1 N1 G2 N2 G3 N3 Fo2 Sc2 Se2 Tr2 Fo3 Sc3 Se3 Tr3 M N) (y3 : Int32) (i1 : vp_in (y3 + 1) L) (i2 : vp_in (y3 + 2) L) (i3 : vp_in (y3 + 3) L) (i4 : vp_in (y3 + 4) L) (i5 : vp_in (y3 + 5) L) (H : Heap) (locs : List Loc) (ls : Array Slot) (hP : va_P D vwCl ((List.range 31).flatMap (wB cs ad bd Ma Fo Sc Se Tr Ch Us Ta Dr G0 N0 G1 N1 G2 N2 G3 N3 Fo2 Sc2 Se2 Tr2 Fo3 Sc3 Se3 Tr3 M N)) H) (hD : va_D A ((List.range 31).flatMap (wB cs ad bd Ma Fo Sc Se Tr Ch Us Ta Dr G0 N0 G1 N1 G2 N2 G3 N3 Fo2 Sc2 Se2 Tr2 Fo3 Sc3 Se3 Tr3 M N))) (hS : va_S A s.heap H locs) (hl : lv_has ls 4 [(0, .ref b), (1, .ref (ad 0 0)), (2, .ref (bd 0 0)), (3, .int y3)])
    (hk : ∀ (Ma : ST) (Fo : ST) (Sc : ST) (Se : ST) (Tr : ST) (Ch : ST) (Us : ST) (Ta : ST) (Dr : ST) (G0 : ST) (N0 : LT) (G1 : ST) (N1 : LT) (G2 : ST) (N2 : LT) (G3 : ST) (N3 : LT) (Fo2 : ST) (Sc2 : ST) (Se2 : ST) (Tr2 : ST) (Fo3 : ST) (Sc3 : ST) (Se3 : ST) (Tr3 : ST) (M : ST) (N : LT), RR Ma Fo Sc Se Tr Ch Us Ta Dr G0 N0 G1 N1 G2 N2 G3 N3 Fo2 Sc2 Se2 Tr2 Fo3 Sc3 Se3 Tr3 M N → ∀ (H : Heap) (locs : List Loc), va_P D vwCl ((List.range 31).flatMap (wB cs ad bd Ma Fo Sc Se Tr Ch Us Ta Dr G0 N0 G1 N1 G2 N2 G3 N3 Fo2 Sc2 Se2 Tr2 Fo3 Sc3 Se3 Tr3 M N)) H → va_D A ((List.range 31).flatMap (wB cs ad bd Ma Fo Sc Se Tr Ch Us Ta Dr G0 N0 G1 N1 G2 N2 G3 N3 Fo2 Sc2 Se2 Tr2 Fo3 Sc3 Se3 Tr3 M N)) → va_S A s.heap H locs → W p l e room_1 s m #[Value.ref b] below meth c H locs 98 4085 Q (F0 m 1379 ls [])) : W p l e room_1 s m #[Value.ref b] below meth c H locs 98 4085 Q (F0 m 986 ls []) := by
  obtain ⟨hx, hb, hml, hown, hu, hK, hZ, hX, hbl, hbA, hA⟩ := LC0
  obtain ⟨r0, Taz, Mz, e1, e2, hR1⟩ := hp Ma Fo Sc Se Tr Ch Us Ta Dr G0 N0 G1 N1 G2 N2 G3 N3 Fo2 Sc2 Se2 Tr2 Fo3 Sc3 Se3 Tr3 M N hR
  refine lv_aload_n hx hb dL_law_986 rfl (lv_at hl 1 rfl) ?_
  refine cl_VB (B' := (wB cs ad bd Ma Fo Sc Se Tr Ch Us Taz Dr G0 N0 G1 N1 G2 N2 G3 N3 Fo2 Sc2 Se2 Tr2 Fo3 Sc3 Se3 Tr3 M N)) (st1 := [.int r0]) [] hx hb hml hown hu (tX7_wipe l D cs (ad 0) (ad 1) (ad 19) (ad 24) (ad 6) (ad 8) (ad 10) (ad 9) Ma Ta r0 Taz e1) q681 q54 q678 q679 q680 pdX7_wipe ⟨Nat.le_of_ble_eq_true rfl, Nat.le_of_ble_eq_true rfl⟩ ⟨rfl, rfl, Nat.le_of_ble_eq_true rfl, Nat.le_of_ble_eq_true rfl⟩ (List.range 31) [0, 8] [1, 2, 3, 4, 5, 6, 7, 9, 10, 11, 12, 13, 14, 15, 16, 17, 18, 19, 20, 21, 22, 23, 24, 25, 26, 27, 28, 29, 30] hK hZ hP hD hS hA (by decide) rfl rfl rfl rfl rfl rfl hl.1 rfl (Nat.le_of_ble_eq_true rfl) dL_law_987 rfl (fun H locs hP hD hS => ?_)
  refine lv_aload_n hx hb dL_law_990 rfl (lv_at hl 2 rfl) ?_
  refine cl_VB (B' := (wB cs ad bd Ma Fo Sc Se Tr Ch Us Taz Dr G0 N0 G1 N1 G2 N2 G3 N3 Fo2 Sc2 Se2 Tr2 Fo3 Sc3 Se3 Tr3 Mz N)) (st1 := [.int r0, .int r0]) [] hx hb hml hown hu (tX8_wipe l D cs (bd 0) (bd 1) M r0 Mz e2) q1243 q62 q1240 q1241 q1242 pdX8_wipe ⟨Nat.le_of_ble_eq_true rfl, Nat.le_of_ble_eq_true rfl⟩ ⟨rfl, rfl, Nat.le_of_ble_eq_true rfl, Nat.le_of_ble_eq_true rfl⟩ (List.range 31) [29] [0, 1, 2, 3, 4, 5, 6, 7, 8, 9, 10, 11, 12, 13, 14, 15, 16, 17, 18, 19, 20, 21, 22, 23, 24, 25, 26, 27, 28, 30] hK hZ hP hD hS hA (by decide) rfl rfl rfl rfl rfl rfl hl.1 rfl (Nat.le_of_ble_eq_true rfl) dL_law_991 rfl (fun H locs hP hD hS => ?_)
  refine lv_icmp_eq (tgt := 1379) hx hb dL_law_994 (by decide) (fun _ => ?_) (fun hc => absurd rfl hc)
  exact hk Ma Fo Sc Se Tr Ch Us Taz Dr G0 N0 G1 N1 G2 N2 G3 N3 Fo2 Sc2 Se2 Tr2 Fo3 Sc3 Se3 Tr3 Mz N hR1 _ _ hP hD hS

set_option maxRecDepth 100000 in
set_option maxHeartbeats 4000000 in
theorem lw_c27 {p : Program} {l : Launch} {e : Env} {s : State} {m : MethodId} {below : List Frame} {meth : Method} {c : Code} {Q : State → Prop} {D : va_G} {cs : Nat → ClassId} {A : Nat → Prop} {b L : Nat} {xs : Nat → Int32} {ad bd : Nat → Nat → Nat} {RR : RT} (hp : P_text RR) (LC0 : LC p s m c b L xs D cs A) (Ma : ST) (Fo : ST) (Sc : ST) (Se : ST) (Tr : ST) (Ch : ST) (Us : ST) (Ta : ST) (Dr : ST) (G0 : ST) (N0 : LT) (G1 : ST) (N1 : LT) (G2 : ST) (N2 : LT) (G3 : ST) (N3 : LT) (Fo2 : ST) (Sc2 : ST) (Se2 : ST) (Tr2 : ST) (Fo3 : ST) (Sc3 : ST) (Se3 : ST) (Tr3 : ST) (M : ST) (N : LT) (hR : RR Ma Fo Sc Se Tr Ch Us Ta Dr G0 N0 G1 N1 G2 N2 G3 N3 Fo2 Sc2 Se2 Tr2 Fo3 Sc3 Se3 Tr3 M N) (y3 : Int32) (i1 : vp_in (y3 + 1) L) (i2 : vp_in (y3 + 2) L) (i3 : vp_in (y3 + 3) L) (i4 : vp_in (y3 + 4) L) (i5 : vp_in (y3 + 5) L) (H : Heap) (locs : List Loc) (ls : Array Slot) (hP : va_P D vwCl ((List.range 31).flatMap (wB cs ad bd Ma Fo Sc Se Tr Ch Us Ta Dr G0 N0 G1 N1 G2 N2 G3 N3 Fo2 Sc2 Se2 Tr2 Fo3 Sc3 Se3 Tr3 M N)) H) (hD : va_D A ((List.range 31).flatMap (wB cs ad bd Ma Fo Sc Se Tr Ch Us Ta Dr G0 N0 G1 N1 G2 N2 G3 N3 Fo2 Sc2 Se2 Tr2 Fo3 Sc3 Se3 Tr3 M N))) (hS : va_S A s.heap H locs) (hl : lv_has ls 4 [(0, .ref b), (1, .ref (ad 0 0)), (2, .ref (bd 0 0)), (3, .int y3)])
    (hk : ∀ (Ma : ST) (Fo : ST) (Sc : ST) (Se : ST) (Tr : ST) (Ch : ST) (Us : ST) (Ta : ST) (Dr : ST) (G0 : ST) (N0 : LT) (G1 : ST) (N1 : LT) (G2 : ST) (N2 : LT) (G3 : ST) (N3 : LT) (Fo2 : ST) (Sc2 : ST) (Se2 : ST) (Tr2 : ST) (Fo3 : ST) (Sc3 : ST) (Se3 : ST) (Tr3 : ST) (M : ST) (N : LT), RR Ma Fo Sc Se Tr Ch Us Ta Dr G0 N0 G1 N1 G2 N2 G3 N3 Fo2 Sc2 Se2 Tr2 Fo3 Sc3 Se3 Tr3 M N → ∀ (H : Heap) (locs : List Loc), va_P D vwCl ((List.range 31).flatMap (wB cs ad bd Ma Fo Sc Se Tr Ch Us Ta Dr G0 N0 G1 N1 G2 N2 G3 N3 Fo2 Sc2 Se2 Tr2 Fo3 Sc3 Se3 Tr3 M N)) H → va_D A ((List.range 31).flatMap (wB cs ad bd Ma Fo Sc Se Tr Ch Us Ta Dr G0 N0 G1 N1 G2 N2 G3 N3 Fo2 Sc2 Se2 Tr2 Fo3 Sc3 Se3 Tr3 M N)) → va_S A s.heap H locs → W p l e room_1 s m #[Value.ref b] below meth c H locs 98 4085 Q (F0 m 1379 ls [])) : W p l e room_1 s m #[Value.ref b] below meth c H locs 98 4085 Q (F0 m 999 ls []) := by
  obtain ⟨hx, hb, hml, hown, hu, hK, hZ, hX, hbl, hbA, hA⟩ := LC0
  obtain ⟨r0, Scz, Taz, Drz, Mz, e1, e2, hR1⟩ := hp Ma Fo Sc Se Tr Ch Us Ta Dr G0 N0 G1 N1 G2 N2 G3 N3 Fo2 Sc2 Se2 Tr2 Fo3 Sc3 Se3 Tr3 M N hR
  refine lv_aload_n hx hb dL_law_999 rfl (lv_at hl 1 rfl) ?_
  refine cl_VB (B' := (wB cs ad bd Ma Fo Scz Se Tr Ch Us Taz Drz G0 N0 G1 N1 G2 N2 G3 N3 Fo2 Sc2 Se2 Tr2 Fo3 Sc3 Se3 Tr3 M N)) (st1 := [.int r0]) [] hx hb hml hown hu (tX7_text l D cs (ad 0) (ad 1) (ad 19) (ad 24) (ad 6) (ad 8) (ad 10) (ad 2) (ad 3) (ad 5) (ad 4) (ad 9) Ma Sc Ta Dr r0 Scz Taz Drz e1) q685 q54 q682 q683 q684 pdX7_text ⟨Nat.le_of_ble_eq_true rfl, Nat.le_of_ble_eq_true rfl⟩ ⟨rfl, rfl, Nat.le_of_ble_eq_true rfl, Nat.le_of_ble_eq_true rfl⟩ (List.range 31) [0, 1, 3, 8, 9] [2, 4, 5, 6, 7, 10, 11, 12, 13, 14, 15, 16, 17, 18, 19, 20, 21, 22, 23, 24, 25, 26, 27, 28, 29, 30] hK hZ hP hD hS hA (by decide) rfl rfl rfl rfl rfl rfl hl.1 rfl (Nat.le_of_ble_eq_true rfl) dL_law_1000 rfl (fun H locs hP hD hS => ?_)
  refine lv_aload_n hx hb dL_law_1003 rfl (lv_at hl 2 rfl) ?_
  refine cl_VB (B' := (wB cs ad bd Ma Fo Scz Se Tr Ch Us Taz Drz G0 N0 G1 N1 G2 N2 G3 N3 Fo2 Sc2 Se2 Tr2 Fo3 Sc3 Se3 Tr3 Mz N)) (st1 := [.int r0, .int r0]) [] hx hb hml hown hu (tX8_text l D cs (bd 0) (bd 1) M r0 Mz e2) q1247 q62 q1244 q1245 q1246 pdX8_text ⟨Nat.le_of_ble_eq_true rfl, Nat.le_of_ble_eq_true rfl⟩ ⟨rfl, rfl, Nat.le_of_ble_eq_true rfl, Nat.le_of_ble_eq_true rfl⟩ (List.range 31) [29] [0, 1, 2, 3, 4, 5, 6, 7, 8, 9, 10, 11, 12, 13, 14, 15, 16, 17, 18, 19, 20, 21, 22, 23, 24, 25, 26, 27, 28, 30] hK hZ hP hD hS hA (by decide) rfl rfl rfl rfl rfl rfl hl.1 rfl (Nat.le_of_ble_eq_true rfl) dL_law_1004 rfl (fun H locs hP hD hS => ?_)
  refine lv_icmp_eq (tgt := 1379) hx hb dL_law_1007 (by decide) (fun _ => ?_) (fun hc => absurd rfl hc)
  exact hk Ma Fo Scz Se Tr Ch Us Taz Drz G0 N0 G1 N1 G2 N2 G3 N3 Fo2 Sc2 Se2 Tr2 Fo3 Sc3 Se3 Tr3 Mz N hR1 _ _ hP hD hS

set_option maxRecDepth 100000 in
set_option maxHeartbeats 4000000 in
theorem lw_c28 {p : Program} {l : Launch} {e : Env} {s : State} {m : MethodId} {below : List Frame} {meth : Method} {c : Code} {Q : State → Prop} {D : va_G} {cs : Nat → ClassId} {A : Nat → Prop} {b L : Nat} {xs : Nat → Int32} {ad bd : Nat → Nat → Nat} {RR : RT} (hp : P_gives RR) (LC0 : LC p s m c b L xs D cs A) (Ma : ST) (Fo : ST) (Sc : ST) (Se : ST) (Tr : ST) (Ch : ST) (Us : ST) (Ta : ST) (Dr : ST) (G0 : ST) (N0 : LT) (G1 : ST) (N1 : LT) (G2 : ST) (N2 : LT) (G3 : ST) (N3 : LT) (Fo2 : ST) (Sc2 : ST) (Se2 : ST) (Tr2 : ST) (Fo3 : ST) (Sc3 : ST) (Se3 : ST) (Tr3 : ST) (M : ST) (N : LT) (hR : RR Ma Fo Sc Se Tr Ch Us Ta Dr G0 N0 G1 N1 G2 N2 G3 N3 Fo2 Sc2 Se2 Tr2 Fo3 Sc3 Se3 Tr3 M N) (y3 : Int32) (i1 : vp_in (y3 + 1) L) (i2 : vp_in (y3 + 2) L) (i3 : vp_in (y3 + 3) L) (i4 : vp_in (y3 + 4) L) (i5 : vp_in (y3 + 5) L) (H : Heap) (locs : List Loc) (ls : Array Slot) (hP : va_P D vwCl ((List.range 31).flatMap (wB cs ad bd Ma Fo Sc Se Tr Ch Us Ta Dr G0 N0 G1 N1 G2 N2 G3 N3 Fo2 Sc2 Se2 Tr2 Fo3 Sc3 Se3 Tr3 M N)) H) (hD : va_D A ((List.range 31).flatMap (wB cs ad bd Ma Fo Sc Se Tr Ch Us Ta Dr G0 N0 G1 N1 G2 N2 G3 N3 Fo2 Sc2 Se2 Tr2 Fo3 Sc3 Se3 Tr3 M N))) (hS : va_S A s.heap H locs) (hl : lv_has ls 4 [(0, .ref b), (1, .ref (ad 0 0)), (2, .ref (bd 0 0)), (3, .int y3)])
    (hk : ∀ (Ma : ST) (Fo : ST) (Sc : ST) (Se : ST) (Tr : ST) (Ch : ST) (Us : ST) (Ta : ST) (Dr : ST) (G0 : ST) (N0 : LT) (G1 : ST) (N1 : LT) (G2 : ST) (N2 : LT) (G3 : ST) (N3 : LT) (Fo2 : ST) (Sc2 : ST) (Se2 : ST) (Tr2 : ST) (Fo3 : ST) (Sc3 : ST) (Se3 : ST) (Tr3 : ST) (M : ST) (N : LT), RR Ma Fo Sc Se Tr Ch Us Ta Dr G0 N0 G1 N1 G2 N2 G3 N3 Fo2 Sc2 Se2 Tr2 Fo3 Sc3 Se3 Tr3 M N → ∀ (H : Heap) (locs : List Loc), va_P D vwCl ((List.range 31).flatMap (wB cs ad bd Ma Fo Sc Se Tr Ch Us Ta Dr G0 N0 G1 N1 G2 N2 G3 N3 Fo2 Sc2 Se2 Tr2 Fo3 Sc3 Se3 Tr3 M N)) H → va_D A ((List.range 31).flatMap (wB cs ad bd Ma Fo Sc Se Tr Ch Us Ta Dr G0 N0 G1 N1 G2 N2 G3 N3 Fo2 Sc2 Se2 Tr2 Fo3 Sc3 Se3 Tr3 M N)) → va_S A s.heap H locs → W p l e room_1 s m #[Value.ref b] below meth c H locs 98 4085 Q (F0 m 1379 ls [])) : W p l e room_1 s m #[Value.ref b] below meth c H locs 98 4085 Q (F0 m 1012 ls []) := by
  obtain ⟨hx, hb, hml, hown, hu, hK, hZ, hX, hbl, hbA, hA⟩ := LC0
  obtain ⟨r0, Maz, Scz, Mz, e1, e2, hR1⟩ := hp (xs (Int32.toNatClampNeg (y3 + 1))) (xs (Int32.toNatClampNeg (y3 + 2))) Ma Fo Sc Se Tr Ch Us Ta Dr G0 N0 G1 N1 G2 N2 G3 N3 Fo2 Sc2 Se2 Tr2 Fo3 Sc3 Se3 Tr3 M N hR
  refine lv_aload_n hx hb dL_law_1012 rfl (lv_at hl 1 rfl) ?_
  refine lv_aload_n hx hb dL_law_1013 rfl (lv_at hl 0 rfl) ?_
  refine lv_iload_n hx hb dL_law_1014 rfl (lv_at hl 3 rfl) ?_
  refine lv_iconst (v := 1) hx hb dL_law_1015 (by decide) ?_
  refine lv_iadd hx hb dL_law_1016 ?_
  refine va_sld hx hb hX hbl hbA hS i1 dL_law_1017 ?_
  refine lv_aload_n hx hb dL_law_1018 rfl (lv_at hl 0 rfl) ?_
  refine lv_iload_n hx hb dL_law_1019 rfl (lv_at hl 3 rfl) ?_
  refine lv_iconst (v := 2) hx hb dL_law_1020 (by decide) ?_
  refine lv_iadd hx hb dL_law_1021 ?_
  refine va_sld hx hb hX hbl hbA hS i2 dL_law_1022 ?_
  refine cl_VB (B' := (wB cs ad bd Maz Fo Scz Se Tr Ch Us Ta Dr G0 N0 G1 N1 G2 N2 G3 N3 Fo2 Sc2 Se2 Tr2 Fo3 Sc3 Se3 Tr3 M N)) (st1 := [.int r0]) [.int (xs (Int32.toNatClampNeg (y3 + 1))), .int (xs (Int32.toNatClampNeg (y3 + 2)))] hx hb hml hown hu (tX7_gives l D cs (ad 0) (ad 1) (ad 19) (ad 24) (ad 6) (ad 8) (ad 10) (ad 2) (ad 3) (ad 5) (ad 4) (xs (Int32.toNatClampNeg (y3 + 1))) (xs (Int32.toNatClampNeg (y3 + 2))) Ma Fo Sc Se r0 Maz Scz e1) q831 q54 q828 q829 q830 pdX7_gives ⟨Nat.le_of_ble_eq_true rfl, Nat.le_of_ble_eq_true rfl⟩ ⟨rfl, rfl, Nat.le_of_ble_eq_true rfl, Nat.le_of_ble_eq_true rfl⟩ (List.range 31) [0, 1, 2, 3, 4] [5, 6, 7, 8, 9, 10, 11, 12, 13, 14, 15, 16, 17, 18, 19, 20, 21, 22, 23, 24, 25, 26, 27, 28, 29, 30] hK hZ hP hD hS hA (by decide) rfl rfl rfl rfl rfl rfl hl.1 rfl (Nat.le_of_ble_eq_true rfl) dL_law_1023 rfl (fun H locs hP hD hS => ?_)
  refine lv_aload_n hx hb dL_law_1026 rfl (lv_at hl 2 rfl) ?_
  refine lv_aload_n hx hb dL_law_1027 rfl (lv_at hl 0 rfl) ?_
  refine lv_iload_n hx hb dL_law_1028 rfl (lv_at hl 3 rfl) ?_
  refine lv_iconst (v := 1) hx hb dL_law_1029 (by decide) ?_
  refine lv_iadd hx hb dL_law_1030 ?_
  refine va_sld hx hb hX hbl hbA hS i1 dL_law_1031 ?_
  refine lv_aload_n hx hb dL_law_1032 rfl (lv_at hl 0 rfl) ?_
  refine lv_iload_n hx hb dL_law_1033 rfl (lv_at hl 3 rfl) ?_
  refine lv_iconst (v := 2) hx hb dL_law_1034 (by decide) ?_
  refine lv_iadd hx hb dL_law_1035 ?_
  refine va_sld hx hb hX hbl hbA hS i2 dL_law_1036 ?_
  refine cl_VB (B' := (wB cs ad bd Maz Fo Scz Se Tr Ch Us Ta Dr G0 N0 G1 N1 G2 N2 G3 N3 Fo2 Sc2 Se2 Tr2 Fo3 Sc3 Se3 Tr3 Mz N)) (st1 := [.int r0, .int r0]) [.int (xs (Int32.toNatClampNeg (y3 + 1))), .int (xs (Int32.toNatClampNeg (y3 + 2)))] hx hb hml hown hu (tX8_gives l D cs (bd 0) (bd 1) (xs (Int32.toNatClampNeg (y3 + 1))) (xs (Int32.toNatClampNeg (y3 + 2))) M r0 Mz e2) q1283 q62 q1280 q1281 q1282 pdX8_gives ⟨Nat.le_of_ble_eq_true rfl, Nat.le_of_ble_eq_true rfl⟩ ⟨rfl, rfl, Nat.le_of_ble_eq_true rfl, Nat.le_of_ble_eq_true rfl⟩ (List.range 31) [29] [0, 1, 2, 3, 4, 5, 6, 7, 8, 9, 10, 11, 12, 13, 14, 15, 16, 17, 18, 19, 20, 21, 22, 23, 24, 25, 26, 27, 28, 30] hK hZ hP hD hS hA (by decide) rfl rfl rfl rfl rfl rfl hl.1 rfl (Nat.le_of_ble_eq_true rfl) dL_law_1037 rfl (fun H locs hP hD hS => ?_)
  refine lv_icmp_eq (tgt := 1379) hx hb dL_law_1040 (by decide) (fun _ => ?_) (fun hc => absurd rfl hc)
  exact hk Maz Fo Scz Se Tr Ch Us Ta Dr G0 N0 G1 N1 G2 N2 G3 N3 Fo2 Sc2 Se2 Tr2 Fo3 Sc3 Se3 Tr3 Mz N hR1 _ _ hP hD hS

set_option maxRecDepth 100000 in
set_option maxHeartbeats 4000000 in
theorem lw_c29 {p : Program} {l : Launch} {e : Env} {s : State} {m : MethodId} {below : List Frame} {meth : Method} {c : Code} {Q : State → Prop} {D : va_G} {cs : Nat → ClassId} {A : Nat → Prop} {b L : Nat} {xs : Nat → Int32} {ad bd : Nat → Nat → Nat} {RR : RT} (hp : P_untell RR) (LC0 : LC p s m c b L xs D cs A) (Ma : ST) (Fo : ST) (Sc : ST) (Se : ST) (Tr : ST) (Ch : ST) (Us : ST) (Ta : ST) (Dr : ST) (G0 : ST) (N0 : LT) (G1 : ST) (N1 : LT) (G2 : ST) (N2 : LT) (G3 : ST) (N3 : LT) (Fo2 : ST) (Sc2 : ST) (Se2 : ST) (Tr2 : ST) (Fo3 : ST) (Sc3 : ST) (Se3 : ST) (Tr3 : ST) (M : ST) (N : LT) (hR : RR Ma Fo Sc Se Tr Ch Us Ta Dr G0 N0 G1 N1 G2 N2 G3 N3 Fo2 Sc2 Se2 Tr2 Fo3 Sc3 Se3 Tr3 M N) (y3 : Int32) (i1 : vp_in (y3 + 1) L) (i2 : vp_in (y3 + 2) L) (i3 : vp_in (y3 + 3) L) (i4 : vp_in (y3 + 4) L) (i5 : vp_in (y3 + 5) L) (H : Heap) (locs : List Loc) (ls : Array Slot) (hP : va_P D vwCl ((List.range 31).flatMap (wB cs ad bd Ma Fo Sc Se Tr Ch Us Ta Dr G0 N0 G1 N1 G2 N2 G3 N3 Fo2 Sc2 Se2 Tr2 Fo3 Sc3 Se3 Tr3 M N)) H) (hD : va_D A ((List.range 31).flatMap (wB cs ad bd Ma Fo Sc Se Tr Ch Us Ta Dr G0 N0 G1 N1 G2 N2 G3 N3 Fo2 Sc2 Se2 Tr2 Fo3 Sc3 Se3 Tr3 M N))) (hS : va_S A s.heap H locs) (hl : lv_has ls 4 [(0, .ref b), (1, .ref (ad 0 0)), (2, .ref (bd 0 0)), (3, .int y3)])
    (hk : ∀ (Ma : ST) (Fo : ST) (Sc : ST) (Se : ST) (Tr : ST) (Ch : ST) (Us : ST) (Ta : ST) (Dr : ST) (G0 : ST) (N0 : LT) (G1 : ST) (N1 : LT) (G2 : ST) (N2 : LT) (G3 : ST) (N3 : LT) (Fo2 : ST) (Sc2 : ST) (Se2 : ST) (Tr2 : ST) (Fo3 : ST) (Sc3 : ST) (Se3 : ST) (Tr3 : ST) (M : ST) (N : LT), RR Ma Fo Sc Se Tr Ch Us Ta Dr G0 N0 G1 N1 G2 N2 G3 N3 Fo2 Sc2 Se2 Tr2 Fo3 Sc3 Se3 Tr3 M N → ∀ (H : Heap) (locs : List Loc), va_P D vwCl ((List.range 31).flatMap (wB cs ad bd Ma Fo Sc Se Tr Ch Us Ta Dr G0 N0 G1 N1 G2 N2 G3 N3 Fo2 Sc2 Se2 Tr2 Fo3 Sc3 Se3 Tr3 M N)) H → va_D A ((List.range 31).flatMap (wB cs ad bd Ma Fo Sc Se Tr Ch Us Ta Dr G0 N0 G1 N1 G2 N2 G3 N3 Fo2 Sc2 Se2 Tr2 Fo3 Sc3 Se3 Tr3 M N)) → va_S A s.heap H locs → W p l e room_1 s m #[Value.ref b] below meth c H locs 98 4085 Q (F0 m 1379 ls [])) : W p l e room_1 s m #[Value.ref b] below meth c H locs 98 4085 Q (F0 m 1045 ls []) := by
  obtain ⟨hx, hb, hml, hown, hu, hK, hZ, hX, hbl, hbA, hA⟩ := LC0
  obtain ⟨r0, Scz, Mz, e1, e2, hR1⟩ := hp Ma Fo Sc Se Tr Ch Us Ta Dr G0 N0 G1 N1 G2 N2 G3 N3 Fo2 Sc2 Se2 Tr2 Fo3 Sc3 Se3 Tr3 M N hR
  refine lv_aload_n hx hb dL_law_1045 rfl (lv_at hl 1 rfl) ?_
  refine cl_VB (B' := (wB cs ad bd Ma Fo Scz Se Tr Ch Us Ta Dr G0 N0 G1 N1 G2 N2 G3 N3 Fo2 Sc2 Se2 Tr2 Fo3 Sc3 Se3 Tr3 M N)) (st1 := [.int r0]) [] hx hb hml hown hu (tX7_untell l D cs (ad 0) (ad 1) (ad 19) (ad 24) (ad 6) (ad 8) (ad 10) (ad 2) (ad 3) (ad 5) (ad 4) Ma Sc r0 Scz e1) q837 q54 q834 q835 q836 pdX7_untell ⟨Nat.le_of_ble_eq_true rfl, Nat.le_of_ble_eq_true rfl⟩ ⟨rfl, rfl, Nat.le_of_ble_eq_true rfl, Nat.le_of_ble_eq_true rfl⟩ (List.range 31) [0, 1, 3] [2, 4, 5, 6, 7, 8, 9, 10, 11, 12, 13, 14, 15, 16, 17, 18, 19, 20, 21, 22, 23, 24, 25, 26, 27, 28, 29, 30] hK hZ hP hD hS hA (by decide) rfl rfl rfl rfl rfl rfl hl.1 rfl (Nat.le_of_ble_eq_true rfl) dL_law_1046 rfl (fun H locs hP hD hS => ?_)
  refine lv_aload_n hx hb dL_law_1049 rfl (lv_at hl 2 rfl) ?_
  refine cl_VB (B' := (wB cs ad bd Ma Fo Scz Se Tr Ch Us Ta Dr G0 N0 G1 N1 G2 N2 G3 N3 Fo2 Sc2 Se2 Tr2 Fo3 Sc3 Se3 Tr3 Mz N)) (st1 := [.int r0, .int r0]) [] hx hb hml hown hu (tX8_untell l D cs (bd 0) (bd 1) M r0 Mz e2) q1287 q62 q1284 q1285 q1286 pdX8_untell ⟨Nat.le_of_ble_eq_true rfl, Nat.le_of_ble_eq_true rfl⟩ ⟨rfl, rfl, Nat.le_of_ble_eq_true rfl, Nat.le_of_ble_eq_true rfl⟩ (List.range 31) [29] [0, 1, 2, 3, 4, 5, 6, 7, 8, 9, 10, 11, 12, 13, 14, 15, 16, 17, 18, 19, 20, 21, 22, 23, 24, 25, 26, 27, 28, 30] hK hZ hP hD hS hA (by decide) rfl rfl rfl rfl rfl rfl hl.1 rfl (Nat.le_of_ble_eq_true rfl) dL_law_1050 rfl (fun H locs hP hD hS => ?_)
  refine lv_icmp_eq (tgt := 1379) hx hb dL_law_1053 (by decide) (fun _ => ?_) (fun hc => absurd rfl hc)
  exact hk Ma Fo Scz Se Tr Ch Us Ta Dr G0 N0 G1 N1 G2 N2 G3 N3 Fo2 Sc2 Se2 Tr2 Fo3 Sc3 Se3 Tr3 Mz N hR1 _ _ hP hD hS
