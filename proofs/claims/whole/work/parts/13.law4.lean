set_option maxRecDepth 100000 in
set_option maxHeartbeats 4000000 in
theorem lw_c30 {p : Program} {l : Launch} {e : Env} {s : State} {m : MethodId} {below : List Frame} {meth : Method} {c : Code} {Q : State → Prop} {D : va_G} {cs : Nat → ClassId} {A : Nat → Prop} {b L : Nat} {xs : Nat → Int32} {ad bd : Nat → Nat → Nat} {RR : RT} (hp : P_sheet RR) (LC0 : LC p s m c b L xs D cs A) (Ma : ST) (Fo : ST) (Sc : ST) (Se : ST) (Tr : ST) (Ch : ST) (Us : ST) (Ta : ST) (Dr : ST) (G0 : ST) (N0 : LT) (G1 : ST) (N1 : LT) (G2 : ST) (N2 : LT) (G3 : ST) (N3 : LT) (Fo2 : ST) (Sc2 : ST) (Se2 : ST) (Tr2 : ST) (Fo3 : ST) (Sc3 : ST) (Se3 : ST) (Tr3 : ST) (M : ST) (N : LT) (hR : RR Ma Fo Sc Se Tr Ch Us Ta Dr G0 N0 G1 N1 G2 N2 G3 N3 Fo2 Sc2 Se2 Tr2 Fo3 Sc3 Se3 Tr3 M N) (y3 : Int32) (i1 : vp_in (y3 + 1) L) (i2 : vp_in (y3 + 2) L) (i3 : vp_in (y3 + 3) L) (i4 : vp_in (y3 + 4) L) (i5 : vp_in (y3 + 5) L) (H : Heap) (locs : List Loc) (ls : Array Slot) (hP : va_P D vwCl ((List.range 31).flatMap (wB cs ad bd Ma Fo Sc Se Tr Ch Us Ta Dr G0 N0 G1 N1 G2 N2 G3 N3 Fo2 Sc2 Se2 Tr2 Fo3 Sc3 Se3 Tr3 M N)) H) (hD : va_D A ((List.range 31).flatMap (wB cs ad bd Ma Fo Sc Se Tr Ch Us Ta Dr G0 N0 G1 N1 G2 N2 G3 N3 Fo2 Sc2 Se2 Tr2 Fo3 Sc3 Se3 Tr3 M N))) (hS : va_S A s.heap H locs) (hl : lv_has ls 4 [(0, .ref b), (1, .ref (ad 0 0)), (2, .ref (bd 0 0)), (3, .int y3)])
    (hk : ∀ (Ma : ST) (Fo : ST) (Sc : ST) (Se : ST) (Tr : ST) (Ch : ST) (Us : ST) (Ta : ST) (Dr : ST) (G0 : ST) (N0 : LT) (G1 : ST) (N1 : LT) (G2 : ST) (N2 : LT) (G3 : ST) (N3 : LT) (Fo2 : ST) (Sc2 : ST) (Se2 : ST) (Tr2 : ST) (Fo3 : ST) (Sc3 : ST) (Se3 : ST) (Tr3 : ST) (M : ST) (N : LT), RR Ma Fo Sc Se Tr Ch Us Ta Dr G0 N0 G1 N1 G2 N2 G3 N3 Fo2 Sc2 Se2 Tr2 Fo3 Sc3 Se3 Tr3 M N → ∀ (H : Heap) (locs : List Loc), va_P D vwCl ((List.range 31).flatMap (wB cs ad bd Ma Fo Sc Se Tr Ch Us Ta Dr G0 N0 G1 N1 G2 N2 G3 N3 Fo2 Sc2 Se2 Tr2 Fo3 Sc3 Se3 Tr3 M N)) H → va_D A ((List.range 31).flatMap (wB cs ad bd Ma Fo Sc Se Tr Ch Us Ta Dr G0 N0 G1 N1 G2 N2 G3 N3 Fo2 Sc2 Se2 Tr2 Fo3 Sc3 Se3 Tr3 M N)) → va_S A s.heap H locs → W p l e room_1 s m #[Value.ref b] below meth c H locs 98 4085 Q (F0 m 1379 ls [])) : W p l e room_1 s m #[Value.ref b] below meth c H locs 98 4085 Q (F0 m 1058 ls []) := by
  obtain ⟨hx, hb, hml, hown, hu, hK, hZ, hX, hbl, hbA, hA⟩ := LC0
  obtain ⟨r0, Maz, G0z, N0z, G1z, N1z, G2z, N2z, G3z, N3z, Mz, Nz, e1, e2, hR1⟩ := hp (xs (Int32.toNatClampNeg (y3 + 1))) (xs (Int32.toNatClampNeg (y3 + 2))) (xs (Int32.toNatClampNeg (y3 + 3))) Ma Fo Sc Se Tr Ch Us Ta Dr G0 N0 G1 N1 G2 N2 G3 N3 Fo2 Sc2 Se2 Tr2 Fo3 Sc3 Se3 Tr3 M N hR
  refine lv_aload_n hx hb dL_law_1058 rfl (lv_at hl 1 rfl) ?_
  refine lv_aload_n hx hb dL_law_1059 rfl (lv_at hl 0 rfl) ?_
  refine lv_iload_n hx hb dL_law_1060 rfl (lv_at hl 3 rfl) ?_
  refine lv_iconst (v := 1) hx hb dL_law_1061 (by decide) ?_
  refine lv_iadd hx hb dL_law_1062 ?_
  refine va_sld hx hb hX hbl hbA hS i1 dL_law_1063 ?_
  refine lv_aload_n hx hb dL_law_1064 rfl (lv_at hl 0 rfl) ?_
  refine lv_iload_n hx hb dL_law_1065 rfl (lv_at hl 3 rfl) ?_
  refine lv_iconst (v := 2) hx hb dL_law_1066 (by decide) ?_
  refine lv_iadd hx hb dL_law_1067 ?_
  refine va_sld hx hb hX hbl hbA hS i2 dL_law_1068 ?_
  refine lv_aload_n hx hb dL_law_1069 rfl (lv_at hl 0 rfl) ?_
  refine lv_iload_n hx hb dL_law_1070 rfl (lv_at hl 3 rfl) ?_
  refine lv_iconst (v := 3) hx hb dL_law_1071 (by decide) ?_
  refine lv_iadd hx hb dL_law_1072 ?_
  refine va_sld hx hb hX hbl hbA hS i3 dL_law_1073 ?_
  refine cl_VB (B' := (wB cs ad bd Maz Fo Sc Se Tr Ch Us Ta Dr G0z N0z G1z N1z G2z N2z G3z N3z Fo2 Sc2 Se2 Tr2 Fo3 Sc3 Se3 Tr3 M N)) (st1 := [.int r0]) [.int (xs (Int32.toNatClampNeg (y3 + 1))), .int (xs (Int32.toNatClampNeg (y3 + 2))), .int (xs (Int32.toNatClampNeg (y3 + 3)))] hx hb hml hown hu (tX7_sheet l D cs (ad 0) (ad 1) (ad 19) (ad 24) (ad 6) (ad 8) (ad 10) (ad 11) (ad 13) (ad 15) (ad 17) (ad 12) (ad 14) (ad 16) (ad 18) (xs (Int32.toNatClampNeg (y3 + 1))) (xs (Int32.toNatClampNeg (y3 + 2))) (xs (Int32.toNatClampNeg (y3 + 3))) Ma G0 N0 G1 N1 G2 N2 G3 N3 r0 Maz G0z N0z G1z N1z G2z N2z G3z N3z e1) q841 q54 q838 q839 q840 pdX7_sheet ⟨Nat.le_of_ble_eq_true rfl, Nat.le_of_ble_eq_true rfl⟩ ⟨rfl, rfl, Nat.le_of_ble_eq_true rfl, Nat.le_of_ble_eq_true rfl⟩ (List.range 31) [0, 10, 11, 12, 13, 14, 15, 16, 17, 18] [1, 2, 3, 4, 5, 6, 7, 8, 9, 19, 20, 21, 22, 23, 24, 25, 26, 27, 28, 29, 30] hK hZ hP hD hS hA (by decide) rfl rfl rfl rfl rfl rfl hl.1 rfl (Nat.le_of_ble_eq_true rfl) dL_law_1074 rfl (fun H locs hP hD hS => ?_)
  refine lv_aload_n hx hb dL_law_1077 rfl (lv_at hl 2 rfl) ?_
  refine lv_aload_n hx hb dL_law_1078 rfl (lv_at hl 0 rfl) ?_
  refine lv_iload_n hx hb dL_law_1079 rfl (lv_at hl 3 rfl) ?_
  refine lv_iconst (v := 1) hx hb dL_law_1080 (by decide) ?_
  refine lv_iadd hx hb dL_law_1081 ?_
  refine va_sld hx hb hX hbl hbA hS i1 dL_law_1082 ?_
  refine lv_aload_n hx hb dL_law_1083 rfl (lv_at hl 0 rfl) ?_
  refine lv_iload_n hx hb dL_law_1084 rfl (lv_at hl 3 rfl) ?_
  refine lv_iconst (v := 2) hx hb dL_law_1085 (by decide) ?_
  refine lv_iadd hx hb dL_law_1086 ?_
  refine va_sld hx hb hX hbl hbA hS i2 dL_law_1087 ?_
  refine lv_aload_n hx hb dL_law_1088 rfl (lv_at hl 0 rfl) ?_
  refine lv_iload_n hx hb dL_law_1089 rfl (lv_at hl 3 rfl) ?_
  refine lv_iconst (v := 3) hx hb dL_law_1090 (by decide) ?_
  refine lv_iadd hx hb dL_law_1091 ?_
  refine va_sld hx hb hX hbl hbA hS i3 dL_law_1092 ?_
  refine cl_VB (B' := (wB cs ad bd Maz Fo Sc Se Tr Ch Us Ta Dr G0z N0z G1z N1z G2z N2z G3z N3z Fo2 Sc2 Se2 Tr2 Fo3 Sc3 Se3 Tr3 Mz Nz)) (st1 := [.int r0, .int r0]) [.int (xs (Int32.toNatClampNeg (y3 + 1))), .int (xs (Int32.toNatClampNeg (y3 + 2))), .int (xs (Int32.toNatClampNeg (y3 + 3)))] hx hb hml hown hu (tX8_sheet l D cs (bd 0) (bd 1) (xs (Int32.toNatClampNeg (y3 + 1))) (xs (Int32.toNatClampNeg (y3 + 2))) (xs (Int32.toNatClampNeg (y3 + 3))) M N r0 Mz Nz e2) q1291 q62 q1288 q1289 q1290 pdX8_sheet ⟨Nat.le_of_ble_eq_true rfl, Nat.le_of_ble_eq_true rfl⟩ ⟨rfl, rfl, Nat.le_of_ble_eq_true rfl, Nat.le_of_ble_eq_true rfl⟩ (List.range 31) [29, 30] [0, 1, 2, 3, 4, 5, 6, 7, 8, 9, 10, 11, 12, 13, 14, 15, 16, 17, 18, 19, 20, 21, 22, 23, 24, 25, 26, 27, 28] hK hZ hP hD hS hA (by decide) rfl rfl rfl rfl rfl rfl hl.1 rfl (Nat.le_of_ble_eq_true rfl) dL_law_1093 rfl (fun H locs hP hD hS => ?_)
  refine lv_icmp_eq (tgt := 1379) hx hb dL_law_1096 (by decide) (fun _ => ?_) (fun hc => absurd rfl hc)
  exact hk Maz Fo Sc Se Tr Ch Us Ta Dr G0z N0z G1z N1z G2z N2z G3z N3z Fo2 Sc2 Se2 Tr2 Fo3 Sc3 Se3 Tr3 Mz Nz hR1 _ _ hP hD hS

set_option maxRecDepth 100000 in
set_option maxHeartbeats 4000000 in
theorem lw_c31 {p : Program} {l : Launch} {e : Env} {s : State} {m : MethodId} {below : List Frame} {meth : Method} {c : Code} {Q : State → Prop} {D : va_G} {cs : Nat → ClassId} {A : Nat → Prop} {b L : Nat} {xs : Nat → Int32} {ad bd : Nat → Nat → Nat} {RR : RT} (hp : P_write RR) (LC0 : LC p s m c b L xs D cs A) (Ma : ST) (Fo : ST) (Sc : ST) (Se : ST) (Tr : ST) (Ch : ST) (Us : ST) (Ta : ST) (Dr : ST) (G0 : ST) (N0 : LT) (G1 : ST) (N1 : LT) (G2 : ST) (N2 : LT) (G3 : ST) (N3 : LT) (Fo2 : ST) (Sc2 : ST) (Se2 : ST) (Tr2 : ST) (Fo3 : ST) (Sc3 : ST) (Se3 : ST) (Tr3 : ST) (M : ST) (N : LT) (hR : RR Ma Fo Sc Se Tr Ch Us Ta Dr G0 N0 G1 N1 G2 N2 G3 N3 Fo2 Sc2 Se2 Tr2 Fo3 Sc3 Se3 Tr3 M N) (y3 : Int32) (i1 : vp_in (y3 + 1) L) (i2 : vp_in (y3 + 2) L) (i3 : vp_in (y3 + 3) L) (i4 : vp_in (y3 + 4) L) (i5 : vp_in (y3 + 5) L) (H : Heap) (locs : List Loc) (ls : Array Slot) (hP : va_P D vwCl ((List.range 31).flatMap (wB cs ad bd Ma Fo Sc Se Tr Ch Us Ta Dr G0 N0 G1 N1 G2 N2 G3 N3 Fo2 Sc2 Se2 Tr2 Fo3 Sc3 Se3 Tr3 M N)) H) (hD : va_D A ((List.range 31).flatMap (wB cs ad bd Ma Fo Sc Se Tr Ch Us Ta Dr G0 N0 G1 N1 G2 N2 G3 N3 Fo2 Sc2 Se2 Tr2 Fo3 Sc3 Se3 Tr3 M N))) (hS : va_S A s.heap H locs) (hl : lv_has ls 4 [(0, .ref b), (1, .ref (ad 0 0)), (2, .ref (bd 0 0)), (3, .int y3)])
    (hk : ∀ (Ma : ST) (Fo : ST) (Sc : ST) (Se : ST) (Tr : ST) (Ch : ST) (Us : ST) (Ta : ST) (Dr : ST) (G0 : ST) (N0 : LT) (G1 : ST) (N1 : LT) (G2 : ST) (N2 : LT) (G3 : ST) (N3 : LT) (Fo2 : ST) (Sc2 : ST) (Se2 : ST) (Tr2 : ST) (Fo3 : ST) (Sc3 : ST) (Se3 : ST) (Tr3 : ST) (M : ST) (N : LT), RR Ma Fo Sc Se Tr Ch Us Ta Dr G0 N0 G1 N1 G2 N2 G3 N3 Fo2 Sc2 Se2 Tr2 Fo3 Sc3 Se3 Tr3 M N → ∀ (H : Heap) (locs : List Loc), va_P D vwCl ((List.range 31).flatMap (wB cs ad bd Ma Fo Sc Se Tr Ch Us Ta Dr G0 N0 G1 N1 G2 N2 G3 N3 Fo2 Sc2 Se2 Tr2 Fo3 Sc3 Se3 Tr3 M N)) H → va_D A ((List.range 31).flatMap (wB cs ad bd Ma Fo Sc Se Tr Ch Us Ta Dr G0 N0 G1 N1 G2 N2 G3 N3 Fo2 Sc2 Se2 Tr2 Fo3 Sc3 Se3 Tr3 M N)) → va_S A s.heap H locs → W p l e room_1 s m #[Value.ref b] below meth c H locs 98 4085 Q (F0 m 1379 ls [])) : W p l e room_1 s m #[Value.ref b] below meth c H locs 98 4085 Q (F0 m 1101 ls []) := by
  obtain ⟨hx, hb, hml, hown, hu, hK, hZ, hX, hbl, hbA, hA⟩ := LC0
  obtain ⟨r0, Maz, N0z, N1z, N2z, N3z, Mz, Nz, e1, e2, hR1⟩ := hp (xs (Int32.toNatClampNeg (y3 + 1))) (xs (Int32.toNatClampNeg (y3 + 2))) ((((xs (Int32.toNatClampNeg (y3 + 3))).toInt64) <<< ((32 : Int32).toInt64 &&& 63)) ||| (((xs (Int32.toNatClampNeg (y3 + 4))).toInt64) &&& 4294967295)) Ma Fo Sc Se Tr Ch Us Ta Dr G0 N0 G1 N1 G2 N2 G3 N3 Fo2 Sc2 Se2 Tr2 Fo3 Sc3 Se3 Tr3 M N hR
  refine lv_aload_n hx hb dL_law_1101 rfl (lv_at hl 1 rfl) ?_
  refine lv_aload_n hx hb dL_law_1102 rfl (lv_at hl 0 rfl) ?_
  refine lv_iload_n hx hb dL_law_1103 rfl (lv_at hl 3 rfl) ?_
  refine lv_iconst (v := 1) hx hb dL_law_1104 (by decide) ?_
  refine lv_iadd hx hb dL_law_1105 ?_
  refine va_sld hx hb hX hbl hbA hS i1 dL_law_1106 ?_
  refine lv_aload_n hx hb dL_law_1107 rfl (lv_at hl 0 rfl) ?_
  refine lv_iload_n hx hb dL_law_1108 rfl (lv_at hl 3 rfl) ?_
  refine lv_iconst (v := 2) hx hb dL_law_1109 (by decide) ?_
  refine lv_iadd hx hb dL_law_1110 ?_
  refine va_sld hx hb hX hbl hbA hS i2 dL_law_1111 ?_
  refine lv_aload_n hx hb dL_law_1112 rfl (lv_at hl 0 rfl) ?_
  refine lv_iload_n hx hb dL_law_1113 rfl (lv_at hl 3 rfl) ?_
  refine lv_iconst (v := 3) hx hb dL_law_1114 (by decide) ?_
  refine lv_iadd hx hb dL_law_1115 ?_
  refine va_sld hx hb hX hbl hbA hS i3 dL_law_1116 ?_
  refine lv_i2l (v := ((xs (Int32.toNatClampNeg (y3 + 3))).toInt64)) hx hb dL_law_1117 rfl ?_
  refine lv_bipush (v := 32) hx hb dL_law_1118 (by decide) ?_
  refine lv_lshl (v := (((xs (Int32.toNatClampNeg (y3 + 3))).toInt64) <<< ((32 : Int32).toInt64 &&& 63))) hx hb dL_law_1120 rfl ?_
  refine lv_aload_n hx hb dL_law_1121 rfl (lv_at hl 0 rfl) ?_
  refine lv_iload_n hx hb dL_law_1122 rfl (lv_at hl 3 rfl) ?_
  refine lv_iconst (v := 4) hx hb dL_law_1123 (by decide) ?_
  refine lv_iadd hx hb dL_law_1124 ?_
  refine va_sld hx hb hX hbl hbA hS i4 dL_law_1125 ?_
  refine lv_i2l (v := ((xs (Int32.toNatClampNeg (y3 + 4))).toInt64)) hx hb dL_law_1126 rfl ?_
  refine lv_ldc2 (v := 4294967295) hx hb hown (hu _ q1345) dL_law_1127 ?_
  refine lv_land hx hb dL_law_1130 ?_
  refine lv_lor hx hb dL_law_1131 ?_
  refine cl_VB (B' := (wB cs ad bd Maz Fo Sc Se Tr Ch Us Ta Dr G0 N0z G1 N1z G2 N2z G3 N3z Fo2 Sc2 Se2 Tr2 Fo3 Sc3 Se3 Tr3 M N)) (st1 := [.long r0]) [.int (xs (Int32.toNatClampNeg (y3 + 1))), .int (xs (Int32.toNatClampNeg (y3 + 2))), .long ((((xs (Int32.toNatClampNeg (y3 + 3))).toInt64) <<< ((32 : Int32).toInt64 &&& 63)) ||| (((xs (Int32.toNatClampNeg (y3 + 4))).toInt64) &&& 4294967295))] hx hb hml hown hu (tX7_write l D cs (ad 0) (ad 1) (ad 19) (ad 24) (ad 6) (ad 8) (ad 10) (ad 11) (ad 13) (ad 15) (ad 17) (ad 12) (ad 14) (ad 16) (ad 18) (xs (Int32.toNatClampNeg (y3 + 1))) (xs (Int32.toNatClampNeg (y3 + 2))) ((((xs (Int32.toNatClampNeg (y3 + 3))).toInt64) <<< ((32 : Int32).toInt64 &&& 63)) ||| (((xs (Int32.toNatClampNeg (y3 + 4))).toInt64) &&& 4294967295)) Ma G0 N0 G1 N1 G2 N2 G3 N3 r0 Maz N0z N1z N2z N3z e1) q856 q54 q853 q854 q855 pdX7_write ⟨Nat.le_of_ble_eq_true rfl, Nat.le_of_ble_eq_true rfl⟩ ⟨rfl, rfl, Nat.le_of_ble_eq_true rfl, Nat.le_of_ble_eq_true rfl⟩ (List.range 31) [0, 10, 11, 12, 13, 14, 15, 16, 17, 18] [1, 2, 3, 4, 5, 6, 7, 8, 9, 19, 20, 21, 22, 23, 24, 25, 26, 27, 28, 29, 30] hK hZ hP hD hS hA (by decide) rfl rfl rfl rfl rfl rfl hl.1 rfl (Nat.le_of_ble_eq_true rfl) dL_law_1132 rfl (fun H locs hP hD hS => ?_)
  refine lv_aload_n hx hb dL_law_1135 rfl (lv_at hl 2 rfl) ?_
  refine lv_aload_n hx hb dL_law_1136 rfl (lv_at hl 0 rfl) ?_
  refine lv_iload_n hx hb dL_law_1137 rfl (lv_at hl 3 rfl) ?_
  refine lv_iconst (v := 1) hx hb dL_law_1138 (by decide) ?_
  refine lv_iadd hx hb dL_law_1139 ?_
  refine va_sld hx hb hX hbl hbA hS i1 dL_law_1140 ?_
  refine lv_aload_n hx hb dL_law_1141 rfl (lv_at hl 0 rfl) ?_
  refine lv_iload_n hx hb dL_law_1142 rfl (lv_at hl 3 rfl) ?_
  refine lv_iconst (v := 2) hx hb dL_law_1143 (by decide) ?_
  refine lv_iadd hx hb dL_law_1144 ?_
  refine va_sld hx hb hX hbl hbA hS i2 dL_law_1145 ?_
  refine lv_aload_n hx hb dL_law_1146 rfl (lv_at hl 0 rfl) ?_
  refine lv_iload_n hx hb dL_law_1147 rfl (lv_at hl 3 rfl) ?_
  refine lv_iconst (v := 3) hx hb dL_law_1148 (by decide) ?_
  refine lv_iadd hx hb dL_law_1149 ?_
  refine va_sld hx hb hX hbl hbA hS i3 dL_law_1150 ?_
  refine lv_i2l (v := ((xs (Int32.toNatClampNeg (y3 + 3))).toInt64)) hx hb dL_law_1151 rfl ?_
  refine lv_bipush (v := 32) hx hb dL_law_1152 (by decide) ?_
  refine lv_lshl (v := (((xs (Int32.toNatClampNeg (y3 + 3))).toInt64) <<< ((32 : Int32).toInt64 &&& 63))) hx hb dL_law_1154 rfl ?_
  refine lv_aload_n hx hb dL_law_1155 rfl (lv_at hl 0 rfl) ?_
  refine lv_iload_n hx hb dL_law_1156 rfl (lv_at hl 3 rfl) ?_
  refine lv_iconst (v := 4) hx hb dL_law_1157 (by decide) ?_
  refine lv_iadd hx hb dL_law_1158 ?_
  refine va_sld hx hb hX hbl hbA hS i4 dL_law_1159 ?_
  refine lv_i2l (v := ((xs (Int32.toNatClampNeg (y3 + 4))).toInt64)) hx hb dL_law_1160 rfl ?_
  refine lv_ldc2 (v := 4294967295) hx hb hown (hu _ q1345) dL_law_1161 ?_
  refine lv_land hx hb dL_law_1164 ?_
  refine lv_lor hx hb dL_law_1165 ?_
  refine cl_VB (B' := (wB cs ad bd Maz Fo Sc Se Tr Ch Us Ta Dr G0 N0z G1 N1z G2 N2z G3 N3z Fo2 Sc2 Se2 Tr2 Fo3 Sc3 Se3 Tr3 Mz Nz)) (st1 := [.long r0, .long r0]) [.int (xs (Int32.toNatClampNeg (y3 + 1))), .int (xs (Int32.toNatClampNeg (y3 + 2))), .long ((((xs (Int32.toNatClampNeg (y3 + 3))).toInt64) <<< ((32 : Int32).toInt64 &&& 63)) ||| (((xs (Int32.toNatClampNeg (y3 + 4))).toInt64) &&& 4294967295))] hx hb hml hown hu (tX8_write l D cs (bd 0) (bd 1) (xs (Int32.toNatClampNeg (y3 + 1))) (xs (Int32.toNatClampNeg (y3 + 2))) ((((xs (Int32.toNatClampNeg (y3 + 3))).toInt64) <<< ((32 : Int32).toInt64 &&& 63)) ||| (((xs (Int32.toNatClampNeg (y3 + 4))).toInt64) &&& 4294967295)) M N r0 Mz Nz e2) q1299 q62 q1296 q1297 q1298 pdX8_write ⟨Nat.le_of_ble_eq_true rfl, Nat.le_of_ble_eq_true rfl⟩ ⟨rfl, rfl, Nat.le_of_ble_eq_true rfl, Nat.le_of_ble_eq_true rfl⟩ (List.range 31) [29, 30] [0, 1, 2, 3, 4, 5, 6, 7, 8, 9, 10, 11, 12, 13, 14, 15, 16, 17, 18, 19, 20, 21, 22, 23, 24, 25, 26, 27, 28] hK hZ hP hD hS hA (by decide) rfl rfl rfl rfl rfl rfl hl.1 rfl (Nat.le_of_ble_eq_true rfl) dL_law_1166 rfl (fun H locs hP hD hS => ?_)
  refine W.lcmp hx hb dL_law_1169 ?_
  refine lv_if_eq (tgt := 1379) hx hb dL_law_1170 (by decide) (fun _ => ?_) (fun hc => absurd (lg_cmp_self r0) hc)
  exact hk Maz Fo Sc Se Tr Ch Us Ta Dr G0 N0z G1 N1z G2 N2z G3 N3z Fo2 Sc2 Se2 Tr2 Fo3 Sc3 Se3 Tr3 Mz Nz hR1 _ _ hP hD hS

set_option maxRecDepth 100000 in
set_option maxHeartbeats 4000000 in
theorem lw_c32 {p : Program} {l : Launch} {e : Env} {s : State} {m : MethodId} {below : List Frame} {meth : Method} {c : Code} {Q : State → Prop} {D : va_G} {cs : Nat → ClassId} {A : Nat → Prop} {b L : Nat} {xs : Nat → Int32} {ad bd : Nat → Nat → Nat} {RR : RT} (hp : P_copy RR) (LC0 : LC p s m c b L xs D cs A) (Ma : ST) (Fo : ST) (Sc : ST) (Se : ST) (Tr : ST) (Ch : ST) (Us : ST) (Ta : ST) (Dr : ST) (G0 : ST) (N0 : LT) (G1 : ST) (N1 : LT) (G2 : ST) (N2 : LT) (G3 : ST) (N3 : LT) (Fo2 : ST) (Sc2 : ST) (Se2 : ST) (Tr2 : ST) (Fo3 : ST) (Sc3 : ST) (Se3 : ST) (Tr3 : ST) (M : ST) (N : LT) (hR : RR Ma Fo Sc Se Tr Ch Us Ta Dr G0 N0 G1 N1 G2 N2 G3 N3 Fo2 Sc2 Se2 Tr2 Fo3 Sc3 Se3 Tr3 M N) (y3 : Int32) (i1 : vp_in (y3 + 1) L) (i2 : vp_in (y3 + 2) L) (i3 : vp_in (y3 + 3) L) (i4 : vp_in (y3 + 4) L) (i5 : vp_in (y3 + 5) L) (H : Heap) (locs : List Loc) (ls : Array Slot) (hP : va_P D vwCl ((List.range 31).flatMap (wB cs ad bd Ma Fo Sc Se Tr Ch Us Ta Dr G0 N0 G1 N1 G2 N2 G3 N3 Fo2 Sc2 Se2 Tr2 Fo3 Sc3 Se3 Tr3 M N)) H) (hD : va_D A ((List.range 31).flatMap (wB cs ad bd Ma Fo Sc Se Tr Ch Us Ta Dr G0 N0 G1 N1 G2 N2 G3 N3 Fo2 Sc2 Se2 Tr2 Fo3 Sc3 Se3 Tr3 M N))) (hS : va_S A s.heap H locs) (hl : lv_has ls 4 [(0, .ref b), (1, .ref (ad 0 0)), (2, .ref (bd 0 0)), (3, .int y3)])
    (hk : ∀ (Ma : ST) (Fo : ST) (Sc : ST) (Se : ST) (Tr : ST) (Ch : ST) (Us : ST) (Ta : ST) (Dr : ST) (G0 : ST) (N0 : LT) (G1 : ST) (N1 : LT) (G2 : ST) (N2 : LT) (G3 : ST) (N3 : LT) (Fo2 : ST) (Sc2 : ST) (Se2 : ST) (Tr2 : ST) (Fo3 : ST) (Sc3 : ST) (Se3 : ST) (Tr3 : ST) (M : ST) (N : LT), RR Ma Fo Sc Se Tr Ch Us Ta Dr G0 N0 G1 N1 G2 N2 G3 N3 Fo2 Sc2 Se2 Tr2 Fo3 Sc3 Se3 Tr3 M N → ∀ (H : Heap) (locs : List Loc), va_P D vwCl ((List.range 31).flatMap (wB cs ad bd Ma Fo Sc Se Tr Ch Us Ta Dr G0 N0 G1 N1 G2 N2 G3 N3 Fo2 Sc2 Se2 Tr2 Fo3 Sc3 Se3 Tr3 M N)) H → va_D A ((List.range 31).flatMap (wB cs ad bd Ma Fo Sc Se Tr Ch Us Ta Dr G0 N0 G1 N1 G2 N2 G3 N3 Fo2 Sc2 Se2 Tr2 Fo3 Sc3 Se3 Tr3 M N)) → va_S A s.heap H locs → W p l e room_1 s m #[Value.ref b] below meth c H locs 98 4085 Q (F0 m 1379 ls [])) : W p l e room_1 s m #[Value.ref b] below meth c H locs 98 4085 Q (F0 m 1175 ls []) := by
  obtain ⟨hx, hb, hml, hown, hu, hK, hZ, hX, hbl, hbA, hA⟩ := LC0
  obtain ⟨r0, Maz, N0z, N1z, N2z, N3z, Mz, Nz, e1, e2, hR1⟩ := hp (xs (Int32.toNatClampNeg (y3 + 1))) (xs (Int32.toNatClampNeg (y3 + 2))) (xs (Int32.toNatClampNeg (y3 + 3))) (xs (Int32.toNatClampNeg (y3 + 4))) (xs (Int32.toNatClampNeg (y3 + 5))) Ma Fo Sc Se Tr Ch Us Ta Dr G0 N0 G1 N1 G2 N2 G3 N3 Fo2 Sc2 Se2 Tr2 Fo3 Sc3 Se3 Tr3 M N hR
  refine lv_aload_n hx hb dL_law_1175 rfl (lv_at hl 1 rfl) ?_
  refine lv_aload_n hx hb dL_law_1176 rfl (lv_at hl 0 rfl) ?_
  refine lv_iload_n hx hb dL_law_1177 rfl (lv_at hl 3 rfl) ?_
  refine lv_iconst (v := 1) hx hb dL_law_1178 (by decide) ?_
  refine lv_iadd hx hb dL_law_1179 ?_
  refine va_sld hx hb hX hbl hbA hS i1 dL_law_1180 ?_
  refine lv_aload_n hx hb dL_law_1181 rfl (lv_at hl 0 rfl) ?_
  refine lv_iload_n hx hb dL_law_1182 rfl (lv_at hl 3 rfl) ?_
  refine lv_iconst (v := 2) hx hb dL_law_1183 (by decide) ?_
  refine lv_iadd hx hb dL_law_1184 ?_
  refine va_sld hx hb hX hbl hbA hS i2 dL_law_1185 ?_
  refine lv_aload_n hx hb dL_law_1186 rfl (lv_at hl 0 rfl) ?_
  refine lv_iload_n hx hb dL_law_1187 rfl (lv_at hl 3 rfl) ?_
  refine lv_iconst (v := 3) hx hb dL_law_1188 (by decide) ?_
  refine lv_iadd hx hb dL_law_1189 ?_
  refine va_sld hx hb hX hbl hbA hS i3 dL_law_1190 ?_
  refine lv_aload_n hx hb dL_law_1191 rfl (lv_at hl 0 rfl) ?_
  refine lv_iload_n hx hb dL_law_1192 rfl (lv_at hl 3 rfl) ?_
  refine lv_iconst (v := 4) hx hb dL_law_1193 (by decide) ?_
  refine lv_iadd hx hb dL_law_1194 ?_
  refine va_sld hx hb hX hbl hbA hS i4 dL_law_1195 ?_
  refine lv_aload_n hx hb dL_law_1196 rfl (lv_at hl 0 rfl) ?_
  refine lv_iload_n hx hb dL_law_1197 rfl (lv_at hl 3 rfl) ?_
  refine lv_iconst (v := 5) hx hb dL_law_1198 (by decide) ?_
  refine lv_iadd hx hb dL_law_1199 ?_
  refine va_sld hx hb hX hbl hbA hS i5 dL_law_1200 ?_
  refine cl_VB (B' := (wB cs ad bd Maz Fo Sc Se Tr Ch Us Ta Dr G0 N0z G1 N1z G2 N2z G3 N3z Fo2 Sc2 Se2 Tr2 Fo3 Sc3 Se3 Tr3 M N)) (st1 := [.int r0]) [.int (xs (Int32.toNatClampNeg (y3 + 1))), .int (xs (Int32.toNatClampNeg (y3 + 2))), .int (xs (Int32.toNatClampNeg (y3 + 3))), .int (xs (Int32.toNatClampNeg (y3 + 4))), .int (xs (Int32.toNatClampNeg (y3 + 5)))] hx hb hml hown hu (tX7_copy l D cs (ad 0) (ad 1) (ad 19) (ad 24) (ad 6) (ad 8) (ad 10) (ad 11) (ad 13) (ad 15) (ad 17) (ad 12) (ad 14) (ad 16) (ad 18) (xs (Int32.toNatClampNeg (y3 + 1))) (xs (Int32.toNatClampNeg (y3 + 2))) (xs (Int32.toNatClampNeg (y3 + 3))) (xs (Int32.toNatClampNeg (y3 + 4))) (xs (Int32.toNatClampNeg (y3 + 5))) Ma G0 N0 G1 N1 G2 N2 G3 N3 r0 Maz N0z N1z N2z N3z e1) q869 q54 q866 q867 q868 pdX7_copy ⟨Nat.le_of_ble_eq_true rfl, Nat.le_of_ble_eq_true rfl⟩ ⟨rfl, rfl, Nat.le_of_ble_eq_true rfl, Nat.le_of_ble_eq_true rfl⟩ (List.range 31) [0, 10, 11, 12, 13, 14, 15, 16, 17, 18] [1, 2, 3, 4, 5, 6, 7, 8, 9, 19, 20, 21, 22, 23, 24, 25, 26, 27, 28, 29, 30] hK hZ hP hD hS hA (by decide) rfl rfl rfl rfl rfl rfl hl.1 rfl (Nat.le_of_ble_eq_true rfl) dL_law_1201 rfl (fun H locs hP hD hS => ?_)
  refine lv_aload_n hx hb dL_law_1204 rfl (lv_at hl 2 rfl) ?_
  refine lv_aload_n hx hb dL_law_1205 rfl (lv_at hl 0 rfl) ?_
  refine lv_iload_n hx hb dL_law_1206 rfl (lv_at hl 3 rfl) ?_
  refine lv_iconst (v := 1) hx hb dL_law_1207 (by decide) ?_
  refine lv_iadd hx hb dL_law_1208 ?_
  refine va_sld hx hb hX hbl hbA hS i1 dL_law_1209 ?_
  refine lv_aload_n hx hb dL_law_1210 rfl (lv_at hl 0 rfl) ?_
  refine lv_iload_n hx hb dL_law_1211 rfl (lv_at hl 3 rfl) ?_
  refine lv_iconst (v := 2) hx hb dL_law_1212 (by decide) ?_
  refine lv_iadd hx hb dL_law_1213 ?_
  refine va_sld hx hb hX hbl hbA hS i2 dL_law_1214 ?_
  refine lv_aload_n hx hb dL_law_1215 rfl (lv_at hl 0 rfl) ?_
  refine lv_iload_n hx hb dL_law_1216 rfl (lv_at hl 3 rfl) ?_
  refine lv_iconst (v := 3) hx hb dL_law_1217 (by decide) ?_
  refine lv_iadd hx hb dL_law_1218 ?_
  refine va_sld hx hb hX hbl hbA hS i3 dL_law_1219 ?_
  refine lv_aload_n hx hb dL_law_1220 rfl (lv_at hl 0 rfl) ?_
  refine lv_iload_n hx hb dL_law_1221 rfl (lv_at hl 3 rfl) ?_
  refine lv_iconst (v := 4) hx hb dL_law_1222 (by decide) ?_
  refine lv_iadd hx hb dL_law_1223 ?_
  refine va_sld hx hb hX hbl hbA hS i4 dL_law_1224 ?_
  refine lv_aload_n hx hb dL_law_1225 rfl (lv_at hl 0 rfl) ?_
  refine lv_iload_n hx hb dL_law_1226 rfl (lv_at hl 3 rfl) ?_
  refine lv_iconst (v := 5) hx hb dL_law_1227 (by decide) ?_
  refine lv_iadd hx hb dL_law_1228 ?_
  refine va_sld hx hb hX hbl hbA hS i5 dL_law_1229 ?_
  refine cl_VB (B' := (wB cs ad bd Maz Fo Sc Se Tr Ch Us Ta Dr G0 N0z G1 N1z G2 N2z G3 N3z Fo2 Sc2 Se2 Tr2 Fo3 Sc3 Se3 Tr3 Mz Nz)) (st1 := [.int r0, .int r0]) [.int (xs (Int32.toNatClampNeg (y3 + 1))), .int (xs (Int32.toNatClampNeg (y3 + 2))), .int (xs (Int32.toNatClampNeg (y3 + 3))), .int (xs (Int32.toNatClampNeg (y3 + 4))), .int (xs (Int32.toNatClampNeg (y3 + 5)))] hx hb hml hown hu (tX8_copy l D cs (bd 0) (bd 1) (xs (Int32.toNatClampNeg (y3 + 1))) (xs (Int32.toNatClampNeg (y3 + 2))) (xs (Int32.toNatClampNeg (y3 + 3))) (xs (Int32.toNatClampNeg (y3 + 4))) (xs (Int32.toNatClampNeg (y3 + 5))) M N r0 Mz Nz e2) q1307 q62 q1304 q1305 q1306 pdX8_copy ⟨Nat.le_of_ble_eq_true rfl, Nat.le_of_ble_eq_true rfl⟩ ⟨rfl, rfl, Nat.le_of_ble_eq_true rfl, Nat.le_of_ble_eq_true rfl⟩ (List.range 31) [29, 30] [0, 1, 2, 3, 4, 5, 6, 7, 8, 9, 10, 11, 12, 13, 14, 15, 16, 17, 18, 19, 20, 21, 22, 23, 24, 25, 26, 27, 28] hK hZ hP hD hS hA (by decide) rfl rfl rfl rfl rfl rfl hl.1 rfl (Nat.le_of_ble_eq_true rfl) dL_law_1230 rfl (fun H locs hP hD hS => ?_)
  refine lv_icmp_eq (tgt := 1379) hx hb dL_law_1233 (by decide) (fun _ => ?_) (fun hc => absurd rfl hc)
  exact hk Maz Fo Sc Se Tr Ch Us Ta Dr G0 N0z G1 N1z G2 N2z G3 N3z Fo2 Sc2 Se2 Tr2 Fo3 Sc3 Se3 Tr3 Mz Nz hR1 _ _ hP hD hS

set_option maxRecDepth 100000 in
set_option maxHeartbeats 4000000 in
theorem lw_c33 {p : Program} {l : Launch} {e : Env} {s : State} {m : MethodId} {below : List Frame} {meth : Method} {c : Code} {Q : State → Prop} {D : va_G} {cs : Nat → ClassId} {A : Nat → Prop} {b L : Nat} {xs : Nat → Int32} {ad bd : Nat → Nat → Nat} {RR : RT} (hp : P_lays RR) (LC0 : LC p s m c b L xs D cs A) (Ma : ST) (Fo : ST) (Sc : ST) (Se : ST) (Tr : ST) (Ch : ST) (Us : ST) (Ta : ST) (Dr : ST) (G0 : ST) (N0 : LT) (G1 : ST) (N1 : LT) (G2 : ST) (N2 : LT) (G3 : ST) (N3 : LT) (Fo2 : ST) (Sc2 : ST) (Se2 : ST) (Tr2 : ST) (Fo3 : ST) (Sc3 : ST) (Se3 : ST) (Tr3 : ST) (M : ST) (N : LT) (hR : RR Ma Fo Sc Se Tr Ch Us Ta Dr G0 N0 G1 N1 G2 N2 G3 N3 Fo2 Sc2 Se2 Tr2 Fo3 Sc3 Se3 Tr3 M N) (y3 : Int32) (i1 : vp_in (y3 + 1) L) (i2 : vp_in (y3 + 2) L) (i3 : vp_in (y3 + 3) L) (i4 : vp_in (y3 + 4) L) (i5 : vp_in (y3 + 5) L) (H : Heap) (locs : List Loc) (ls : Array Slot) (hP : va_P D vwCl ((List.range 31).flatMap (wB cs ad bd Ma Fo Sc Se Tr Ch Us Ta Dr G0 N0 G1 N1 G2 N2 G3 N3 Fo2 Sc2 Se2 Tr2 Fo3 Sc3 Se3 Tr3 M N)) H) (hD : va_D A ((List.range 31).flatMap (wB cs ad bd Ma Fo Sc Se Tr Ch Us Ta Dr G0 N0 G1 N1 G2 N2 G3 N3 Fo2 Sc2 Se2 Tr2 Fo3 Sc3 Se3 Tr3 M N))) (hS : va_S A s.heap H locs) (hl : lv_has ls 4 [(0, .ref b), (1, .ref (ad 0 0)), (2, .ref (bd 0 0)), (3, .int y3)])
    (hk : ∀ (Ma : ST) (Fo : ST) (Sc : ST) (Se : ST) (Tr : ST) (Ch : ST) (Us : ST) (Ta : ST) (Dr : ST) (G0 : ST) (N0 : LT) (G1 : ST) (N1 : LT) (G2 : ST) (N2 : LT) (G3 : ST) (N3 : LT) (Fo2 : ST) (Sc2 : ST) (Se2 : ST) (Tr2 : ST) (Fo3 : ST) (Sc3 : ST) (Se3 : ST) (Tr3 : ST) (M : ST) (N : LT), RR Ma Fo Sc Se Tr Ch Us Ta Dr G0 N0 G1 N1 G2 N2 G3 N3 Fo2 Sc2 Se2 Tr2 Fo3 Sc3 Se3 Tr3 M N → ∀ (H : Heap) (locs : List Loc), va_P D vwCl ((List.range 31).flatMap (wB cs ad bd Ma Fo Sc Se Tr Ch Us Ta Dr G0 N0 G1 N1 G2 N2 G3 N3 Fo2 Sc2 Se2 Tr2 Fo3 Sc3 Se3 Tr3 M N)) H → va_D A ((List.range 31).flatMap (wB cs ad bd Ma Fo Sc Se Tr Ch Us Ta Dr G0 N0 G1 N1 G2 N2 G3 N3 Fo2 Sc2 Se2 Tr2 Fo3 Sc3 Se3 Tr3 M N)) → va_S A s.heap H locs → W p l e room_1 s m #[Value.ref b] below meth c H locs 98 4085 Q (F0 m 1379 ls [])) : W p l e room_1 s m #[Value.ref b] below meth c H locs 98 4085 Q (F0 m 1238 ls []) := by
  obtain ⟨hx, hb, hml, hown, hu, hK, hZ, hX, hbl, hbA, hA⟩ := LC0
  obtain ⟨r0, Maz, Foz, Mz, e1, e2, hR1⟩ := hp (xs (Int32.toNatClampNeg (y3 + 1))) (xs (Int32.toNatClampNeg (y3 + 2))) Ma Fo Sc Se Tr Ch Us Ta Dr G0 N0 G1 N1 G2 N2 G3 N3 Fo2 Sc2 Se2 Tr2 Fo3 Sc3 Se3 Tr3 M N hR
  refine lv_aload_n hx hb dL_law_1238 rfl (lv_at hl 1 rfl) ?_
  refine lv_aload_n hx hb dL_law_1239 rfl (lv_at hl 0 rfl) ?_
  refine lv_iload_n hx hb dL_law_1240 rfl (lv_at hl 3 rfl) ?_
  refine lv_iconst (v := 1) hx hb dL_law_1241 (by decide) ?_
  refine lv_iadd hx hb dL_law_1242 ?_
  refine va_sld hx hb hX hbl hbA hS i1 dL_law_1243 ?_
  refine lv_aload_n hx hb dL_law_1244 rfl (lv_at hl 0 rfl) ?_
  refine lv_iload_n hx hb dL_law_1245 rfl (lv_at hl 3 rfl) ?_
  refine lv_iconst (v := 2) hx hb dL_law_1246 (by decide) ?_
  refine lv_iadd hx hb dL_law_1247 ?_
  refine va_sld hx hb hX hbl hbA hS i2 dL_law_1248 ?_
  refine cl_VB (B' := (wB cs ad bd Maz Foz Sc Se Tr Ch Us Ta Dr G0 N0 G1 N1 G2 N2 G3 N3 Fo2 Sc2 Se2 Tr2 Fo3 Sc3 Se3 Tr3 M N)) (st1 := [.int r0]) [.int (xs (Int32.toNatClampNeg (y3 + 1))), .int (xs (Int32.toNatClampNeg (y3 + 2)))] hx hb hml hown hu (tX7_lays l D cs (ad 0) (ad 1) (ad 19) (ad 24) (ad 6) (ad 8) (ad 10) (ad 2) (ad 3) (ad 5) (ad 4) (ad 11) (ad 13) (ad 15) (ad 17) (ad 12) (ad 14) (ad 16) (ad 18) (xs (Int32.toNatClampNeg (y3 + 1))) (xs (Int32.toNatClampNeg (y3 + 2))) Ma Fo G0 N0 G1 N1 G2 N2 G3 N3 r0 Maz Foz e1) q878 q54 q875 q876 q877 pdX7_lays ⟨Nat.le_of_ble_eq_true rfl, Nat.le_of_ble_eq_true rfl⟩ ⟨rfl, rfl, Nat.le_of_ble_eq_true rfl, Nat.le_of_ble_eq_true rfl⟩ (List.range 31) [0, 1, 2, 10, 11, 12, 13, 14, 15, 16, 17, 18] [3, 4, 5, 6, 7, 8, 9, 19, 20, 21, 22, 23, 24, 25, 26, 27, 28, 29, 30] hK hZ hP hD hS hA (by decide) rfl rfl rfl rfl rfl rfl hl.1 rfl (Nat.le_of_ble_eq_true rfl) dL_law_1249 rfl (fun H locs hP hD hS => ?_)
  refine lv_aload_n hx hb dL_law_1252 rfl (lv_at hl 2 rfl) ?_
  refine lv_aload_n hx hb dL_law_1253 rfl (lv_at hl 0 rfl) ?_
  refine lv_iload_n hx hb dL_law_1254 rfl (lv_at hl 3 rfl) ?_
  refine lv_iconst (v := 1) hx hb dL_law_1255 (by decide) ?_
  refine lv_iadd hx hb dL_law_1256 ?_
  refine va_sld hx hb hX hbl hbA hS i1 dL_law_1257 ?_
  refine lv_aload_n hx hb dL_law_1258 rfl (lv_at hl 0 rfl) ?_
  refine lv_iload_n hx hb dL_law_1259 rfl (lv_at hl 3 rfl) ?_
  refine lv_iconst (v := 2) hx hb dL_law_1260 (by decide) ?_
  refine lv_iadd hx hb dL_law_1261 ?_
  refine va_sld hx hb hX hbl hbA hS i2 dL_law_1262 ?_
  refine cl_VB (B' := (wB cs ad bd Maz Foz Sc Se Tr Ch Us Ta Dr G0 N0 G1 N1 G2 N2 G3 N3 Fo2 Sc2 Se2 Tr2 Fo3 Sc3 Se3 Tr3 Mz N)) (st1 := [.int r0, .int r0]) [.int (xs (Int32.toNatClampNeg (y3 + 1))), .int (xs (Int32.toNatClampNeg (y3 + 2)))] hx hb hml hown hu (tX8_lays l D cs (bd 0) (bd 1) (xs (Int32.toNatClampNeg (y3 + 1))) (xs (Int32.toNatClampNeg (y3 + 2))) M N r0 Mz e2) q1311 q62 q1308 q1309 q1310 pdX8_lays ⟨Nat.le_of_ble_eq_true rfl, Nat.le_of_ble_eq_true rfl⟩ ⟨rfl, rfl, Nat.le_of_ble_eq_true rfl, Nat.le_of_ble_eq_true rfl⟩ (List.range 31) [29, 30] [0, 1, 2, 3, 4, 5, 6, 7, 8, 9, 10, 11, 12, 13, 14, 15, 16, 17, 18, 19, 20, 21, 22, 23, 24, 25, 26, 27, 28] hK hZ hP hD hS hA (by decide) rfl rfl rfl rfl rfl rfl hl.1 rfl (Nat.le_of_ble_eq_true rfl) dL_law_1263 rfl (fun H locs hP hD hS => ?_)
  refine lv_icmp_eq (tgt := 1379) hx hb dL_law_1266 (by decide) (fun _ => ?_) (fun hc => absurd rfl hc)
  exact hk Maz Foz Sc Se Tr Ch Us Ta Dr G0 N0 G1 N1 G2 N2 G3 N3 Fo2 Sc2 Se2 Tr2 Fo3 Sc3 Se3 Tr3 Mz N hR1 _ _ hP hD hS

set_option maxRecDepth 100000 in
set_option maxHeartbeats 4000000 in
theorem lw_c34 {p : Program} {l : Launch} {e : Env} {s : State} {m : MethodId} {below : List Frame} {meth : Method} {c : Code} {Q : State → Prop} {D : va_G} {cs : Nat → ClassId} {A : Nat → Prop} {b L : Nat} {xs : Nat → Int32} {ad bd : Nat → Nat → Nat} {RR : RT} (hp : P_read RR) (LC0 : LC p s m c b L xs D cs A) (Ma : ST) (Fo : ST) (Sc : ST) (Se : ST) (Tr : ST) (Ch : ST) (Us : ST) (Ta : ST) (Dr : ST) (G0 : ST) (N0 : LT) (G1 : ST) (N1 : LT) (G2 : ST) (N2 : LT) (G3 : ST) (N3 : LT) (Fo2 : ST) (Sc2 : ST) (Se2 : ST) (Tr2 : ST) (Fo3 : ST) (Sc3 : ST) (Se3 : ST) (Tr3 : ST) (M : ST) (N : LT) (hR : RR Ma Fo Sc Se Tr Ch Us Ta Dr G0 N0 G1 N1 G2 N2 G3 N3 Fo2 Sc2 Se2 Tr2 Fo3 Sc3 Se3 Tr3 M N) (y3 : Int32) (i1 : vp_in (y3 + 1) L) (i2 : vp_in (y3 + 2) L) (i3 : vp_in (y3 + 3) L) (i4 : vp_in (y3 + 4) L) (i5 : vp_in (y3 + 5) L) (H : Heap) (locs : List Loc) (ls : Array Slot) (hP : va_P D vwCl ((List.range 31).flatMap (wB cs ad bd Ma Fo Sc Se Tr Ch Us Ta Dr G0 N0 G1 N1 G2 N2 G3 N3 Fo2 Sc2 Se2 Tr2 Fo3 Sc3 Se3 Tr3 M N)) H) (hD : va_D A ((List.range 31).flatMap (wB cs ad bd Ma Fo Sc Se Tr Ch Us Ta Dr G0 N0 G1 N1 G2 N2 G3 N3 Fo2 Sc2 Se2 Tr2 Fo3 Sc3 Se3 Tr3 M N))) (hS : va_S A s.heap H locs) (hl : lv_has ls 4 [(0, .ref b), (1, .ref (ad 0 0)), (2, .ref (bd 0 0)), (3, .int y3)])
    (hk : ∀ (Ma : ST) (Fo : ST) (Sc : ST) (Se : ST) (Tr : ST) (Ch : ST) (Us : ST) (Ta : ST) (Dr : ST) (G0 : ST) (N0 : LT) (G1 : ST) (N1 : LT) (G2 : ST) (N2 : LT) (G3 : ST) (N3 : LT) (Fo2 : ST) (Sc2 : ST) (Se2 : ST) (Tr2 : ST) (Fo3 : ST) (Sc3 : ST) (Se3 : ST) (Tr3 : ST) (M : ST) (N : LT), RR Ma Fo Sc Se Tr Ch Us Ta Dr G0 N0 G1 N1 G2 N2 G3 N3 Fo2 Sc2 Se2 Tr2 Fo3 Sc3 Se3 Tr3 M N → ∀ (H : Heap) (locs : List Loc), va_P D vwCl ((List.range 31).flatMap (wB cs ad bd Ma Fo Sc Se Tr Ch Us Ta Dr G0 N0 G1 N1 G2 N2 G3 N3 Fo2 Sc2 Se2 Tr2 Fo3 Sc3 Se3 Tr3 M N)) H → va_D A ((List.range 31).flatMap (wB cs ad bd Ma Fo Sc Se Tr Ch Us Ta Dr G0 N0 G1 N1 G2 N2 G3 N3 Fo2 Sc2 Se2 Tr2 Fo3 Sc3 Se3 Tr3 M N)) → va_S A s.heap H locs → W p l e room_1 s m #[Value.ref b] below meth c H locs 98 4085 Q (F0 m 1379 ls [])) : W p l e room_1 s m #[Value.ref b] below meth c H locs 98 4085 Q (F0 m 1271 ls []) := by
  obtain ⟨hx, hb, hml, hown, hu, hK, hZ, hX, hbl, hbA, hA⟩ := LC0
  obtain ⟨r0, Maz, Scz, Trz, Usz, Mz, e1, e2, hR1⟩ := hp (xs (Int32.toNatClampNeg (y3 + 1))) Ma Fo Sc Se Tr Ch Us Ta Dr G0 N0 G1 N1 G2 N2 G3 N3 Fo2 Sc2 Se2 Tr2 Fo3 Sc3 Se3 Tr3 M N hR
  refine lv_aload_n hx hb dL_law_1271 rfl (lv_at hl 1 rfl) ?_
  refine lv_aload_n hx hb dL_law_1272 rfl (lv_at hl 0 rfl) ?_
  refine lv_iload_n hx hb dL_law_1273 rfl (lv_at hl 3 rfl) ?_
  refine lv_iconst (v := 1) hx hb dL_law_1274 (by decide) ?_
  refine lv_iadd hx hb dL_law_1275 ?_
  refine va_sld hx hb hX hbl hbA hS i1 dL_law_1276 ?_
  refine cl_VB (B' := (wB cs ad bd Maz Fo Scz Se Trz Ch Usz Ta Dr G0 N0 G1 N1 G2 N2 G3 N3 Fo2 Sc2 Se2 Tr2 Fo3 Sc3 Se3 Tr3 M N)) (st1 := [.int r0]) [.int (xs (Int32.toNatClampNeg (y3 + 1)))] hx hb hml hown hu (tX7_read l D cs (ad 0) (ad 1) (ad 19) (ad 24) (ad 6) (ad 8) (ad 10) (ad 2) (ad 3) (ad 5) (ad 4) (ad 7) (ad 11) (ad 13) (ad 15) (ad 17) (ad 12) (ad 14) (ad 16) (ad 18) (xs (Int32.toNatClampNeg (y3 + 1))) Ma Fo Sc Se Tr Ch Us G0 N0 G1 N1 G2 N2 G3 N3 r0 Maz Scz Trz Usz e1) q885 q54 q882 q883 q884 pdX7_read ⟨Nat.le_of_ble_eq_true rfl, Nat.le_of_ble_eq_true rfl⟩ ⟨rfl, rfl, Nat.le_of_ble_eq_true rfl, Nat.le_of_ble_eq_true rfl⟩ (List.range 31) [0, 1, 2, 3, 4, 5, 6, 7, 10, 11, 12, 13, 14, 15, 16, 17, 18] [8, 9, 19, 20, 21, 22, 23, 24, 25, 26, 27, 28, 29, 30] hK hZ hP hD hS hA (by decide) rfl rfl rfl rfl rfl rfl hl.1 rfl (Nat.le_of_ble_eq_true rfl) dL_law_1277 rfl (fun H locs hP hD hS => ?_)
  refine lv_aload_n hx hb dL_law_1280 rfl (lv_at hl 2 rfl) ?_
  refine lv_aload_n hx hb dL_law_1281 rfl (lv_at hl 0 rfl) ?_
  refine lv_iload_n hx hb dL_law_1282 rfl (lv_at hl 3 rfl) ?_
  refine lv_iconst (v := 1) hx hb dL_law_1283 (by decide) ?_
  refine lv_iadd hx hb dL_law_1284 ?_
  refine va_sld hx hb hX hbl hbA hS i1 dL_law_1285 ?_
  refine cl_VB (B' := (wB cs ad bd Maz Fo Scz Se Trz Ch Usz Ta Dr G0 N0 G1 N1 G2 N2 G3 N3 Fo2 Sc2 Se2 Tr2 Fo3 Sc3 Se3 Tr3 Mz N)) (st1 := [.int r0, .int r0]) [.int (xs (Int32.toNatClampNeg (y3 + 1)))] hx hb hml hown hu (tX8_read l D cs (bd 0) (bd 1) (xs (Int32.toNatClampNeg (y3 + 1))) M N r0 Mz e2) q1315 q62 q1312 q1313 q1314 pdX8_read ⟨Nat.le_of_ble_eq_true rfl, Nat.le_of_ble_eq_true rfl⟩ ⟨rfl, rfl, Nat.le_of_ble_eq_true rfl, Nat.le_of_ble_eq_true rfl⟩ (List.range 31) [29, 30] [0, 1, 2, 3, 4, 5, 6, 7, 8, 9, 10, 11, 12, 13, 14, 15, 16, 17, 18, 19, 20, 21, 22, 23, 24, 25, 26, 27, 28] hK hZ hP hD hS hA (by decide) rfl rfl rfl rfl rfl rfl hl.1 rfl (Nat.le_of_ble_eq_true rfl) dL_law_1286 rfl (fun H locs hP hD hS => ?_)
  refine lv_icmp_eq (tgt := 1379) hx hb dL_law_1289 (by decide) (fun _ => ?_) (fun hc => absurd rfl hc)
  exact hk Maz Fo Scz Se Trz Ch Usz Ta Dr G0 N0 G1 N1 G2 N2 G3 N3 Fo2 Sc2 Se2 Tr2 Fo3 Sc3 Se3 Tr3 Mz N hR1 _ _ hP hD hS

set_option maxRecDepth 100000 in
set_option maxHeartbeats 4000000 in
theorem lw_c35 {p : Program} {l : Launch} {e : Env} {s : State} {m : MethodId} {below : List Frame} {meth : Method} {c : Code} {Q : State → Prop} {D : va_G} {cs : Nat → ClassId} {A : Nat → Prop} {b L : Nat} {xs : Nat → Int32} {ad bd : Nat → Nat → Nat} {RR : RT} (hp : P_image RR) (LC0 : LC p s m c b L xs D cs A) (Ma : ST) (Fo : ST) (Sc : ST) (Se : ST) (Tr : ST) (Ch : ST) (Us : ST) (Ta : ST) (Dr : ST) (G0 : ST) (N0 : LT) (G1 : ST) (N1 : LT) (G2 : ST) (N2 : LT) (G3 : ST) (N3 : LT) (Fo2 : ST) (Sc2 : ST) (Se2 : ST) (Tr2 : ST) (Fo3 : ST) (Sc3 : ST) (Se3 : ST) (Tr3 : ST) (M : ST) (N : LT) (hR : RR Ma Fo Sc Se Tr Ch Us Ta Dr G0 N0 G1 N1 G2 N2 G3 N3 Fo2 Sc2 Se2 Tr2 Fo3 Sc3 Se3 Tr3 M N) (y3 : Int32) (i1 : vp_in (y3 + 1) L) (i2 : vp_in (y3 + 2) L) (i3 : vp_in (y3 + 3) L) (i4 : vp_in (y3 + 4) L) (i5 : vp_in (y3 + 5) L) (H : Heap) (locs : List Loc) (ls : Array Slot) (hP : va_P D vwCl ((List.range 31).flatMap (wB cs ad bd Ma Fo Sc Se Tr Ch Us Ta Dr G0 N0 G1 N1 G2 N2 G3 N3 Fo2 Sc2 Se2 Tr2 Fo3 Sc3 Se3 Tr3 M N)) H) (hD : va_D A ((List.range 31).flatMap (wB cs ad bd Ma Fo Sc Se Tr Ch Us Ta Dr G0 N0 G1 N1 G2 N2 G3 N3 Fo2 Sc2 Se2 Tr2 Fo3 Sc3 Se3 Tr3 M N))) (hS : va_S A s.heap H locs) (hl : lv_has ls 4 [(0, .ref b), (1, .ref (ad 0 0)), (2, .ref (bd 0 0)), (3, .int y3)])
    (hk : ∀ (Ma : ST) (Fo : ST) (Sc : ST) (Se : ST) (Tr : ST) (Ch : ST) (Us : ST) (Ta : ST) (Dr : ST) (G0 : ST) (N0 : LT) (G1 : ST) (N1 : LT) (G2 : ST) (N2 : LT) (G3 : ST) (N3 : LT) (Fo2 : ST) (Sc2 : ST) (Se2 : ST) (Tr2 : ST) (Fo3 : ST) (Sc3 : ST) (Se3 : ST) (Tr3 : ST) (M : ST) (N : LT), RR Ma Fo Sc Se Tr Ch Us Ta Dr G0 N0 G1 N1 G2 N2 G3 N3 Fo2 Sc2 Se2 Tr2 Fo3 Sc3 Se3 Tr3 M N → ∀ (H : Heap) (locs : List Loc), va_P D vwCl ((List.range 31).flatMap (wB cs ad bd Ma Fo Sc Se Tr Ch Us Ta Dr G0 N0 G1 N1 G2 N2 G3 N3 Fo2 Sc2 Se2 Tr2 Fo3 Sc3 Se3 Tr3 M N)) H → va_D A ((List.range 31).flatMap (wB cs ad bd Ma Fo Sc Se Tr Ch Us Ta Dr G0 N0 G1 N1 G2 N2 G3 N3 Fo2 Sc2 Se2 Tr2 Fo3 Sc3 Se3 Tr3 M N)) → va_S A s.heap H locs → W p l e room_1 s m #[Value.ref b] below meth c H locs 98 4085 Q (F0 m 1379 ls [])) : W p l e room_1 s m #[Value.ref b] below meth c H locs 98 4085 Q (F0 m 1294 ls []) := by
  obtain ⟨hx, hb, hml, hown, hu, hK, hZ, hX, hbl, hbA, hA⟩ := LC0
  obtain ⟨r0, Maz, Fo2z, Sc2z, Se2z, Mz, e1, e2, hR1⟩ := hp Ma Fo Sc Se Tr Ch Us Ta Dr G0 N0 G1 N1 G2 N2 G3 N3 Fo2 Sc2 Se2 Tr2 Fo3 Sc3 Se3 Tr3 M N hR
  refine lv_aload_n hx hb dL_law_1294 rfl (lv_at hl 1 rfl) ?_
  refine cl_VB (B' := (wB cs ad bd Maz Fo Sc Se Tr Ch Us Ta Dr G0 N0 G1 N1 G2 N2 G3 N3 Fo2z Sc2z Se2z Tr2 Fo3 Sc3 Se3 Tr3 M N)) (st1 := [.int r0]) [] hx hb hml hown hu (tX7_image l D cs (ad 0) (ad 1) (ad 19) (ad 24) (ad 6) (ad 8) (ad 10) (ad 2) (ad 3) (ad 5) (ad 4) (ad 20) (ad 21) (ad 23) (ad 22) Ma Fo Sc Se Fo2 Sc2 Se2 r0 Maz Fo2z Sc2z Se2z e1) q889 q54 q886 q887 q888 pdX7_image ⟨Nat.le_of_ble_eq_true rfl, Nat.le_of_ble_eq_true rfl⟩ ⟨rfl, rfl, Nat.le_of_ble_eq_true rfl, Nat.le_of_ble_eq_true rfl⟩ (List.range 31) [0, 1, 2, 3, 4, 19, 20, 21, 22] [5, 6, 7, 8, 9, 10, 11, 12, 13, 14, 15, 16, 17, 18, 23, 24, 25, 26, 27, 28, 29, 30] hK hZ hP hD hS hA (by decide) rfl rfl rfl rfl rfl rfl hl.1 rfl (Nat.le_of_ble_eq_true rfl) dL_law_1295 rfl (fun H locs hP hD hS => ?_)
  refine lv_aload_n hx hb dL_law_1298 rfl (lv_at hl 2 rfl) ?_
  refine cl_VB (B' := (wB cs ad bd Maz Fo Sc Se Tr Ch Us Ta Dr G0 N0 G1 N1 G2 N2 G3 N3 Fo2z Sc2z Se2z Tr2 Fo3 Sc3 Se3 Tr3 Mz N)) (st1 := [.int r0, .int r0]) [] hx hb hml hown hu (tX8_image l D cs (bd 0) (bd 1) M r0 Mz e2) q1319 q62 q1316 q1317 q1318 pdX8_image ⟨Nat.le_of_ble_eq_true rfl, Nat.le_of_ble_eq_true rfl⟩ ⟨rfl, rfl, Nat.le_of_ble_eq_true rfl, Nat.le_of_ble_eq_true rfl⟩ (List.range 31) [29] [0, 1, 2, 3, 4, 5, 6, 7, 8, 9, 10, 11, 12, 13, 14, 15, 16, 17, 18, 19, 20, 21, 22, 23, 24, 25, 26, 27, 28, 30] hK hZ hP hD hS hA (by decide) rfl rfl rfl rfl rfl rfl hl.1 rfl (Nat.le_of_ble_eq_true rfl) dL_law_1299 rfl (fun H locs hP hD hS => ?_)
  refine lv_icmp_eq (tgt := 1379) hx hb dL_law_1302 (by decide) (fun _ => ?_) (fun hc => absurd rfl hc)
  exact hk Maz Fo Sc Se Tr Ch Us Ta Dr G0 N0 G1 N1 G2 N2 G3 N3 Fo2z Sc2z Se2z Tr2 Fo3 Sc3 Se3 Tr3 Mz N hR1 _ _ hP hD hS

set_option maxRecDepth 100000 in
set_option maxHeartbeats 4000000 in
theorem lw_c36 {p : Program} {l : Launch} {e : Env} {s : State} {m : MethodId} {below : List Frame} {meth : Method} {c : Code} {Q : State → Prop} {D : va_G} {cs : Nat → ClassId} {A : Nat → Prop} {b L : Nat} {xs : Nat → Int32} {ad bd : Nat → Nat → Nat} {RR : RT} (hp : P_undo RR) (LC0 : LC p s m c b L xs D cs A) (Ma : ST) (Fo : ST) (Sc : ST) (Se : ST) (Tr : ST) (Ch : ST) (Us : ST) (Ta : ST) (Dr : ST) (G0 : ST) (N0 : LT) (G1 : ST) (N1 : LT) (G2 : ST) (N2 : LT) (G3 : ST) (N3 : LT) (Fo2 : ST) (Sc2 : ST) (Se2 : ST) (Tr2 : ST) (Fo3 : ST) (Sc3 : ST) (Se3 : ST) (Tr3 : ST) (M : ST) (N : LT) (hR : RR Ma Fo Sc Se Tr Ch Us Ta Dr G0 N0 G1 N1 G2 N2 G3 N3 Fo2 Sc2 Se2 Tr2 Fo3 Sc3 Se3 Tr3 M N) (y3 : Int32) (i1 : vp_in (y3 + 1) L) (i2 : vp_in (y3 + 2) L) (i3 : vp_in (y3 + 3) L) (i4 : vp_in (y3 + 4) L) (i5 : vp_in (y3 + 5) L) (H : Heap) (locs : List Loc) (ls : Array Slot) (hP : va_P D vwCl ((List.range 31).flatMap (wB cs ad bd Ma Fo Sc Se Tr Ch Us Ta Dr G0 N0 G1 N1 G2 N2 G3 N3 Fo2 Sc2 Se2 Tr2 Fo3 Sc3 Se3 Tr3 M N)) H) (hD : va_D A ((List.range 31).flatMap (wB cs ad bd Ma Fo Sc Se Tr Ch Us Ta Dr G0 N0 G1 N1 G2 N2 G3 N3 Fo2 Sc2 Se2 Tr2 Fo3 Sc3 Se3 Tr3 M N))) (hS : va_S A s.heap H locs) (hl : lv_has ls 4 [(0, .ref b), (1, .ref (ad 0 0)), (2, .ref (bd 0 0)), (3, .int y3)])
    (hk : ∀ (Ma : ST) (Fo : ST) (Sc : ST) (Se : ST) (Tr : ST) (Ch : ST) (Us : ST) (Ta : ST) (Dr : ST) (G0 : ST) (N0 : LT) (G1 : ST) (N1 : LT) (G2 : ST) (N2 : LT) (G3 : ST) (N3 : LT) (Fo2 : ST) (Sc2 : ST) (Se2 : ST) (Tr2 : ST) (Fo3 : ST) (Sc3 : ST) (Se3 : ST) (Tr3 : ST) (M : ST) (N : LT), RR Ma Fo Sc Se Tr Ch Us Ta Dr G0 N0 G1 N1 G2 N2 G3 N3 Fo2 Sc2 Se2 Tr2 Fo3 Sc3 Se3 Tr3 M N → ∀ (H : Heap) (locs : List Loc), va_P D vwCl ((List.range 31).flatMap (wB cs ad bd Ma Fo Sc Se Tr Ch Us Ta Dr G0 N0 G1 N1 G2 N2 G3 N3 Fo2 Sc2 Se2 Tr2 Fo3 Sc3 Se3 Tr3 M N)) H → va_D A ((List.range 31).flatMap (wB cs ad bd Ma Fo Sc Se Tr Ch Us Ta Dr G0 N0 G1 N1 G2 N2 G3 N3 Fo2 Sc2 Se2 Tr2 Fo3 Sc3 Se3 Tr3 M N)) → va_S A s.heap H locs → W p l e room_1 s m #[Value.ref b] below meth c H locs 98 4085 Q (F0 m 1379 ls [])) : W p l e room_1 s m #[Value.ref b] below meth c H locs 98 4085 Q (F0 m 1307 ls []) := by
  obtain ⟨hx, hb, hml, hown, hu, hK, hZ, hX, hbl, hbA, hA⟩ := LC0
  obtain ⟨r0, Maz, Foz, Scz, Sez, Mz, e1, e2, hR1⟩ := hp Ma Fo Sc Se Tr Ch Us Ta Dr G0 N0 G1 N1 G2 N2 G3 N3 Fo2 Sc2 Se2 Tr2 Fo3 Sc3 Se3 Tr3 M N hR
  refine lv_aload_n hx hb dL_law_1307 rfl (lv_at hl 1 rfl) ?_
  refine cl_VB (B' := (wB cs ad bd Maz Foz Scz Sez Tr Ch Us Ta Dr G0 N0 G1 N1 G2 N2 G3 N3 Fo2 Sc2 Se2 Tr2 Fo3 Sc3 Se3 Tr3 M N)) (st1 := [.int r0]) [] hx hb hml hown hu (tX7_undo l D cs (ad 0) (ad 1) (ad 19) (ad 24) (ad 6) (ad 8) (ad 10) (ad 2) (ad 3) (ad 5) (ad 4) (ad 20) (ad 21) (ad 23) (ad 22) Ma Fo Sc Se Fo2 Sc2 Se2 r0 Maz Foz Scz Sez e1) q893 q54 q890 q891 q892 pdX7_undo ⟨Nat.le_of_ble_eq_true rfl, Nat.le_of_ble_eq_true rfl⟩ ⟨rfl, rfl, Nat.le_of_ble_eq_true rfl, Nat.le_of_ble_eq_true rfl⟩ (List.range 31) [0, 1, 2, 3, 4, 19, 20, 21, 22] [5, 6, 7, 8, 9, 10, 11, 12, 13, 14, 15, 16, 17, 18, 23, 24, 25, 26, 27, 28, 29, 30] hK hZ hP hD hS hA (by decide) rfl rfl rfl rfl rfl rfl hl.1 rfl (Nat.le_of_ble_eq_true rfl) dL_law_1308 rfl (fun H locs hP hD hS => ?_)
  refine lv_aload_n hx hb dL_law_1311 rfl (lv_at hl 2 rfl) ?_
  refine cl_VB (B' := (wB cs ad bd Maz Foz Scz Sez Tr Ch Us Ta Dr G0 N0 G1 N1 G2 N2 G3 N3 Fo2 Sc2 Se2 Tr2 Fo3 Sc3 Se3 Tr3 Mz N)) (st1 := [.int r0, .int r0]) [] hx hb hml hown hu (tX8_undo l D cs (bd 0) (bd 1) M r0 Mz e2) q1323 q62 q1320 q1321 q1322 pdX8_undo ⟨Nat.le_of_ble_eq_true rfl, Nat.le_of_ble_eq_true rfl⟩ ⟨rfl, rfl, Nat.le_of_ble_eq_true rfl, Nat.le_of_ble_eq_true rfl⟩ (List.range 31) [29] [0, 1, 2, 3, 4, 5, 6, 7, 8, 9, 10, 11, 12, 13, 14, 15, 16, 17, 18, 19, 20, 21, 22, 23, 24, 25, 26, 27, 28, 30] hK hZ hP hD hS hA (by decide) rfl rfl rfl rfl rfl rfl hl.1 rfl (Nat.le_of_ble_eq_true rfl) dL_law_1312 rfl (fun H locs hP hD hS => ?_)
  refine lv_icmp_eq (tgt := 1379) hx hb dL_law_1315 (by decide) (fun _ => ?_) (fun hc => absurd rfl hc)
  exact hk Maz Foz Scz Sez Tr Ch Us Ta Dr G0 N0 G1 N1 G2 N2 G3 N3 Fo2 Sc2 Se2 Tr2 Fo3 Sc3 Se3 Tr3 Mz N hR1 _ _ hP hD hS

set_option maxRecDepth 100000 in
set_option maxHeartbeats 4000000 in
theorem lw_c37 {p : Program} {l : Launch} {e : Env} {s : State} {m : MethodId} {below : List Frame} {meth : Method} {c : Code} {Q : State → Prop} {D : va_G} {cs : Nat → ClassId} {A : Nat → Prop} {b L : Nat} {xs : Nat → Int32} {ad bd : Nat → Nat → Nat} {RR : RT} (hp : P_tear RR) (LC0 : LC p s m c b L xs D cs A) (Ma : ST) (Fo : ST) (Sc : ST) (Se : ST) (Tr : ST) (Ch : ST) (Us : ST) (Ta : ST) (Dr : ST) (G0 : ST) (N0 : LT) (G1 : ST) (N1 : LT) (G2 : ST) (N2 : LT) (G3 : ST) (N3 : LT) (Fo2 : ST) (Sc2 : ST) (Se2 : ST) (Tr2 : ST) (Fo3 : ST) (Sc3 : ST) (Se3 : ST) (Tr3 : ST) (M : ST) (N : LT) (hR : RR Ma Fo Sc Se Tr Ch Us Ta Dr G0 N0 G1 N1 G2 N2 G3 N3 Fo2 Sc2 Se2 Tr2 Fo3 Sc3 Se3 Tr3 M N) (y3 : Int32) (i1 : vp_in (y3 + 1) L) (i2 : vp_in (y3 + 2) L) (i3 : vp_in (y3 + 3) L) (i4 : vp_in (y3 + 4) L) (i5 : vp_in (y3 + 5) L) (H : Heap) (locs : List Loc) (ls : Array Slot) (hP : va_P D vwCl ((List.range 31).flatMap (wB cs ad bd Ma Fo Sc Se Tr Ch Us Ta Dr G0 N0 G1 N1 G2 N2 G3 N3 Fo2 Sc2 Se2 Tr2 Fo3 Sc3 Se3 Tr3 M N)) H) (hD : va_D A ((List.range 31).flatMap (wB cs ad bd Ma Fo Sc Se Tr Ch Us Ta Dr G0 N0 G1 N1 G2 N2 G3 N3 Fo2 Sc2 Se2 Tr2 Fo3 Sc3 Se3 Tr3 M N))) (hS : va_S A s.heap H locs) (hl : lv_has ls 4 [(0, .ref b), (1, .ref (ad 0 0)), (2, .ref (bd 0 0)), (3, .int y3)])
    (hk : ∀ (Ma : ST) (Fo : ST) (Sc : ST) (Se : ST) (Tr : ST) (Ch : ST) (Us : ST) (Ta : ST) (Dr : ST) (G0 : ST) (N0 : LT) (G1 : ST) (N1 : LT) (G2 : ST) (N2 : LT) (G3 : ST) (N3 : LT) (Fo2 : ST) (Sc2 : ST) (Se2 : ST) (Tr2 : ST) (Fo3 : ST) (Sc3 : ST) (Se3 : ST) (Tr3 : ST) (M : ST) (N : LT), RR Ma Fo Sc Se Tr Ch Us Ta Dr G0 N0 G1 N1 G2 N2 G3 N3 Fo2 Sc2 Se2 Tr2 Fo3 Sc3 Se3 Tr3 M N → ∀ (H : Heap) (locs : List Loc), va_P D vwCl ((List.range 31).flatMap (wB cs ad bd Ma Fo Sc Se Tr Ch Us Ta Dr G0 N0 G1 N1 G2 N2 G3 N3 Fo2 Sc2 Se2 Tr2 Fo3 Sc3 Se3 Tr3 M N)) H → va_D A ((List.range 31).flatMap (wB cs ad bd Ma Fo Sc Se Tr Ch Us Ta Dr G0 N0 G1 N1 G2 N2 G3 N3 Fo2 Sc2 Se2 Tr2 Fo3 Sc3 Se3 Tr3 M N)) → va_S A s.heap H locs → W p l e room_1 s m #[Value.ref b] below meth c H locs 98 4085 Q (F0 m 1379 ls [])) : W p l e room_1 s m #[Value.ref b] below meth c H locs 98 4085 Q (F0 m 1320 ls []) := by
  obtain ⟨hx, hb, hml, hown, hu, hK, hZ, hX, hbl, hbA, hA⟩ := LC0
  obtain ⟨r0, Maz, Mz, e1, e2, hR1⟩ := hp Ma Fo Sc Se Tr Ch Us Ta Dr G0 N0 G1 N1 G2 N2 G3 N3 Fo2 Sc2 Se2 Tr2 Fo3 Sc3 Se3 Tr3 M N hR
  refine lv_aload_n hx hb dL_law_1320 rfl (lv_at hl 1 rfl) ?_
  refine cl_VB (B' := (wB cs ad bd Maz Fo Sc Se Tr Ch Us Ta Dr G0 N0 G1 N1 G2 N2 G3 N3 Fo2 Sc2 Se2 Tr2 Fo3 Sc3 Se3 Tr3 M N)) (st1 := [.int r0]) [] hx hb hml hown hu (tX7_tear l D cs (ad 0) (ad 1) (ad 19) (ad 24) (ad 6) (ad 8) (ad 10) Ma r0 Maz e1) q897 q54 q894 q895 q896 pdX7_tear ⟨Nat.le_of_ble_eq_true rfl, Nat.le_of_ble_eq_true rfl⟩ ⟨rfl, rfl, Nat.le_of_ble_eq_true rfl, Nat.le_of_ble_eq_true rfl⟩ (List.range 31) [0] [1, 2, 3, 4, 5, 6, 7, 8, 9, 10, 11, 12, 13, 14, 15, 16, 17, 18, 19, 20, 21, 22, 23, 24, 25, 26, 27, 28, 29, 30] hK hZ hP hD hS hA (by decide) rfl rfl rfl rfl rfl rfl hl.1 rfl (Nat.le_of_ble_eq_true rfl) dL_law_1321 rfl (fun H locs hP hD hS => ?_)
  refine lv_aload_n hx hb dL_law_1324 rfl (lv_at hl 2 rfl) ?_
  refine cl_VB (B' := (wB cs ad bd Maz Fo Sc Se Tr Ch Us Ta Dr G0 N0 G1 N1 G2 N2 G3 N3 Fo2 Sc2 Se2 Tr2 Fo3 Sc3 Se3 Tr3 Mz N)) (st1 := [.int r0, .int r0]) [] hx hb hml hown hu (tX8_tear l D cs (bd 0) (bd 1) M r0 Mz e2) q1327 q62 q1324 q1325 q1326 pdX8_tear ⟨Nat.le_of_ble_eq_true rfl, Nat.le_of_ble_eq_true rfl⟩ ⟨rfl, rfl, Nat.le_of_ble_eq_true rfl, Nat.le_of_ble_eq_true rfl⟩ (List.range 31) [29] [0, 1, 2, 3, 4, 5, 6, 7, 8, 9, 10, 11, 12, 13, 14, 15, 16, 17, 18, 19, 20, 21, 22, 23, 24, 25, 26, 27, 28, 30] hK hZ hP hD hS hA (by decide) rfl rfl rfl rfl rfl rfl hl.1 rfl (Nat.le_of_ble_eq_true rfl) dL_law_1325 rfl (fun H locs hP hD hS => ?_)
  refine lv_icmp_eq (tgt := 1379) hx hb dL_law_1328 (by decide) (fun _ => ?_) (fun hc => absurd rfl hc)
  exact hk Maz Fo Sc Se Tr Ch Us Ta Dr G0 N0 G1 N1 G2 N2 G3 N3 Fo2 Sc2 Se2 Tr2 Fo3 Sc3 Se3 Tr3 Mz N hR1 _ _ hP hD hS

set_option maxRecDepth 100000 in
set_option maxHeartbeats 4000000 in
theorem lw_c38 {p : Program} {l : Launch} {e : Env} {s : State} {m : MethodId} {below : List Frame} {meth : Method} {c : Code} {Q : State → Prop} {D : va_G} {cs : Nat → ClassId} {A : Nat → Prop} {b L : Nat} {xs : Nat → Int32} {ad bd : Nat → Nat → Nat} {RR : RT} (hp : P_count RR) (LC0 : LC p s m c b L xs D cs A) (Ma : ST) (Fo : ST) (Sc : ST) (Se : ST) (Tr : ST) (Ch : ST) (Us : ST) (Ta : ST) (Dr : ST) (G0 : ST) (N0 : LT) (G1 : ST) (N1 : LT) (G2 : ST) (N2 : LT) (G3 : ST) (N3 : LT) (Fo2 : ST) (Sc2 : ST) (Se2 : ST) (Tr2 : ST) (Fo3 : ST) (Sc3 : ST) (Se3 : ST) (Tr3 : ST) (M : ST) (N : LT) (hR : RR Ma Fo Sc Se Tr Ch Us Ta Dr G0 N0 G1 N1 G2 N2 G3 N3 Fo2 Sc2 Se2 Tr2 Fo3 Sc3 Se3 Tr3 M N) (y3 : Int32) (i1 : vp_in (y3 + 1) L) (i2 : vp_in (y3 + 2) L) (i3 : vp_in (y3 + 3) L) (i4 : vp_in (y3 + 4) L) (i5 : vp_in (y3 + 5) L) (H : Heap) (locs : List Loc) (ls : Array Slot) (hP : va_P D vwCl ((List.range 31).flatMap (wB cs ad bd Ma Fo Sc Se Tr Ch Us Ta Dr G0 N0 G1 N1 G2 N2 G3 N3 Fo2 Sc2 Se2 Tr2 Fo3 Sc3 Se3 Tr3 M N)) H) (hD : va_D A ((List.range 31).flatMap (wB cs ad bd Ma Fo Sc Se Tr Ch Us Ta Dr G0 N0 G1 N1 G2 N2 G3 N3 Fo2 Sc2 Se2 Tr2 Fo3 Sc3 Se3 Tr3 M N))) (hS : va_S A s.heap H locs) (hl : lv_has ls 4 [(0, .ref b), (1, .ref (ad 0 0)), (2, .ref (bd 0 0)), (3, .int y3)])
    (hk : ∀ (Ma : ST) (Fo : ST) (Sc : ST) (Se : ST) (Tr : ST) (Ch : ST) (Us : ST) (Ta : ST) (Dr : ST) (G0 : ST) (N0 : LT) (G1 : ST) (N1 : LT) (G2 : ST) (N2 : LT) (G3 : ST) (N3 : LT) (Fo2 : ST) (Sc2 : ST) (Se2 : ST) (Tr2 : ST) (Fo3 : ST) (Sc3 : ST) (Se3 : ST) (Tr3 : ST) (M : ST) (N : LT), RR Ma Fo Sc Se Tr Ch Us Ta Dr G0 N0 G1 N1 G2 N2 G3 N3 Fo2 Sc2 Se2 Tr2 Fo3 Sc3 Se3 Tr3 M N → ∀ (H : Heap) (locs : List Loc), va_P D vwCl ((List.range 31).flatMap (wB cs ad bd Ma Fo Sc Se Tr Ch Us Ta Dr G0 N0 G1 N1 G2 N2 G3 N3 Fo2 Sc2 Se2 Tr2 Fo3 Sc3 Se3 Tr3 M N)) H → va_D A ((List.range 31).flatMap (wB cs ad bd Ma Fo Sc Se Tr Ch Us Ta Dr G0 N0 G1 N1 G2 N2 G3 N3 Fo2 Sc2 Se2 Tr2 Fo3 Sc3 Se3 Tr3 M N)) → va_S A s.heap H locs → W p l e room_1 s m #[Value.ref b] below meth c H locs 98 4085 Q (F0 m 1379 ls [])) : W p l e room_1 s m #[Value.ref b] below meth c H locs 98 4085 Q (F0 m 1333 ls []) := by
  obtain ⟨hx, hb, hml, hown, hu, hK, hZ, hX, hbl, hbA, hA⟩ := LC0
  obtain ⟨r0, Maz, Mz, e1, e2, hR1⟩ := hp (xs (Int32.toNatClampNeg (y3 + 1))) Ma Fo Sc Se Tr Ch Us Ta Dr G0 N0 G1 N1 G2 N2 G3 N3 Fo2 Sc2 Se2 Tr2 Fo3 Sc3 Se3 Tr3 M N hR
  refine lv_aload_n hx hb dL_law_1333 rfl (lv_at hl 1 rfl) ?_
  refine lv_aload_n hx hb dL_law_1334 rfl (lv_at hl 0 rfl) ?_
  refine lv_iload_n hx hb dL_law_1335 rfl (lv_at hl 3 rfl) ?_
  refine lv_iconst (v := 1) hx hb dL_law_1336 (by decide) ?_
  refine lv_iadd hx hb dL_law_1337 ?_
  refine va_sld hx hb hX hbl hbA hS i1 dL_law_1338 ?_
  refine cl_VB (B' := (wB cs ad bd Maz Fo Sc Se Tr Ch Us Ta Dr G0 N0 G1 N1 G2 N2 G3 N3 Fo2 Sc2 Se2 Tr2 Fo3 Sc3 Se3 Tr3 M N)) (st1 := [.int r0]) [.int (xs (Int32.toNatClampNeg (y3 + 1)))] hx hb hml hown hu (tX7_count l D cs (ad 0) (ad 1) (ad 19) (ad 24) (ad 6) (ad 8) (ad 10) (ad 2) (ad 3) (ad 5) (ad 4) (ad 9) (xs (Int32.toNatClampNeg (y3 + 1))) Ma Fo Se Ta r0 Maz e1) q901 q54 q898 q899 q900 pdX7_count ⟨Nat.le_of_ble_eq_true rfl, Nat.le_of_ble_eq_true rfl⟩ ⟨rfl, rfl, Nat.le_of_ble_eq_true rfl, Nat.le_of_ble_eq_true rfl⟩ (List.range 31) [0, 1, 2, 4, 8] [3, 5, 6, 7, 9, 10, 11, 12, 13, 14, 15, 16, 17, 18, 19, 20, 21, 22, 23, 24, 25, 26, 27, 28, 29, 30] hK hZ hP hD hS hA (by decide) rfl rfl rfl rfl rfl rfl hl.1 rfl (Nat.le_of_ble_eq_true rfl) dL_law_1339 rfl (fun H locs hP hD hS => ?_)
  refine lv_aload_n hx hb dL_law_1342 rfl (lv_at hl 2 rfl) ?_
  refine lv_aload_n hx hb dL_law_1343 rfl (lv_at hl 0 rfl) ?_
  refine lv_iload_n hx hb dL_law_1344 rfl (lv_at hl 3 rfl) ?_
  refine lv_iconst (v := 1) hx hb dL_law_1345 (by decide) ?_
  refine lv_iadd hx hb dL_law_1346 ?_
  refine va_sld hx hb hX hbl hbA hS i1 dL_law_1347 ?_
  refine cl_VB (B' := (wB cs ad bd Maz Fo Sc Se Tr Ch Us Ta Dr G0 N0 G1 N1 G2 N2 G3 N3 Fo2 Sc2 Se2 Tr2 Fo3 Sc3 Se3 Tr3 Mz N)) (st1 := [.int r0, .int r0]) [.int (xs (Int32.toNatClampNeg (y3 + 1)))] hx hb hml hown hu (tX8_count l D cs (bd 0) (bd 1) (xs (Int32.toNatClampNeg (y3 + 1))) M r0 Mz e2) q1331 q62 q1328 q1329 q1330 pdX8_count ⟨Nat.le_of_ble_eq_true rfl, Nat.le_of_ble_eq_true rfl⟩ ⟨rfl, rfl, Nat.le_of_ble_eq_true rfl, Nat.le_of_ble_eq_true rfl⟩ (List.range 31) [29] [0, 1, 2, 3, 4, 5, 6, 7, 8, 9, 10, 11, 12, 13, 14, 15, 16, 17, 18, 19, 20, 21, 22, 23, 24, 25, 26, 27, 28, 30] hK hZ hP hD hS hA (by decide) rfl rfl rfl rfl rfl rfl hl.1 rfl (Nat.le_of_ble_eq_true rfl) dL_law_1348 rfl (fun H locs hP hD hS => ?_)
  refine lv_icmp_eq (tgt := 1379) hx hb dL_law_1351 (by decide) (fun _ => ?_) (fun hc => absurd rfl hc)
  exact hk Maz Fo Sc Se Tr Ch Us Ta Dr G0 N0 G1 N1 G2 N2 G3 N3 Fo2 Sc2 Se2 Tr2 Fo3 Sc3 Se3 Tr3 Mz N hR1 _ _ hP hD hS

set_option maxRecDepth 100000 in
set_option maxHeartbeats 4000000 in
theorem lw_c39 {p : Program} {l : Launch} {e : Env} {s : State} {m : MethodId} {below : List Frame} {meth : Method} {c : Code} {Q : State → Prop} {D : va_G} {cs : Nat → ClassId} {A : Nat → Prop} {b L : Nat} {xs : Nat → Int32} {ad bd : Nat → Nat → Nat} {RR : RT} (hp : P_status RR) (LC0 : LC p s m c b L xs D cs A) (Ma : ST) (Fo : ST) (Sc : ST) (Se : ST) (Tr : ST) (Ch : ST) (Us : ST) (Ta : ST) (Dr : ST) (G0 : ST) (N0 : LT) (G1 : ST) (N1 : LT) (G2 : ST) (N2 : LT) (G3 : ST) (N3 : LT) (Fo2 : ST) (Sc2 : ST) (Se2 : ST) (Tr2 : ST) (Fo3 : ST) (Sc3 : ST) (Se3 : ST) (Tr3 : ST) (M : ST) (N : LT) (hR : RR Ma Fo Sc Se Tr Ch Us Ta Dr G0 N0 G1 N1 G2 N2 G3 N3 Fo2 Sc2 Se2 Tr2 Fo3 Sc3 Se3 Tr3 M N) (y3 : Int32) (i1 : vp_in (y3 + 1) L) (i2 : vp_in (y3 + 2) L) (i3 : vp_in (y3 + 3) L) (i4 : vp_in (y3 + 4) L) (i5 : vp_in (y3 + 5) L) (H : Heap) (locs : List Loc) (ls : Array Slot) (hP : va_P D vwCl ((List.range 31).flatMap (wB cs ad bd Ma Fo Sc Se Tr Ch Us Ta Dr G0 N0 G1 N1 G2 N2 G3 N3 Fo2 Sc2 Se2 Tr2 Fo3 Sc3 Se3 Tr3 M N)) H) (hD : va_D A ((List.range 31).flatMap (wB cs ad bd Ma Fo Sc Se Tr Ch Us Ta Dr G0 N0 G1 N1 G2 N2 G3 N3 Fo2 Sc2 Se2 Tr2 Fo3 Sc3 Se3 Tr3 M N))) (hS : va_S A s.heap H locs) (hl : lv_has ls 4 [(0, .ref b), (1, .ref (ad 0 0)), (2, .ref (bd 0 0)), (3, .int y3)])
    (hk : ∀ (Ma : ST) (Fo : ST) (Sc : ST) (Se : ST) (Tr : ST) (Ch : ST) (Us : ST) (Ta : ST) (Dr : ST) (G0 : ST) (N0 : LT) (G1 : ST) (N1 : LT) (G2 : ST) (N2 : LT) (G3 : ST) (N3 : LT) (Fo2 : ST) (Sc2 : ST) (Se2 : ST) (Tr2 : ST) (Fo3 : ST) (Sc3 : ST) (Se3 : ST) (Tr3 : ST) (M : ST) (N : LT), RR Ma Fo Sc Se Tr Ch Us Ta Dr G0 N0 G1 N1 G2 N2 G3 N3 Fo2 Sc2 Se2 Tr2 Fo3 Sc3 Se3 Tr3 M N → ∀ (H : Heap) (locs : List Loc), va_P D vwCl ((List.range 31).flatMap (wB cs ad bd Ma Fo Sc Se Tr Ch Us Ta Dr G0 N0 G1 N1 G2 N2 G3 N3 Fo2 Sc2 Se2 Tr2 Fo3 Sc3 Se3 Tr3 M N)) H → va_D A ((List.range 31).flatMap (wB cs ad bd Ma Fo Sc Se Tr Ch Us Ta Dr G0 N0 G1 N1 G2 N2 G3 N3 Fo2 Sc2 Se2 Tr2 Fo3 Sc3 Se3 Tr3 M N)) → va_S A s.heap H locs → W p l e room_1 s m #[Value.ref b] below meth c H locs 98 4085 Q (F0 m 1379 ls [])) : W p l e room_1 s m #[Value.ref b] below meth c H locs 98 4085 Q (F0 m 1356 ls []) := by
  obtain ⟨hx, hb, hml, hown, hu, hK, hZ, hX, hbl, hbA, hA⟩ := LC0
  obtain ⟨r0, Maz, Mz, e1, e2, hR1⟩ := hp (xs (Int32.toNatClampNeg (y3 + 1))) Ma Fo Sc Se Tr Ch Us Ta Dr G0 N0 G1 N1 G2 N2 G3 N3 Fo2 Sc2 Se2 Tr2 Fo3 Sc3 Se3 Tr3 M N hR
  refine lv_aload_n hx hb dL_law_1356 rfl (lv_at hl 1 rfl) ?_
  refine lv_aload_n hx hb dL_law_1357 rfl (lv_at hl 0 rfl) ?_
  refine lv_iload_n hx hb dL_law_1358 rfl (lv_at hl 3 rfl) ?_
  refine lv_iconst (v := 1) hx hb dL_law_1359 (by decide) ?_
  refine lv_iadd hx hb dL_law_1360 ?_
  refine va_sld hx hb hX hbl hbA hS i1 dL_law_1361 ?_
  refine cl_VB (B' := (wB cs ad bd Maz Fo Sc Se Tr Ch Us Ta Dr G0 N0 G1 N1 G2 N2 G3 N3 Fo2 Sc2 Se2 Tr2 Fo3 Sc3 Se3 Tr3 M N)) (st1 := [.int r0]) [.int (xs (Int32.toNatClampNeg (y3 + 1)))] hx hb hml hown hu (tX7_status l D cs (ad 0) (ad 1) (ad 19) (ad 24) (ad 6) (ad 8) (ad 10) (xs (Int32.toNatClampNeg (y3 + 1))) Ma r0 Maz e1) q910 q54 q907 q908 q909 pdX7_status ⟨Nat.le_of_ble_eq_true rfl, Nat.le_of_ble_eq_true rfl⟩ ⟨rfl, rfl, Nat.le_of_ble_eq_true rfl, Nat.le_of_ble_eq_true rfl⟩ (List.range 31) [0] [1, 2, 3, 4, 5, 6, 7, 8, 9, 10, 11, 12, 13, 14, 15, 16, 17, 18, 19, 20, 21, 22, 23, 24, 25, 26, 27, 28, 29, 30] hK hZ hP hD hS hA (by decide) rfl rfl rfl rfl rfl rfl hl.1 rfl (Nat.le_of_ble_eq_true rfl) dL_law_1362 rfl (fun H locs hP hD hS => ?_)
  refine lv_aload_n hx hb dL_law_1365 rfl (lv_at hl 2 rfl) ?_
  refine lv_aload_n hx hb dL_law_1366 rfl (lv_at hl 0 rfl) ?_
  refine lv_iload_n hx hb dL_law_1367 rfl (lv_at hl 3 rfl) ?_
  refine lv_iconst (v := 1) hx hb dL_law_1368 (by decide) ?_
  refine lv_iadd hx hb dL_law_1369 ?_
  refine va_sld hx hb hX hbl hbA hS i1 dL_law_1370 ?_
  refine cl_VB (B' := (wB cs ad bd Maz Fo Sc Se Tr Ch Us Ta Dr G0 N0 G1 N1 G2 N2 G3 N3 Fo2 Sc2 Se2 Tr2 Fo3 Sc3 Se3 Tr3 Mz N)) (st1 := [.int r0, .int r0]) [.int (xs (Int32.toNatClampNeg (y3 + 1)))] hx hb hml hown hu (tX8_status l D cs (bd 0) (bd 1) (xs (Int32.toNatClampNeg (y3 + 1))) M r0 Mz e2) q1343 q62 q1340 q1341 q1342 pdX8_status ⟨Nat.le_of_ble_eq_true rfl, Nat.le_of_ble_eq_true rfl⟩ ⟨rfl, rfl, Nat.le_of_ble_eq_true rfl, Nat.le_of_ble_eq_true rfl⟩ (List.range 31) [29] [0, 1, 2, 3, 4, 5, 6, 7, 8, 9, 10, 11, 12, 13, 14, 15, 16, 17, 18, 19, 20, 21, 22, 23, 24, 25, 26, 27, 28, 30] hK hZ hP hD hS hA (by decide) rfl rfl rfl rfl rfl rfl hl.1 rfl (Nat.le_of_ble_eq_true rfl) dL_law_1371 rfl (fun H locs hP hD hS => ?_)
  refine lv_icmp_eq (tgt := 1379) hx hb dL_law_1374 (by decide) (fun _ => ?_) (fun hc => absurd rfl hc)
  exact hk Maz Fo Sc Se Tr Ch Us Ta Dr G0 N0 G1 N1 G2 N2 G3 N3 Fo2 Sc2 Se2 Tr2 Fo3 Sc3 Se3 Tr3 Mz N hR1 _ _ hP hD hS
