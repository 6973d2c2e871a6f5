def fX7_sheet_29 (Ma : ST) (G0 : ST) (N0 : LT) (G1 : ST) (N1 : LT) (G2 : ST) (N2 : LT) (G3 : ST) (N3 : LT) : Option (Int32 × ST × ST × LT × ST × LT × ST × LT × ST × LT) :=
  dc_b2 (fX7_finding (-1000000001) Ma) (fun r4 Ma_5 => some (r4, Ma_5, G0, N0, G1, N1, G2, N2, G3, N3))
def fX7_sheet_36 (y1 : Int32) (y2 : Int32) (y3 : Int32) (Ma : ST) (G0 : ST) (N0 : LT) (G1 : ST) (N1 : LT) (G2 : ST) (N2 : LT) (G3 : ST) (N3 : LT) : Option (Int32 × ST × ST × LT × ST × LT × ST × LT × ST × LT) :=
  (if 0 ≤ y3 then (if y3 ≤ 40 then (if y1 = 0 then (if y2 = 0 then dc_b2 (fX5_lay y2 0 G0 N0) (fun G0_15 N0_16 => some ((G0_15 0 1), Ma, G0_15, N0_16, G1, N1, G2, N2, G3, N3)) else dc_b2 (fX5_lay y2 y3 G0 N0) (fun G0_12 N0_13 => some ((G0_12 0 1), Ma, G0_12, N0_13, G1, N1, G2, N2, G3, N3))) else if y1 = 1 then (if y2 = 0 then dc_b2 (fX5_lay y2 0 G1 N1) (fun G1_23 N1_24 => some ((G1_23 0 1), Ma, G0, N0, G1_23, N1_24, G2, N2, G3, N3)) else dc_b2 (fX5_lay y2 y3 G1 N1) (fun G1_20 N1_21 => some ((G1_20 0 1), Ma, G0, N0, G1_20, N1_21, G2, N2, G3, N3))) else if y1 = 2 then (if y2 = 0 then dc_b2 (fX5_lay y2 0 G2 N2) (fun G2_31 N2_32 => some ((G2_31 0 1), Ma, G0, N0, G1, N1, G2_31, N2_32, G3, N3)) else dc_b2 (fX5_lay y2 y3 G2 N2) (fun G2_28 N2_29 => some ((G2_28 0 1), Ma, G0, N0, G1, N1, G2_28, N2_29, G3, N3))) else if y1 = 3 then (if y2 = 0 then dc_b2 (fX5_lay y2 0 G3 N3) (fun G3_39 N3_40 => some ((G3_39 0 1), Ma, G0, N0, G1, N1, G2, N2, G3_39, N3_40)) else dc_b2 (fX5_lay y2 y3 G3 N3) (fun G3_36 N3_37 => some ((G3_36 0 1), Ma, G0, N0, G1, N1, G2, N2, G3_36, N3_37))) else none) else dc_b2 (fX7_finding (-1000000001) Ma) (fun r42 Ma_43 => some (r42, Ma_43, G0, N0, G1, N1, G2, N2, G3, N3))) else dc_b2 (fX7_finding (-1000000007) Ma) (fun r45 Ma_46 => some (r45, Ma_46, G0, N0, G1, N1, G2, N2, G3, N3)))
def fX7_sheet (x1 : Int32) (x2 : Int32) (x3 : Int32) (Ma : ST) (G0 : ST) (N0 : LT) (G1 : ST) (N1 : LT) (G2 : ST) (N2 : LT) (G3 : ST) (N3 : LT) : Option (Int32 × ST × ST × LT × ST × LT × ST × LT × ST × LT) :=
  dc_b1 (fX7_isSheet x1) (fun r1 => (if r1 = 0 then fX7_sheet_29 Ma G0 N0 G1 N1 G2 N2 G3 N3 else (if x2 = 0 then fX7_sheet_36 x1 x2 x3 Ma G0 N0 G1 N1 G2 N2 G3 N3 else (if x2 = 8 then fX7_sheet_36 x1 x2 x3 Ma G0 N0 G1 N1 G2 N2 G3 N3 else (if x2 = 16 then fX7_sheet_36 x1 x2 x3 Ma G0 N0 G1 N1 G2 N2 G3 N3 else (if x2 = 64 then fX7_sheet_36 x1 x2 x3 Ma G0 N0 G1 N1 G2 N2 G3 N3 else fX7_sheet_29 Ma G0 N0 G1 N1 G2 N2 G3 N3))))))
abbrev rmX7_sheet : Room := { frames := 2, cells := 0, slots := 0, locals := 46 }
set_option maxRecDepth 100000 in
set_option maxHeartbeats 4000000 in
theorem tX7_sheet (l : Launch) (D : va_G) (cs : Nat → ClassId) (ama : Nat → Nat) (are : Nat → Nat) (are2 : Nat → Nat) (are3 : Nat → Nat) (ach : Nat → Nat) (ata : Nat → Nat) (asa : Nat → Nat) (ag0 : Nat → Nat) (ag1 : Nat → Nat) (ag2 : Nat → Nat) (ag3 : Nat → Nat) (an0 : Nat → Nat) (an1 : Nat → Nat) (an2 : Nat → Nat) (an3 : Nat → Nat) (x1 : Int32) (x2 : Int32) (x3 : Int32) (Ma : ST) (G0 : ST) (N0 : LT) (G1 : ST) (N1 : LT) (G2 : ST) (N2 : LT) (G3 : ST) (N3 : LT) (r0 : Int32) (Maz : ST) (G0z : ST) (N0z : LT) (G1z : ST) (N1z : LT) (G2z : ST) (N2z : LT) (G3z : ST) (N3z : LT) (hf : fX7_sheet x1 x2 x3 Ma G0 N0 G1 N1 G2 N2 G3 N3 = some (r0, Maz, G0z, N0z, G1z, N1z, G2z, N2z, G3z, N3z)) : CG l yX7_sheet (wsm yX7_sheet cX7_sheet 4 (some .int)) rmX7_sheet D cs [.ref (ama 0), .int x1, .int x2, .int x3] (some (.int r0)) ((kX7 cs ama (.ref (are 0)) (.ref (are2 0)) (.ref (are3 0)) (.ref (ach 0)) (.ref (ata 0)) (.ref (asa 0)) Ma) ++ ((kSA cs asa (ag0 0) (ag1 0) (ag2 0) (ag3 0)) ++ ((kX5 cs ag0 (.ref (an0 0)) G0) ++ ((kJ40 cs an0 N0) ++ ((kX5 cs ag1 (.ref (an1 0)) G1) ++ ((kJ40 cs an1 N1) ++ ((kX5 cs ag2 (.ref (an2 0)) G2) ++ ((kJ40 cs an2 N2) ++ ((kX5 cs ag3 (.ref (an3 0)) G3) ++ ((kJ40 cs an3 N3))))))))))) ((kX7 cs ama (.ref (are 0)) (.ref (are2 0)) (.ref (are3 0)) (.ref (ach 0)) (.ref (ata 0)) (.ref (asa 0)) Maz) ++ ((kSA cs asa (ag0 0) (ag1 0) (ag2 0) (ag3 0)) ++ ((kX5 cs ag0 (.ref (an0 0)) G0z) ++ ((kJ40 cs an0 N0z) ++ ((kX5 cs ag1 (.ref (an1 0)) G1z) ++ ((kJ40 cs an1 N1z) ++ ((kX5 cs ag2 (.ref (an2 0)) G2z) ++ ((kJ40 cs an2 N2z) ++ ((kX5 cs ag3 (.ref (an3 0)) G3z) ++ ((kJ40 cs an3 N3z))))))))))) := by
  refine CG.intro (by decide) (Nat.le_of_ble_eq_true rfl) ?_
  intro p e s m below meth c A Q hx hb hml hown hu hK hZ hP0 hD0 hS0 hA hri hrz hrl hrv hra ls0 hl0
  have h29 : ∀ (Ma : ST) (G0 : ST) (N0 : LT) (G1 : ST) (N1 : LT) (G2 : ST) (N2 : LT) (G3 : ST) (N3 : LT) (H : Heap) (locs : List Loc) (ls : Array Slot), va_P D vwCl ((kX7 cs ama (.ref (are 0)) (.ref (are2 0)) (.ref (are3 0)) (.ref (ach 0)) (.ref (ata 0)) (.ref (asa 0)) Ma) ++ ((kSA cs asa (ag0 0) (ag1 0) (ag2 0) (ag3 0)) ++ ((kX5 cs ag0 (.ref (an0 0)) G0) ++ ((kJ40 cs an0 N0) ++ ((kX5 cs ag1 (.ref (an1 0)) G1) ++ ((kJ40 cs an1 N1) ++ ((kX5 cs ag2 (.ref (an2 0)) G2) ++ ((kJ40 cs an2 N2) ++ ((kX5 cs ag3 (.ref (an3 0)) G3) ++ ((kJ40 cs an3 N3))))))))))) H → va_D A ((kX7 cs ama (.ref (are 0)) (.ref (are2 0)) (.ref (are3 0)) (.ref (ach 0)) (.ref (ata 0)) (.ref (asa 0)) Ma) ++ ((kSA cs asa (ag0 0) (ag1 0) (ag2 0) (ag3 0)) ++ ((kX5 cs ag0 (.ref (an0 0)) G0) ++ ((kJ40 cs an0 N0) ++ ((kX5 cs ag1 (.ref (an1 0)) G1) ++ ((kJ40 cs an1 N1) ++ ((kX5 cs ag2 (.ref (an2 0)) G2) ++ ((kJ40 cs an2 N2) ++ ((kX5 cs ag3 (.ref (an3 0)) G3) ++ ((kJ40 cs an3 N3))))))))))) → va_S A s.heap H locs → lv_has ls 4 [(0, .ref (ama 0))] → fX7_sheet_29 Ma G0 N0 G1 N1 G2 N2 G3 N3 = some (r0, Maz, G0z, N0z, G1z, N1z, G2z, N2z, G3z, N3z) → W p l e rmX7_sheet s m [.ref (ama 0), .int x1, .int x2, .int x3].toArray below meth c H locs 0 0 Q (F0 m 29 ls []) := by
    intro Ma G0 N0 G1 N1 G2 N2 G3 N3 H locs ls hP hD hS hl hf
    unfold fX7_sheet_29 at hf
    refine lv_aload_n hx hb dX7_sheet_29 rfl (lv_at hl 0 rfl) ?_
    refine lv_ldc (v := (-1000000001)) hx hb hown (hu _ q335) dX7_sheet_30 ?_
    obtain ⟨r4, Ma_5, hg6, hf⟩ := b2_el hf
    refine cc_V (w' := ((kX7 cs ama (.ref (are 0)) (.ref (are2 0)) (.ref (are3 0)) (.ref (ach 0)) (.ref (ata 0)) (.ref (asa 0)) Ma_5) ++ ((kSA cs asa (ag0 0) (ag1 0) (ag2 0) (ag3 0)) ++ ((kX5 cs ag0 (.ref (an0 0)) G0) ++ ((kJ40 cs an0 N0) ++ ((kX5 cs ag1 (.ref (an1 0)) G1) ++ ((kJ40 cs an1 N1) ++ ((kX5 cs ag2 (.ref (an2 0)) G2) ++ ((kJ40 cs an2 N2) ++ ((kX5 cs ag3 (.ref (an3 0)) G3) ++ ((kJ40 cs an3 N3)))))))))))) (wr := ((kSA cs asa (ag0 0) (ag1 0) (ag2 0) (ag3 0)) ++ ((kX5 cs ag0 (.ref (an0 0)) G0) ++ ((kJ40 cs an0 N0) ++ ((kX5 cs ag1 (.ref (an1 0)) G1) ++ ((kJ40 cs an1 N1) ++ ((kX5 cs ag2 (.ref (an2 0)) G2) ++ ((kJ40 cs an2 N2) ++ ((kX5 cs ag3 (.ref (an3 0)) G3) ++ ((kJ40 cs an3 N3))))))))))) (st1 := [.int r4]) [.int (-1000000001)] hx hb hml hown hu (tX7_finding l D cs ama are are2 are3 ach ata asa (-1000000001) Ma r4 Ma_5 hg6) q339 q54 q336 q338 q0 pdX7_finding ⟨rfl, rfl, Nat.le_of_ble_eq_true rfl, Nat.le_of_ble_eq_true rfl⟩ hK hZ hP hD hS hA [0, 1] [2, 3, 4, 5, 6, 7, 8, 9, 10] [9, 10, 0, 1, 2, 3, 4, 5, 6, 7, 8] rfl rfl rfl rfl rfl rfl rfl rfl rfl rfl hl.1 rfl (Nat.le_of_ble_eq_true rfl) dX7_sheet_32 rfl (fun H locs hP hD hS => ?_)
    have he := Option.some.inj hf
    obtain ⟨e0, ht0⟩ := Prod.mk.inj he
    obtain ⟨e1, ht1⟩ := Prod.mk.inj ht0
    obtain ⟨e2, ht2⟩ := Prod.mk.inj ht1
    obtain ⟨e3, ht3⟩ := Prod.mk.inj ht2
    obtain ⟨e4, ht4⟩ := Prod.mk.inj ht3
    obtain ⟨e5, ht5⟩ := Prod.mk.inj ht4
    obtain ⟨e6, ht6⟩ := Prod.mk.inj ht5
    obtain ⟨e7, ht7⟩ := Prod.mk.inj ht6
    obtain ⟨e8, e9⟩ := Prod.mk.inj ht7
    exact hri _ _ _ rfl (congrArg (fun z => some (Value.int z)) e0.symm) dX7_sheet_35 _ _ _ (by rw [e1, e2, e3, e4, e5, e6, e7, e8, e9]) hP hD hS
  have h36 : ∀ (y1 : Int32) (y2 : Int32) (y3 : Int32) (Ma : ST) (G0 : ST) (N0 : LT) (G1 : ST) (N1 : LT) (G2 : ST) (N2 : LT) (G3 : ST) (N3 : LT) (H : Heap) (locs : List Loc) (ls : Array Slot), va_P D vwCl ((kX7 cs ama (.ref (are 0)) (.ref (are2 0)) (.ref (are3 0)) (.ref (ach 0)) (.ref (ata 0)) (.ref (asa 0)) Ma) ++ ((kSA cs asa (ag0 0) (ag1 0) (ag2 0) (ag3 0)) ++ ((kX5 cs ag0 (.ref (an0 0)) G0) ++ ((kJ40 cs an0 N0) ++ ((kX5 cs ag1 (.ref (an1 0)) G1) ++ ((kJ40 cs an1 N1) ++ ((kX5 cs ag2 (.ref (an2 0)) G2) ++ ((kJ40 cs an2 N2) ++ ((kX5 cs ag3 (.ref (an3 0)) G3) ++ ((kJ40 cs an3 N3))))))))))) H → va_D A ((kX7 cs ama (.ref (are 0)) (.ref (are2 0)) (.ref (are3 0)) (.ref (ach 0)) (.ref (ata 0)) (.ref (asa 0)) Ma) ++ ((kSA cs asa (ag0 0) (ag1 0) (ag2 0) (ag3 0)) ++ ((kX5 cs ag0 (.ref (an0 0)) G0) ++ ((kJ40 cs an0 N0) ++ ((kX5 cs ag1 (.ref (an1 0)) G1) ++ ((kJ40 cs an1 N1) ++ ((kX5 cs ag2 (.ref (an2 0)) G2) ++ ((kJ40 cs an2 N2) ++ ((kX5 cs ag3 (.ref (an3 0)) G3) ++ ((kJ40 cs an3 N3))))))))))) → va_S A s.heap H locs → lv_has ls 4 [(0, .ref (ama 0)), (1, .int y1), (2, .int y2), (3, .int y3)] → fX7_sheet_36 y1 y2 y3 Ma G0 N0 G1 N1 G2 N2 G3 N3 = some (r0, Maz, G0z, N0z, G1z, N1z, G2z, N2z, G3z, N3z) → W p l e rmX7_sheet s m [.ref (ama 0), .int x1, .int x2, .int x3].toArray below meth c H locs 0 0 Q (F0 m 36 ls []) := by
    intro y1 y2 y3 Ma G0 N0 G1 N1 G2 N2 G3 N3 H locs ls hP hD hS hl hf
    unfold fX7_sheet_36 at hf
    refine lv_iload_n hx hb dX7_sheet_36 rfl (lv_at hl 3 rfl) ?_
    refine lv_if_ge (tgt := 48) hx hb dX7_sheet_37 (by decide) (fun hc8 => ?_) (fun hc8 => ?_)
    · have hf := ip_el hc8 hf
      refine lv_iload_n hx hb dX7_sheet_48 rfl (lv_at hl 3 rfl) ?_
      refine lv_bipush (v := 40) hx hb dX7_sheet_49 (by decide) ?_
      refine lv_icmp_le (tgt := 61) hx hb dX7_sheet_51 (by decide) (fun hc9 => ?_) (fun hc9 => ?_)
      · have hf := ip_el hc9 hf
        refine lv_aload_n hx hb dX7_sheet_61 rfl (lv_at hl 0 rfl) ?_
        refine va_get (D := D) (ci := 7) (v := .ref (asa 0)) (C := RX7) (T := TX7) (N := 8) hx hb hu inX7 hown hK.1 hP 0 rfl rfl 5 (by decide) (hu _ q305) (fun _ h9 => h9) rfl dX7_sheet_62 ?_
        refine lv_iload_n hx hb dX7_sheet_65 rfl (lv_at hl 1 rfl) ?_
        by_cases hc10 : y1 = 0
        · have hf := ip_el hc10 hf
          refine sa_lit (e := ag0 0) hx hb hK hP 2 rfl (k := 0) (by rw [hc10]; decide) rfl dX7_sheet_66 ?_
          refine lv_iload_n hx hb dX7_sheet_67 rfl (lv_at hl 2 rfl) ?_
          refine lv_iload_n hx hb dX7_sheet_68 rfl (lv_at hl 2 rfl) ?_
          refine lv_if_ne (tgt := 76) hx hb dX7_sheet_69 (by decide) (fun hc11 => ?_) (fun hc11 => ?_)
          · have hf := in_el hc11 hf
            refine lv_iload_n hx hb dX7_sheet_76 rfl (lv_at hl 3 rfl) ?_
            obtain ⟨G0_12, N0_13, hg14, hf⟩ := b2_el hf
            refine cc_V (w' := ((kX7 cs ama (.ref (are 0)) (.ref (are2 0)) (.ref (are3 0)) (.ref (ach 0)) (.ref (ata 0)) (.ref (asa 0)) Ma) ++ ((kSA cs asa (ag0 0) (ag1 0) (ag2 0) (ag3 0)) ++ ((kX5 cs ag0 (.ref (an0 0)) G0_12) ++ ((kJ40 cs an0 N0_13) ++ ((kX5 cs ag1 (.ref (an1 0)) G1) ++ ((kJ40 cs an1 N1) ++ ((kX5 cs ag2 (.ref (an2 0)) G2) ++ ((kJ40 cs an2 N2) ++ ((kX5 cs ag3 (.ref (an3 0)) G3) ++ ((kJ40 cs an3 N3)))))))))))) (wr := ((kX7 cs ama (.ref (are 0)) (.ref (are2 0)) (.ref (are3 0)) (.ref (ach 0)) (.ref (ata 0)) (.ref (asa 0)) Ma) ++ ((kSA cs asa (ag0 0) (ag1 0) (ag2 0) (ag3 0)) ++ ((kX5 cs ag1 (.ref (an1 0)) G1) ++ ((kJ40 cs an1 N1) ++ ((kX5 cs ag2 (.ref (an2 0)) G2) ++ ((kJ40 cs an2 N2) ++ ((kX5 cs ag3 (.ref (an3 0)) G3) ++ ((kJ40 cs an3 N3)))))))))) (st1 := []) [.int y2, .int y3] hx hb hml hown hu (tX5_lay l D cs ag0 an0 y2 y3 G0 N0 G0_12 N0_13 hg14) q849 q61 q846 q847 q848 pdX5_lay ⟨rfl, rfl, Nat.le_of_ble_eq_true rfl, Nat.le_of_ble_eq_true rfl⟩ hK hZ hP hD hS hA [3, 4] [0, 1, 2, 5, 6, 7, 8, 9, 10] [0, 1, 2, 9, 10, 3, 4, 5, 6, 7, 8] rfl rfl rfl rfl rfl rfl rfl rfl rfl rfl hl.1 rfl (Nat.le_of_ble_eq_true rfl) dX7_sheet_77 rfl (fun H locs hP hD hS => ?_)
            refine lv_aload_n hx hb dX7_sheet_80 rfl (lv_at hl 0 rfl) ?_
            refine va_get (D := D) (ci := 7) (v := .ref (asa 0)) (C := RX7) (T := TX7) (N := 8) hx hb hu inX7 hown hK.1 hP 0 rfl rfl 5 (by decide) (hu _ q305) (fun _ h9 => h9) rfl dX7_sheet_81 ?_
            refine lv_iload_n hx hb dX7_sheet_84 rfl (lv_at hl 1 rfl) ?_
            refine sa_lit (e := ag0 0) hx hb hK hP 2 rfl (k := 0) (by rw [hc10]; decide) rfl dX7_sheet_85 ?_
            refine va_get (D := D) (ci := 5) (v := .int (G0_12 0 1)) (C := RX5) (T := TX5) (N := 3) hx hb hu inX5 hown hK.1 hP 3 rfl rfl 1 (by decide) (hu _ q289) (fun _ h9 => h9) rfl dX7_sheet_86 ?_
            have he := Option.some.inj hf
            obtain ⟨e0, ht0⟩ := Prod.mk.inj he
            obtain ⟨e1, ht1⟩ := Prod.mk.inj ht0
            obtain ⟨e2, ht2⟩ := Prod.mk.inj ht1
            obtain ⟨e3, ht3⟩ := Prod.mk.inj ht2
            obtain ⟨e4, ht4⟩ := Prod.mk.inj ht3
            obtain ⟨e5, ht5⟩ := Prod.mk.inj ht4
            obtain ⟨e6, ht6⟩ := Prod.mk.inj ht5
            obtain ⟨e7, ht7⟩ := Prod.mk.inj ht6
            obtain ⟨e8, e9⟩ := Prod.mk.inj ht7
            exact hri _ _ _ rfl (congrArg (fun z => some (Value.int z)) e0.symm) dX7_sheet_89 _ _ _ (by rw [e1, e2, e3, e4, e5, e6, e7, e8, e9]) hP hD hS
          · have hf := ip_el hc11 hf
            refine lv_iconst (v := 0) hx hb dX7_sheet_72 (by decide) ?_
            refine lv_goto (tgt := 77) hx hb dX7_sheet_73 (by decide) ?_
            obtain ⟨G0_15, N0_16, hg17, hf⟩ := b2_el hf
            refine cc_V (w' := ((kX7 cs ama (.ref (are 0)) (.ref (are2 0)) (.ref (are3 0)) (.ref (ach 0)) (.ref (ata 0)) (.ref (asa 0)) Ma) ++ ((kSA cs asa (ag0 0) (ag1 0) (ag2 0) (ag3 0)) ++ ((kX5 cs ag0 (.ref (an0 0)) G0_15) ++ ((kJ40 cs an0 N0_16) ++ ((kX5 cs ag1 (.ref (an1 0)) G1) ++ ((kJ40 cs an1 N1) ++ ((kX5 cs ag2 (.ref (an2 0)) G2) ++ ((kJ40 cs an2 N2) ++ ((kX5 cs ag3 (.ref (an3 0)) G3) ++ ((kJ40 cs an3 N3)))))))))))) (wr := ((kX7 cs ama (.ref (are 0)) (.ref (are2 0)) (.ref (are3 0)) (.ref (ach 0)) (.ref (ata 0)) (.ref (asa 0)) Ma) ++ ((kSA cs asa (ag0 0) (ag1 0) (ag2 0) (ag3 0)) ++ ((kX5 cs ag1 (.ref (an1 0)) G1) ++ ((kJ40 cs an1 N1) ++ ((kX5 cs ag2 (.ref (an2 0)) G2) ++ ((kJ40 cs an2 N2) ++ ((kX5 cs ag3 (.ref (an3 0)) G3) ++ ((kJ40 cs an3 N3)))))))))) (st1 := []) [.int y2, .int 0] hx hb hml hown hu (tX5_lay l D cs ag0 an0 y2 0 G0 N0 G0_15 N0_16 hg17) q849 q61 q846 q847 q848 pdX5_lay ⟨rfl, rfl, Nat.le_of_ble_eq_true rfl, Nat.le_of_ble_eq_true rfl⟩ hK hZ hP hD hS hA [3, 4] [0, 1, 2, 5, 6, 7, 8, 9, 10] [0, 1, 2, 9, 10, 3, 4, 5, 6, 7, 8] rfl rfl rfl rfl rfl rfl rfl rfl rfl rfl hl.1 rfl (Nat.le_of_ble_eq_true rfl) dX7_sheet_77 rfl (fun H locs hP hD hS => ?_)
            refine lv_aload_n hx hb dX7_sheet_80 rfl (lv_at hl 0 rfl) ?_
            refine va_get (D := D) (ci := 7) (v := .ref (asa 0)) (C := RX7) (T := TX7) (N := 8) hx hb hu inX7 hown hK.1 hP 0 rfl rfl 5 (by decide) (hu _ q305) (fun _ h9 => h9) rfl dX7_sheet_81 ?_
            refine lv_iload_n hx hb dX7_sheet_84 rfl (lv_at hl 1 rfl) ?_
            refine sa_lit (e := ag0 0) hx hb hK hP 2 rfl (k := 0) (by rw [hc10]; decide) rfl dX7_sheet_85 ?_
            refine va_get (D := D) (ci := 5) (v := .int (G0_15 0 1)) (C := RX5) (T := TX5) (N := 3) hx hb hu inX5 hown hK.1 hP 3 rfl rfl 1 (by decide) (hu _ q289) (fun _ h9 => h9) rfl dX7_sheet_86 ?_
            have he := Option.some.inj hf
            obtain ⟨e0, ht0⟩ := Prod.mk.inj he
            obtain ⟨e1, ht1⟩ := Prod.mk.inj ht0
            obtain ⟨e2, ht2⟩ := Prod.mk.inj ht1
            obtain ⟨e3, ht3⟩ := Prod.mk.inj ht2
            obtain ⟨e4, ht4⟩ := Prod.mk.inj ht3
            obtain ⟨e5, ht5⟩ := Prod.mk.inj ht4
            obtain ⟨e6, ht6⟩ := Prod.mk.inj ht5
            obtain ⟨e7, ht7⟩ := Prod.mk.inj ht6
            obtain ⟨e8, e9⟩ := Prod.mk.inj ht7
            exact hri _ _ _ rfl (congrArg (fun z => some (Value.int z)) e0.symm) dX7_sheet_89 _ _ _ (by rw [e1, e2, e3, e4, e5, e6, e7, e8, e9]) hP hD hS
        have hf := in_el hc10 hf
        by_cases hc18 : y1 = 1
        · have hf := ip_el hc18 hf
          refine sa_lit (e := ag1 0) hx hb hK hP 2 rfl (k := 1) (by rw [hc18]; decide) rfl dX7_sheet_66 ?_
          refine lv_iload_n hx hb dX7_sheet_67 rfl (lv_at hl 2 rfl) ?_
          refine lv_iload_n hx hb dX7_sheet_68 rfl (lv_at hl 2 rfl) ?_
          refine lv_if_ne (tgt := 76) hx hb dX7_sheet_69 (by decide) (fun hc19 => ?_) (fun hc19 => ?_)
          · have hf := in_el hc19 hf
            refine lv_iload_n hx hb dX7_sheet_76 rfl (lv_at hl 3 rfl) ?_
            obtain ⟨G1_20, N1_21, hg22, hf⟩ := b2_el hf
            refine cc_V (w' := ((kX7 cs ama (.ref (are 0)) (.ref (are2 0)) (.ref (are3 0)) (.ref (ach 0)) (.ref (ata 0)) (.ref (asa 0)) Ma) ++ ((kSA cs asa (ag0 0) (ag1 0) (ag2 0) (ag3 0)) ++ ((kX5 cs ag0 (.ref (an0 0)) G0) ++ ((kJ40 cs an0 N0) ++ ((kX5 cs ag1 (.ref (an1 0)) G1_20) ++ ((kJ40 cs an1 N1_21) ++ ((kX5 cs ag2 (.ref (an2 0)) G2) ++ ((kJ40 cs an2 N2) ++ ((kX5 cs ag3 (.ref (an3 0)) G3) ++ ((kJ40 cs an3 N3)))))))))))) (wr := ((kX7 cs ama (.ref (are 0)) (.ref (are2 0)) (.ref (are3 0)) (.ref (ach 0)) (.ref (ata 0)) (.ref (asa 0)) Ma) ++ ((kSA cs asa (ag0 0) (ag1 0) (ag2 0) (ag3 0)) ++ ((kX5 cs ag0 (.ref (an0 0)) G0) ++ ((kJ40 cs an0 N0) ++ ((kX5 cs ag2 (.ref (an2 0)) G2) ++ ((kJ40 cs an2 N2) ++ ((kX5 cs ag3 (.ref (an3 0)) G3) ++ ((kJ40 cs an3 N3)))))))))) (st1 := []) [.int y2, .int y3] hx hb hml hown hu (tX5_lay l D cs ag1 an1 y2 y3 G1 N1 G1_20 N1_21 hg22) q849 q61 q846 q847 q848 pdX5_lay ⟨rfl, rfl, Nat.le_of_ble_eq_true rfl, Nat.le_of_ble_eq_true rfl⟩ hK hZ hP hD hS hA [5, 6] [0, 1, 2, 3, 4, 7, 8, 9, 10] [0, 1, 2, 3, 4, 9, 10, 5, 6, 7, 8] rfl rfl rfl rfl rfl rfl rfl rfl rfl rfl hl.1 rfl (Nat.le_of_ble_eq_true rfl) dX7_sheet_77 rfl (fun H locs hP hD hS => ?_)
            refine lv_aload_n hx hb dX7_sheet_80 rfl (lv_at hl 0 rfl) ?_
            refine va_get (D := D) (ci := 7) (v := .ref (asa 0)) (C := RX7) (T := TX7) (N := 8) hx hb hu inX7 hown hK.1 hP 0 rfl rfl 5 (by decide) (hu _ q305) (fun _ h9 => h9) rfl dX7_sheet_81 ?_
            refine lv_iload_n hx hb dX7_sheet_84 rfl (lv_at hl 1 rfl) ?_
            refine sa_lit (e := ag1 0) hx hb hK hP 2 rfl (k := 1) (by rw [hc18]; decide) rfl dX7_sheet_85 ?_
            refine va_get (D := D) (ci := 5) (v := .int (G1_20 0 1)) (C := RX5) (T := TX5) (N := 3) hx hb hu inX5 hown hK.1 hP 5 rfl rfl 1 (by decide) (hu _ q289) (fun _ h9 => h9) rfl dX7_sheet_86 ?_
            have he := Option.some.inj hf
            obtain ⟨e0, ht0⟩ := Prod.mk.inj he
            obtain ⟨e1, ht1⟩ := Prod.mk.inj ht0
            obtain ⟨e2, ht2⟩ := Prod.mk.inj ht1
            obtain ⟨e3, ht3⟩ := Prod.mk.inj ht2
            obtain ⟨e4, ht4⟩ := Prod.mk.inj ht3
            obtain ⟨e5, ht5⟩ := Prod.mk.inj ht4
            obtain ⟨e6, ht6⟩ := Prod.mk.inj ht5
            obtain ⟨e7, ht7⟩ := Prod.mk.inj ht6
            obtain ⟨e8, e9⟩ := Prod.mk.inj ht7
            exact hri _ _ _ rfl (congrArg (fun z => some (Value.int z)) e0.symm) dX7_sheet_89 _ _ _ (by rw [e1, e2, e3, e4, e5, e6, e7, e8, e9]) hP hD hS
          · have hf := ip_el hc19 hf
            refine lv_iconst (v := 0) hx hb dX7_sheet_72 (by decide) ?_
            refine lv_goto (tgt := 77) hx hb dX7_sheet_73 (by decide) ?_
            obtain ⟨G1_23, N1_24, hg25, hf⟩ := b2_el hf
            refine cc_V (w' := ((kX7 cs ama (.ref (are 0)) (.ref (are2 0)) (.ref (are3 0)) (.ref (ach 0)) (.ref (ata 0)) (.ref (asa 0)) Ma) ++ ((kSA cs asa (ag0 0) (ag1 0) (ag2 0) (ag3 0)) ++ ((kX5 cs ag0 (.ref (an0 0)) G0) ++ ((kJ40 cs an0 N0) ++ ((kX5 cs ag1 (.ref (an1 0)) G1_23) ++ ((kJ40 cs an1 N1_24) ++ ((kX5 cs ag2 (.ref (an2 0)) G2) ++ ((kJ40 cs an2 N2) ++ ((kX5 cs ag3 (.ref (an3 0)) G3) ++ ((kJ40 cs an3 N3)))))))))))) (wr := ((kX7 cs ama (.ref (are 0)) (.ref (are2 0)) (.ref (are3 0)) (.ref (ach 0)) (.ref (ata 0)) (.ref (asa 0)) Ma) ++ ((kSA cs asa (ag0 0) (ag1 0) (ag2 0) (ag3 0)) ++ ((kX5 cs ag0 (.ref (an0 0)) G0) ++ ((kJ40 cs an0 N0) ++ ((kX5 cs ag2 (.ref (an2 0)) G2) ++ ((kJ40 cs an2 N2) ++ ((kX5 cs ag3 (.ref (an3 0)) G3) ++ ((kJ40 cs an3 N3)))))))))) (st1 := []) [.int y2, .int 0] hx hb hml hown hu (tX5_lay l D cs ag1 an1 y2 0 G1 N1 G1_23 N1_24 hg25) q849 q61 q846 q847 q848 pdX5_lay ⟨rfl, rfl, Nat.le_of_ble_eq_true rfl, Nat.le_of_ble_eq_true rfl⟩ hK hZ hP hD hS hA [5, 6] [0, 1, 2, 3, 4, 7, 8, 9, 10] [0, 1, 2, 3, 4, 9, 10, 5, 6, 7, 8] rfl rfl rfl rfl rfl rfl rfl rfl rfl rfl hl.1 rfl (Nat.le_of_ble_eq_true rfl) dX7_sheet_77 rfl (fun H locs hP hD hS => ?_)
            refine lv_aload_n hx hb dX7_sheet_80 rfl (lv_at hl 0 rfl) ?_
            refine va_get (D := D) (ci := 7) (v := .ref (asa 0)) (C := RX7) (T := TX7) (N := 8) hx hb hu inX7 hown hK.1 hP 0 rfl rfl 5 (by decide) (hu _ q305) (fun _ h9 => h9) rfl dX7_sheet_81 ?_
            refine lv_iload_n hx hb dX7_sheet_84 rfl (lv_at hl 1 rfl) ?_
            refine sa_lit (e := ag1 0) hx hb hK hP 2 rfl (k := 1) (by rw [hc18]; decide) rfl dX7_sheet_85 ?_
            refine va_get (D := D) (ci := 5) (v := .int (G1_23 0 1)) (C := RX5) (T := TX5) (N := 3) hx hb hu inX5 hown hK.1 hP 5 rfl rfl 1 (by decide) (hu _ q289) (fun _ h9 => h9) rfl dX7_sheet_86 ?_
            have he := Option.some.inj hf
            obtain ⟨e0, ht0⟩ := Prod.mk.inj he
            obtain ⟨e1, ht1⟩ := Prod.mk.inj ht0
            obtain ⟨e2, ht2⟩ := Prod.mk.inj ht1
            obtain ⟨e3, ht3⟩ := Prod.mk.inj ht2
            obtain ⟨e4, ht4⟩ := Prod.mk.inj ht3
            obtain ⟨e5, ht5⟩ := Prod.mk.inj ht4
            obtain ⟨e6, ht6⟩ := Prod.mk.inj ht5
            obtain ⟨e7, ht7⟩ := Prod.mk.inj ht6
            obtain ⟨e8, e9⟩ := Prod.mk.inj ht7
            exact hri _ _ _ rfl (congrArg (fun z => some (Value.int z)) e0.symm) dX7_sheet_89 _ _ _ (by rw [e1, e2, e3, e4, e5, e6, e7, e8, e9]) hP hD hS
        have hf := in_el hc18 hf
        by_cases hc26 : y1 = 2
        · have hf := ip_el hc26 hf
          refine sa_lit (e := ag2 0) hx hb hK hP 2 rfl (k := 2) (by rw [hc26]; decide) rfl dX7_sheet_66 ?_
          refine lv_iload_n hx hb dX7_sheet_67 rfl (lv_at hl 2 rfl) ?_
          refine lv_iload_n hx hb dX7_sheet_68 rfl (lv_at hl 2 rfl) ?_
          refine lv_if_ne (tgt := 76) hx hb dX7_sheet_69 (by decide) (fun hc27 => ?_) (fun hc27 => ?_)
          · have hf := in_el hc27 hf
            refine lv_iload_n hx hb dX7_sheet_76 rfl (lv_at hl 3 rfl) ?_
            obtain ⟨G2_28, N2_29, hg30, hf⟩ := b2_el hf
            refine cc_V (w' := ((kX7 cs ama (.ref (are 0)) (.ref (are2 0)) (.ref (are3 0)) (.ref (ach 0)) (.ref (ata 0)) (.ref (asa 0)) Ma) ++ ((kSA cs asa (ag0 0) (ag1 0) (ag2 0) (ag3 0)) ++ ((kX5 cs ag0 (.ref (an0 0)) G0) ++ ((kJ40 cs an0 N0) ++ ((kX5 cs ag1 (.ref (an1 0)) G1) ++ ((kJ40 cs an1 N1) ++ ((kX5 cs ag2 (.ref (an2 0)) G2_28) ++ ((kJ40 cs an2 N2_29) ++ ((kX5 cs ag3 (.ref (an3 0)) G3) ++ ((kJ40 cs an3 N3)))))))))))) (wr := ((kX7 cs ama (.ref (are 0)) (.ref (are2 0)) (.ref (are3 0)) (.ref (ach 0)) (.ref (ata 0)) (.ref (asa 0)) Ma) ++ ((kSA cs asa (ag0 0) (ag1 0) (ag2 0) (ag3 0)) ++ ((kX5 cs ag0 (.ref (an0 0)) G0) ++ ((kJ40 cs an0 N0) ++ ((kX5 cs ag1 (.ref (an1 0)) G1) ++ ((kJ40 cs an1 N1) ++ ((kX5 cs ag3 (.ref (an3 0)) G3) ++ ((kJ40 cs an3 N3)))))))))) (st1 := []) [.int y2, .int y3] hx hb hml hown hu (tX5_lay l D cs ag2 an2 y2 y3 G2 N2 G2_28 N2_29 hg30) q849 q61 q846 q847 q848 pdX5_lay ⟨rfl, rfl, Nat.le_of_ble_eq_true rfl, Nat.le_of_ble_eq_true rfl⟩ hK hZ hP hD hS hA [7, 8] [0, 1, 2, 3, 4, 5, 6, 9, 10] [0, 1, 2, 3, 4, 5, 6, 9, 10, 7, 8] rfl rfl rfl rfl rfl rfl rfl rfl rfl rfl hl.1 rfl (Nat.le_of_ble_eq_true rfl) dX7_sheet_77 rfl (fun H locs hP hD hS => ?_)
            refine lv_aload_n hx hb dX7_sheet_80 rfl (lv_at hl 0 rfl) ?_
            refine va_get (D := D) (ci := 7) (v := .ref (asa 0)) (C := RX7) (T := TX7) (N := 8) hx hb hu inX7 hown hK.1 hP 0 rfl rfl 5 (by decide) (hu _ q305) (fun _ h9 => h9) rfl dX7_sheet_81 ?_
            refine lv_iload_n hx hb dX7_sheet_84 rfl (lv_at hl 1 rfl) ?_
            refine sa_lit (e := ag2 0) hx hb hK hP 2 rfl (k := 2) (by rw [hc26]; decide) rfl dX7_sheet_85 ?_
            refine va_get (D := D) (ci := 5) (v := .int (G2_28 0 1)) (C := RX5) (T := TX5) (N := 3) hx hb hu inX5 hown hK.1 hP 7 rfl rfl 1 (by decide) (hu _ q289) (fun _ h9 => h9) rfl dX7_sheet_86 ?_
            have he := Option.some.inj hf
            obtain ⟨e0, ht0⟩ := Prod.mk.inj he
            obtain ⟨e1, ht1⟩ := Prod.mk.inj ht0
            obtain ⟨e2, ht2⟩ := Prod.mk.inj ht1
            obtain ⟨e3, ht3⟩ := Prod.mk.inj ht2
            obtain ⟨e4, ht4⟩ := Prod.mk.inj ht3
            obtain ⟨e5, ht5⟩ := Prod.mk.inj ht4
            obtain ⟨e6, ht6⟩ := Prod.mk.inj ht5
            obtain ⟨e7, ht7⟩ := Prod.mk.inj ht6
            obtain ⟨e8, e9⟩ := Prod.mk.inj ht7
            exact hri _ _ _ rfl (congrArg (fun z => some (Value.int z)) e0.symm) dX7_sheet_89 _ _ _ (by rw [e1, e2, e3, e4, e5, e6, e7, e8, e9]) hP hD hS
          · have hf := ip_el hc27 hf
            refine lv_iconst (v := 0) hx hb dX7_sheet_72 (by decide) ?_
            refine lv_goto (tgt := 77) hx hb dX7_sheet_73 (by decide) ?_
            obtain ⟨G2_31, N2_32, hg33, hf⟩ := b2_el hf
            refine cc_V (w' := ((kX7 cs ama (.ref (are 0)) (.ref (are2 0)) (.ref (are3 0)) (.ref (ach 0)) (.ref (ata 0)) (.ref (asa 0)) Ma) ++ ((kSA cs asa (ag0 0) (ag1 0) (ag2 0) (ag3 0)) ++ ((kX5 cs ag0 (.ref (an0 0)) G0) ++ ((kJ40 cs an0 N0) ++ ((kX5 cs ag1 (.ref (an1 0)) G1) ++ ((kJ40 cs an1 N1) ++ ((kX5 cs ag2 (.ref (an2 0)) G2_31) ++ ((kJ40 cs an2 N2_32) ++ ((kX5 cs ag3 (.ref (an3 0)) G3) ++ ((kJ40 cs an3 N3)))))))))))) (wr := ((kX7 cs ama (.ref (are 0)) (.ref (are2 0)) (.ref (are3 0)) (.ref (ach 0)) (.ref (ata 0)) (.ref (asa 0)) Ma) ++ ((kSA cs asa (ag0 0) (ag1 0) (ag2 0) (ag3 0)) ++ ((kX5 cs ag0 (.ref (an0 0)) G0) ++ ((kJ40 cs an0 N0) ++ ((kX5 cs ag1 (.ref (an1 0)) G1) ++ ((kJ40 cs an1 N1) ++ ((kX5 cs ag3 (.ref (an3 0)) G3) ++ ((kJ40 cs an3 N3)))))))))) (st1 := []) [.int y2, .int 0] hx hb hml hown hu (tX5_lay l D cs ag2 an2 y2 0 G2 N2 G2_31 N2_32 hg33) q849 q61 q846 q847 q848 pdX5_lay ⟨rfl, rfl, Nat.le_of_ble_eq_true rfl, Nat.le_of_ble_eq_true rfl⟩ hK hZ hP hD hS hA [7, 8] [0, 1, 2, 3, 4, 5, 6, 9, 10] [0, 1, 2, 3, 4, 5, 6, 9, 10, 7, 8] rfl rfl rfl rfl rfl rfl rfl rfl rfl rfl hl.1 rfl (Nat.le_of_ble_eq_true rfl) dX7_sheet_77 rfl (fun H locs hP hD hS => ?_)
            refine lv_aload_n hx hb dX7_sheet_80 rfl (lv_at hl 0 rfl) ?_
            refine va_get (D := D) (ci := 7) (v := .ref (asa 0)) (C := RX7) (T := TX7) (N := 8) hx hb hu inX7 hown hK.1 hP 0 rfl rfl 5 (by decide) (hu _ q305) (fun _ h9 => h9) rfl dX7_sheet_81 ?_
            refine lv_iload_n hx hb dX7_sheet_84 rfl (lv_at hl 1 rfl) ?_
            refine sa_lit (e := ag2 0) hx hb hK hP 2 rfl (k := 2) (by rw [hc26]; decide) rfl dX7_sheet_85 ?_
            refine va_get (D := D) (ci := 5) (v := .int (G2_31 0 1)) (C := RX5) (T := TX5) (N := 3) hx hb hu inX5 hown hK.1 hP 7 rfl rfl 1 (by decide) (hu _ q289) (fun _ h9 => h9) rfl dX7_sheet_86 ?_
            have he := Option.some.inj hf
            obtain ⟨e0, ht0⟩ := Prod.mk.inj he
            obtain ⟨e1, ht1⟩ := Prod.mk.inj ht0
            obtain ⟨e2, ht2⟩ := Prod.mk.inj ht1
            obtain ⟨e3, ht3⟩ := Prod.mk.inj ht2
            obtain ⟨e4, ht4⟩ := Prod.mk.inj ht3
            obtain ⟨e5, ht5⟩ := Prod.mk.inj ht4
            obtain ⟨e6, ht6⟩ := Prod.mk.inj ht5
            obtain ⟨e7, ht7⟩ := Prod.mk.inj ht6
            obtain ⟨e8, e9⟩ := Prod.mk.inj ht7
            exact hri _ _ _ rfl (congrArg (fun z => some (Value.int z)) e0.symm) dX7_sheet_89 _ _ _ (by rw [e1, e2, e3, e4, e5, e6, e7, e8, e9]) hP hD hS
        have hf := in_el hc26 hf
        by_cases hc34 : y1 = 3
        · have hf := ip_el hc34 hf
          refine sa_lit (e := ag3 0) hx hb hK hP 2 rfl (k := 3) (by rw [hc34]; decide) rfl dX7_sheet_66 ?_
          refine lv_iload_n hx hb dX7_sheet_67 rfl (lv_at hl 2 rfl) ?_
          refine lv_iload_n hx hb dX7_sheet_68 rfl (lv_at hl 2 rfl) ?_
          refine lv_if_ne (tgt := 76) hx hb dX7_sheet_69 (by decide) (fun hc35 => ?_) (fun hc35 => ?_)
          · have hf := in_el hc35 hf
            refine lv_iload_n hx hb dX7_sheet_76 rfl (lv_at hl 3 rfl) ?_
            obtain ⟨G3_36, N3_37, hg38, hf⟩ := b2_el hf
            refine cc_V (w' := ((kX7 cs ama (.ref (are 0)) (.ref (are2 0)) (.ref (are3 0)) (.ref (ach 0)) (.ref (ata 0)) (.ref (asa 0)) Ma) ++ ((kSA cs asa (ag0 0) (ag1 0) (ag2 0) (ag3 0)) ++ ((kX5 cs ag0 (.ref (an0 0)) G0) ++ ((kJ40 cs an0 N0) ++ ((kX5 cs ag1 (.ref (an1 0)) G1) ++ ((kJ40 cs an1 N1) ++ ((kX5 cs ag2 (.ref (an2 0)) G2) ++ ((kJ40 cs an2 N2) ++ ((kX5 cs ag3 (.ref (an3 0)) G3_36) ++ ((kJ40 cs an3 N3_37)))))))))))) (wr := ((kX7 cs ama (.ref (are 0)) (.ref (are2 0)) (.ref (are3 0)) (.ref (ach 0)) (.ref (ata 0)) (.ref (asa 0)) Ma) ++ ((kSA cs asa (ag0 0) (ag1 0) (ag2 0) (ag3 0)) ++ ((kX5 cs ag0 (.ref (an0 0)) G0) ++ ((kJ40 cs an0 N0) ++ ((kX5 cs ag1 (.ref (an1 0)) G1) ++ ((kJ40 cs an1 N1) ++ ((kX5 cs ag2 (.ref (an2 0)) G2) ++ ((kJ40 cs an2 N2)))))))))) (st1 := []) [.int y2, .int y3] hx hb hml hown hu (tX5_lay l D cs ag3 an3 y2 y3 G3 N3 G3_36 N3_37 hg38) q849 q61 q846 q847 q848 pdX5_lay ⟨rfl, rfl, Nat.le_of_ble_eq_true rfl, Nat.le_of_ble_eq_true rfl⟩ hK hZ hP hD hS hA [9, 10] [0, 1, 2, 3, 4, 5, 6, 7, 8] [0, 1, 2, 3, 4, 5, 6, 7, 8, 9, 10] rfl rfl rfl rfl rfl rfl rfl rfl rfl rfl hl.1 rfl (Nat.le_of_ble_eq_true rfl) dX7_sheet_77 rfl (fun H locs hP hD hS => ?_)
            refine lv_aload_n hx hb dX7_sheet_80 rfl (lv_at hl 0 rfl) ?_
            refine va_get (D := D) (ci := 7) (v := .ref (asa 0)) (C := RX7) (T := TX7) (N := 8) hx hb hu inX7 hown hK.1 hP 0 rfl rfl 5 (by decide) (hu _ q305) (fun _ h9 => h9) rfl dX7_sheet_81 ?_
            refine lv_iload_n hx hb dX7_sheet_84 rfl (lv_at hl 1 rfl) ?_
            refine sa_lit (e := ag3 0) hx hb hK hP 2 rfl (k := 3) (by rw [hc34]; decide) rfl dX7_sheet_85 ?_
            refine va_get (D := D) (ci := 5) (v := .int (G3_36 0 1)) (C := RX5) (T := TX5) (N := 3) hx hb hu inX5 hown hK.1 hP 9 rfl rfl 1 (by decide) (hu _ q289) (fun _ h9 => h9) rfl dX7_sheet_86 ?_
            have he := Option.some.inj hf
            obtain ⟨e0, ht0⟩ := Prod.mk.inj he
            obtain ⟨e1, ht1⟩ := Prod.mk.inj ht0
            obtain ⟨e2, ht2⟩ := Prod.mk.inj ht1
            obtain ⟨e3, ht3⟩ := Prod.mk.inj ht2
            obtain ⟨e4, ht4⟩ := Prod.mk.inj ht3
            obtain ⟨e5, ht5⟩ := Prod.mk.inj ht4
            obtain ⟨e6, ht6⟩ := Prod.mk.inj ht5
            obtain ⟨e7, ht7⟩ := Prod.mk.inj ht6
            obtain ⟨e8, e9⟩ := Prod.mk.inj ht7
            exact hri _ _ _ rfl (congrArg (fun z => some (Value.int z)) e0.symm) dX7_sheet_89 _ _ _ (by rw [e1, e2, e3, e4, e5, e6, e7, e8, e9]) hP hD hS
          · have hf := ip_el hc35 hf
            refine lv_iconst (v := 0) hx hb dX7_sheet_72 (by decide) ?_
            refine lv_goto (tgt := 77) hx hb dX7_sheet_73 (by decide) ?_
            obtain ⟨G3_39, N3_40, hg41, hf⟩ := b2_el hf
            refine cc_V (w' := ((kX7 cs ama (.ref (are 0)) (.ref (are2 0)) (.ref (are3 0)) (.ref (ach 0)) (.ref (ata 0)) (.ref (asa 0)) Ma) ++ ((kSA cs asa (ag0 0) (ag1 0) (ag2 0) (ag3 0)) ++ ((kX5 cs ag0 (.ref (an0 0)) G0) ++ ((kJ40 cs an0 N0) ++ ((kX5 cs ag1 (.ref (an1 0)) G1) ++ ((kJ40 cs an1 N1) ++ ((kX5 cs ag2 (.ref (an2 0)) G2) ++ ((kJ40 cs an2 N2) ++ ((kX5 cs ag3 (.ref (an3 0)) G3_39) ++ ((kJ40 cs an3 N3_40)))))))))))) (wr := ((kX7 cs ama (.ref (are 0)) (.ref (are2 0)) (.ref (are3 0)) (.ref (ach 0)) (.ref (ata 0)) (.ref (asa 0)) Ma) ++ ((kSA cs asa (ag0 0) (ag1 0) (ag2 0) (ag3 0)) ++ ((kX5 cs ag0 (.ref (an0 0)) G0) ++ ((kJ40 cs an0 N0) ++ ((kX5 cs ag1 (.ref (an1 0)) G1) ++ ((kJ40 cs an1 N1) ++ ((kX5 cs ag2 (.ref (an2 0)) G2) ++ ((kJ40 cs an2 N2)))))))))) (st1 := []) [.int y2, .int 0] hx hb hml hown hu (tX5_lay l D cs ag3 an3 y2 0 G3 N3 G3_39 N3_40 hg41) q849 q61 q846 q847 q848 pdX5_lay ⟨rfl, rfl, Nat.le_of_ble_eq_true rfl, Nat.le_of_ble_eq_true rfl⟩ hK hZ hP hD hS hA [9, 10] [0, 1, 2, 3, 4, 5, 6, 7, 8] [0, 1, 2, 3, 4, 5, 6, 7, 8, 9, 10] rfl rfl rfl rfl rfl rfl rfl rfl rfl rfl hl.1 rfl (Nat.le_of_ble_eq_true rfl) dX7_sheet_77 rfl (fun H locs hP hD hS => ?_)
            refine lv_aload_n hx hb dX7_sheet_80 rfl (lv_at hl 0 rfl) ?_
            refine va_get (D := D) (ci := 7) (v := .ref (asa 0)) (C := RX7) (T := TX7) (N := 8) hx hb hu inX7 hown hK.1 hP 0 rfl rfl 5 (by decide) (hu _ q305) (fun _ h9 => h9) rfl dX7_sheet_81 ?_
            refine lv_iload_n hx hb dX7_sheet_84 rfl (lv_at hl 1 rfl) ?_
            refine sa_lit (e := ag3 0) hx hb hK hP 2 rfl (k := 3) (by rw [hc34]; decide) rfl dX7_sheet_85 ?_
            refine va_get (D := D) (ci := 5) (v := .int (G3_39 0 1)) (C := RX5) (T := TX5) (N := 3) hx hb hu inX5 hown hK.1 hP 9 rfl rfl 1 (by decide) (hu _ q289) (fun _ h9 => h9) rfl dX7_sheet_86 ?_
            have he := Option.some.inj hf
            obtain ⟨e0, ht0⟩ := Prod.mk.inj he
            obtain ⟨e1, ht1⟩ := Prod.mk.inj ht0
            obtain ⟨e2, ht2⟩ := Prod.mk.inj ht1
            obtain ⟨e3, ht3⟩ := Prod.mk.inj ht2
            obtain ⟨e4, ht4⟩ := Prod.mk.inj ht3
            obtain ⟨e5, ht5⟩ := Prod.mk.inj ht4
            obtain ⟨e6, ht6⟩ := Prod.mk.inj ht5
            obtain ⟨e7, ht7⟩ := Prod.mk.inj ht6
            obtain ⟨e8, e9⟩ := Prod.mk.inj ht7
            exact hri _ _ _ rfl (congrArg (fun z => some (Value.int z)) e0.symm) dX7_sheet_89 _ _ _ (by rw [e1, e2, e3, e4, e5, e6, e7, e8, e9]) hP hD hS
        have hf := in_el hc34 hf
        exact no_el hf
      · have hf := in_el hc9 hf
        refine lv_aload_n hx hb dX7_sheet_54 rfl (lv_at hl 0 rfl) ?_
        refine lv_ldc (v := (-1000000001)) hx hb hown (hu _ q335) dX7_sheet_55 ?_
        obtain ⟨r42, Ma_43, hg44, hf⟩ := b2_el hf
        refine cc_V (w' := ((kX7 cs ama (.ref (are 0)) (.ref (are2 0)) (.ref (are3 0)) (.ref (ach 0)) (.ref (ata 0)) (.ref (asa 0)) Ma_43) ++ ((kSA cs asa (ag0 0) (ag1 0) (ag2 0) (ag3 0)) ++ ((kX5 cs ag0 (.ref (an0 0)) G0) ++ ((kJ40 cs an0 N0) ++ ((kX5 cs ag1 (.ref (an1 0)) G1) ++ ((kJ40 cs an1 N1) ++ ((kX5 cs ag2 (.ref (an2 0)) G2) ++ ((kJ40 cs an2 N2) ++ ((kX5 cs ag3 (.ref (an3 0)) G3) ++ ((kJ40 cs an3 N3)))))))))))) (wr := ((kSA cs asa (ag0 0) (ag1 0) (ag2 0) (ag3 0)) ++ ((kX5 cs ag0 (.ref (an0 0)) G0) ++ ((kJ40 cs an0 N0) ++ ((kX5 cs ag1 (.ref (an1 0)) G1) ++ ((kJ40 cs an1 N1) ++ ((kX5 cs ag2 (.ref (an2 0)) G2) ++ ((kJ40 cs an2 N2) ++ ((kX5 cs ag3 (.ref (an3 0)) G3) ++ ((kJ40 cs an3 N3))))))))))) (st1 := [.int r42]) [.int (-1000000001)] hx hb hml hown hu (tX7_finding l D cs ama are are2 are3 ach ata asa (-1000000001) Ma r42 Ma_43 hg44) q339 q54 q336 q338 q0 pdX7_finding ⟨rfl, rfl, Nat.le_of_ble_eq_true rfl, Nat.le_of_ble_eq_true rfl⟩ hK hZ hP hD hS hA [0, 1] [2, 3, 4, 5, 6, 7, 8, 9, 10] [9, 10, 0, 1, 2, 3, 4, 5, 6, 7, 8] rfl rfl rfl rfl rfl rfl rfl rfl rfl rfl hl.1 rfl (Nat.le_of_ble_eq_true rfl) dX7_sheet_57 rfl (fun H locs hP hD hS => ?_)
        have he := Option.some.inj hf
        obtain ⟨e0, ht0⟩ := Prod.mk.inj he
        obtain ⟨e1, ht1⟩ := Prod.mk.inj ht0
        obtain ⟨e2, ht2⟩ := Prod.mk.inj ht1
        obtain ⟨e3, ht3⟩ := Prod.mk.inj ht2
        obtain ⟨e4, ht4⟩ := Prod.mk.inj ht3
        obtain ⟨e5, ht5⟩ := Prod.mk.inj ht4
        obtain ⟨e6, ht6⟩ := Prod.mk.inj ht5
        obtain ⟨e7, ht7⟩ := Prod.mk.inj ht6
        obtain ⟨e8, e9⟩ := Prod.mk.inj ht7
        exact hri _ _ _ rfl (congrArg (fun z => some (Value.int z)) e0.symm) dX7_sheet_60 _ _ _ (by rw [e1, e2, e3, e4, e5, e6, e7, e8, e9]) hP hD hS
    · have hf := in_el hc8 hf
      refine lv_aload_n hx hb dX7_sheet_40 rfl (lv_at hl 0 rfl) ?_
      refine lv_ldcw (v := (-1000000007)) hx hb hown (hu _ q845) dX7_sheet_41 ?_
      obtain ⟨r45, Ma_46, hg47, hf⟩ := b2_el hf
      refine cc_V (w' := ((kX7 cs ama (.ref (are 0)) (.ref (are2 0)) (.ref (are3 0)) (.ref (ach 0)) (.ref (ata 0)) (.ref (asa 0)) Ma_46) ++ ((kSA cs asa (ag0 0) (ag1 0) (ag2 0) (ag3 0)) ++ ((kX5 cs ag0 (.ref (an0 0)) G0) ++ ((kJ40 cs an0 N0) ++ ((kX5 cs ag1 (.ref (an1 0)) G1) ++ ((kJ40 cs an1 N1) ++ ((kX5 cs ag2 (.ref (an2 0)) G2) ++ ((kJ40 cs an2 N2) ++ ((kX5 cs ag3 (.ref (an3 0)) G3) ++ ((kJ40 cs an3 N3)))))))))))) (wr := ((kSA cs asa (ag0 0) (ag1 0) (ag2 0) (ag3 0)) ++ ((kX5 cs ag0 (.ref (an0 0)) G0) ++ ((kJ40 cs an0 N0) ++ ((kX5 cs ag1 (.ref (an1 0)) G1) ++ ((kJ40 cs an1 N1) ++ ((kX5 cs ag2 (.ref (an2 0)) G2) ++ ((kJ40 cs an2 N2) ++ ((kX5 cs ag3 (.ref (an3 0)) G3) ++ ((kJ40 cs an3 N3))))))))))) (st1 := [.int r45]) [.int (-1000000007)] hx hb hml hown hu (tX7_finding l D cs ama are are2 are3 ach ata asa (-1000000007) Ma r45 Ma_46 hg47) q339 q54 q336 q338 q0 pdX7_finding ⟨rfl, rfl, Nat.le_of_ble_eq_true rfl, Nat.le_of_ble_eq_true rfl⟩ hK hZ hP hD hS hA [0, 1] [2, 3, 4, 5, 6, 7, 8, 9, 10] [9, 10, 0, 1, 2, 3, 4, 5, 6, 7, 8] rfl rfl rfl rfl rfl rfl rfl rfl rfl rfl hl.1 rfl (Nat.le_of_ble_eq_true rfl) dX7_sheet_44 rfl (fun H locs hP hD hS => ?_)
      have he := Option.some.inj hf
      obtain ⟨e0, ht0⟩ := Prod.mk.inj he
      obtain ⟨e1, ht1⟩ := Prod.mk.inj ht0
      obtain ⟨e2, ht2⟩ := Prod.mk.inj ht1
      obtain ⟨e3, ht3⟩ := Prod.mk.inj ht2
      obtain ⟨e4, ht4⟩ := Prod.mk.inj ht3
      obtain ⟨e5, ht5⟩ := Prod.mk.inj ht4
      obtain ⟨e6, ht6⟩ := Prod.mk.inj ht5
      obtain ⟨e7, ht7⟩ := Prod.mk.inj ht6
      obtain ⟨e8, e9⟩ := Prod.mk.inj ht7
      exact hri _ _ _ rfl (congrArg (fun z => some (Value.int z)) e0.symm) dX7_sheet_47 _ _ _ (by rw [e1, e2, e3, e4, e5, e6, e7, e8, e9]) hP hD hS
  have hl : lv_has ls0 4 [(0, .ref (ama 0)), (1, .int x1), (2, .int x2), (3, .int x3)] := hl0
  have hP := hP0
  have hD := hD0
  have hS := hS0
  unfold fX7_sheet at hf
  refine lv_iload_n hx hb dX7_sheet_0 rfl (lv_at hl 1 rfl) ?_
  obtain ⟨r1, hg2, hf⟩ := b1_el hf
  refine cc_S0 (st1 := [.int r1]) [.int x1] hx hb hml hown hu (tX7_isSheet l D cs x1 r1 hg2) q844 q54 q842 q843 pdX7_isSheet ⟨rfl, rfl, Nat.le_of_ble_eq_true rfl, Nat.le_of_ble_eq_true rfl⟩ hK hZ hP hD hS hA rfl hl.1 rfl (Nat.le_of_ble_eq_true rfl) dX7_sheet_1 rfl (fun H locs hP hD hS => ?_)
  refine lv_if_eq (tgt := 29) hx hb dX7_sheet_4 (by decide) (fun hc3 => ?_) (fun hc3 => ?_)
  · have hf := ip_el hc3 hf
    exact h29 Ma G0 N0 G1 N1 G2 N2 G3 N3 _ _ _ hP hD hS (lv_sub hl [0] rfl) hf
  · have hf := in_el hc3 hf
    refine lv_iload_n hx hb dX7_sheet_7 rfl (lv_at hl 2 rfl) ?_
    refine lv_if_eq (tgt := 36) hx hb dX7_sheet_8 (by decide) (fun hc7 => ?_) (fun hc7 => ?_)
    · have hf := ip_el hc7 hf
      exact h36 x1 x2 x3 Ma G0 N0 G1 N1 G2 N2 G3 N3 _ _ _ hP hD hS (lv_sub hl [0, 1, 2, 3] rfl) hf
    · have hf := in_el hc7 hf
      refine lv_iload_n hx hb dX7_sheet_11 rfl (lv_at hl 2 rfl) ?_
      refine lv_bipush (v := 8) hx hb dX7_sheet_12 (by decide) ?_
      refine lv_icmp_eq (tgt := 36) hx hb dX7_sheet_14 (by decide) (fun hc48 => ?_) (fun hc48 => ?_)
      · have hf := ip_el hc48 hf
        exact h36 x1 x2 x3 Ma G0 N0 G1 N1 G2 N2 G3 N3 _ _ _ hP hD hS (lv_sub hl [0, 1, 2, 3] rfl) hf
      · have hf := in_el hc48 hf
        refine lv_iload_n hx hb dX7_sheet_17 rfl (lv_at hl 2 rfl) ?_
        refine lv_bipush (v := 16) hx hb dX7_sheet_18 (by decide) ?_
        refine lv_icmp_eq (tgt := 36) hx hb dX7_sheet_20 (by decide) (fun hc49 => ?_) (fun hc49 => ?_)
        · have hf := ip_el hc49 hf
          exact h36 x1 x2 x3 Ma G0 N0 G1 N1 G2 N2 G3 N3 _ _ _ hP hD hS (lv_sub hl [0, 1, 2, 3] rfl) hf
        · have hf := in_el hc49 hf
          refine lv_iload_n hx hb dX7_sheet_23 rfl (lv_at hl 2 rfl) ?_
          refine lv_bipush (v := 64) hx hb dX7_sheet_24 (by decide) ?_
          refine lv_icmp_eq (tgt := 36) hx hb dX7_sheet_26 (by decide) (fun hc50 => ?_) (fun hc50 => ?_)
          · have hf := ip_el hc50 hf
            exact h36 x1 x2 x3 Ma G0 N0 G1 N1 G2 N2 G3 N3 _ _ _ hP hD hS (lv_sub hl [0, 1, 2, 3] rfl) hf
          · have hf := in_el hc50 hf
            exact h29 Ma G0 N0 G1 N1 G2 N2 G3 N3 _ _ _ hP hD hS (lv_sub hl [0] rfl) hf

def fX7_write (x1 : Int32) (x2 : Int32) (x3 : Int64) (Ma : ST) (G0 : ST) (N0 : LT) (G1 : ST) (N1 : LT) (G2 : ST) (N2 : LT) (G3 : ST) (N3 : LT) : Option (Int64 × ST × LT × LT × LT × LT) :=
  dc_b1 (fX7_isSheet x1) (fun r1 => (if r1 = 0 then dc_b2 (fX7_finding (-1000000001) Ma) (fun r80 Ma_81 => some ((r80.toInt64), Ma_81, N0, N1, N2, N3)) else (if x1 = 0 then dc_b1 (fX5_isMissing G0) (fun r5 => (if r5 = 0 then dc_b1 (fX7_within x2 0 ((G0 0 1) - 1)) (fun r8 => (if r8 = 0 then dc_b2 (fX7_finding (-1000000001) Ma) (fun r17 Ma_18 => some ((r17.toInt64), Ma_18, N0, N1, N2, N3)) else dc_ck x2 40 (dc_lt (N0 (Int32.toNatClampNeg x2)) (fun v12 => dc_b1 (fX5_lowest x3 G0) (fun r13 => dc_ck x2 40 (dc_lt (vp_updL N0 (Int32.toNatClampNeg x2) r13) (fun N0_16 => some (v12, Ma, N0_16, N1, N2, N3)))))))) else dc_b2 (fX7_finding (-1000000006) Ma) (fun r20 Ma_21 => some ((r20.toInt64), Ma_21, N0, N1, N2, N3)))) else if x1 = 1 then dc_b1 (fX5_isMissing G1) (fun r24 => (if r24 = 0 then dc_b1 (fX7_within x2 0 ((G1 0 1) - 1)) (fun r27 => (if r27 = 0 then dc_b2 (fX7_finding (-1000000001) Ma) (fun r36 Ma_37 => some ((r36.toInt64), Ma_37, N0, N1, N2, N3)) else dc_ck x2 40 (dc_lt (N1 (Int32.toNatClampNeg x2)) (fun v31 => dc_b1 (fX5_lowest x3 G1) (fun r32 => dc_ck x2 40 (dc_lt (vp_updL N1 (Int32.toNatClampNeg x2) r32) (fun N1_35 => some (v31, Ma, N0, N1_35, N2, N3)))))))) else dc_b2 (fX7_finding (-1000000006) Ma) (fun r39 Ma_40 => some ((r39.toInt64), Ma_40, N0, N1, N2, N3)))) else if x1 = 2 then dc_b1 (fX5_isMissing G2) (fun r43 => (if r43 = 0 then dc_b1 (fX7_within x2 0 ((G2 0 1) - 1)) (fun r46 => (if r46 = 0 then dc_b2 (fX7_finding (-1000000001) Ma) (fun r55 Ma_56 => some ((r55.toInt64), Ma_56, N0, N1, N2, N3)) else dc_ck x2 40 (dc_lt (N2 (Int32.toNatClampNeg x2)) (fun v50 => dc_b1 (fX5_lowest x3 G2) (fun r51 => dc_ck x2 40 (dc_lt (vp_updL N2 (Int32.toNatClampNeg x2) r51) (fun N2_54 => some (v50, Ma, N0, N1, N2_54, N3)))))))) else dc_b2 (fX7_finding (-1000000006) Ma) (fun r58 Ma_59 => some ((r58.toInt64), Ma_59, N0, N1, N2, N3)))) else if x1 = 3 then dc_b1 (fX5_isMissing G3) (fun r62 => (if r62 = 0 then dc_b1 (fX7_within x2 0 ((G3 0 1) - 1)) (fun r65 => (if r65 = 0 then dc_b2 (fX7_finding (-1000000001) Ma) (fun r74 Ma_75 => some ((r74.toInt64), Ma_75, N0, N1, N2, N3)) else dc_ck x2 40 (dc_lt (N3 (Int32.toNatClampNeg x2)) (fun v69 => dc_b1 (fX5_lowest x3 G3) (fun r70 => dc_ck x2 40 (dc_lt (vp_updL N3 (Int32.toNatClampNeg x2) r70) (fun N3_73 => some (v69, Ma, N0, N1, N2, N3_73)))))))) else dc_b2 (fX7_finding (-1000000006) Ma) (fun r77 Ma_78 => some ((r77.toInt64), Ma_78, N0, N1, N2, N3)))) else none)))
abbrev rmX7_write : Room := { frames := 2, cells := 0, slots := 0, locals := 42 }
set_option maxRecDepth 100000 in
set_option maxHeartbeats 4000000 in
theorem tX7_write (l : Launch) (D : va_G) (cs : Nat → ClassId) (ama : Nat → Nat) (are : Nat → Nat) (are2 : Nat → Nat) (are3 : Nat → Nat) (ach : Nat → Nat) (ata : Nat → Nat) (asa : Nat → Nat) (ag0 : Nat → Nat) (ag1 : Nat → Nat) (ag2 : Nat → Nat) (ag3 : Nat → Nat) (an0 : Nat → Nat) (an1 : Nat → Nat) (an2 : Nat → Nat) (an3 : Nat → Nat) (x1 : Int32) (x2 : Int32) (x3 : Int64) (Ma : ST) (G0 : ST) (N0 : LT) (G1 : ST) (N1 : LT) (G2 : ST) (N2 : LT) (G3 : ST) (N3 : LT) (r0 : Int64) (Maz : ST) (N0z : LT) (N1z : LT) (N2z : LT) (N3z : LT) (hf : fX7_write x1 x2 x3 Ma G0 N0 G1 N1 G2 N2 G3 N3 = some (r0, Maz, N0z, N1z, N2z, N3z)) : CG l yX7_write (wsm yX7_write cX7_write 7 (some .long)) rmX7_write D cs [.ref (ama 0), .int x1, .int x2, .long x3] (some (.long r0)) ((kX7 cs ama (.ref (are 0)) (.ref (are2 0)) (.ref (are3 0)) (.ref (ach 0)) (.ref (ata 0)) (.ref (asa 0)) Ma) ++ ((kSA cs asa (ag0 0) (ag1 0) (ag2 0) (ag3 0)) ++ ((kX5 cs ag0 (.ref (an0 0)) G0) ++ ((kJ40 cs an0 N0) ++ ((kX5 cs ag1 (.ref (an1 0)) G1) ++ ((kJ40 cs an1 N1) ++ ((kX5 cs ag2 (.ref (an2 0)) G2) ++ ((kJ40 cs an2 N2) ++ ((kX5 cs ag3 (.ref (an3 0)) G3) ++ ((kJ40 cs an3 N3))))))))))) ((kX7 cs ama (.ref (are 0)) (.ref (are2 0)) (.ref (are3 0)) (.ref (ach 0)) (.ref (ata 0)) (.ref (asa 0)) Maz) ++ ((kSA cs asa (ag0 0) (ag1 0) (ag2 0) (ag3 0)) ++ ((kX5 cs ag0 (.ref (an0 0)) G0) ++ ((kJ40 cs an0 N0z) ++ ((kX5 cs ag1 (.ref (an1 0)) G1) ++ ((kJ40 cs an1 N1z) ++ ((kX5 cs ag2 (.ref (an2 0)) G2) ++ ((kJ40 cs an2 N2z) ++ ((kX5 cs ag3 (.ref (an3 0)) G3) ++ ((kJ40 cs an3 N3z))))))))))) := by
  refine CG.intro (by decide) (Nat.le_of_ble_eq_true rfl) ?_
  intro p e s m below meth c A Q hx hb hml hown hu hK hZ hP0 hD0 hS0 hA hri hrz hrl hrv hra ls0 hl0
  have hl : lv_has ls0 7 [(0, .ref (ama 0)), (1, .int x1), (2, .int x2), (3, .long x3)] := hl0
  have hP := hP0
  have hD := hD0
  have hS := hS0
  unfold fX7_write at hf
  refine lv_iload_n hx hb dX7_write_0 rfl (lv_at hl 1 rfl) ?_
  obtain ⟨r1, hg2, hf⟩ := b1_el hf
  refine cc_S0 (st1 := [.int r1]) [.int x1] hx hb hml hown hu (tX7_isSheet l D cs x1 r1 hg2) q844 q54 q842 q843 pdX7_isSheet ⟨rfl, rfl, Nat.le_of_ble_eq_true rfl, Nat.le_of_ble_eq_true rfl⟩ hK hZ hP hD hS hA rfl hl.1 rfl (Nat.le_of_ble_eq_true rfl) dX7_write_1 rfl (fun H locs hP hD hS => ?_)
  refine lv_if_ne (tgt := 15) hx hb dX7_write_4 (by decide) (fun hc3 => ?_) (fun hc3 => ?_)
  · have hf := in_el hc3 hf
    refine lv_aload_n hx hb dX7_write_15 rfl (lv_at hl 0 rfl) ?_
    refine va_get (D := D) (ci := 7) (v := .ref (asa 0)) (C := RX7) (T := TX7) (N := 8) hx hb hu inX7 hown hK.1 hP 0 rfl rfl 5 (by decide) (hu _ q305) (fun _ h9 => h9) rfl dX7_write_16 ?_
    refine lv_iload_n hx hb dX7_write_19 rfl (lv_at hl 1 rfl) ?_
    by_cases hc4 : x1 = 0
    · have hf := ip_el hc4 hf
      refine sa_lit (e := ag0 0) hx hb hK hP 2 rfl (k := 0) (by rw [hc4]; decide) rfl dX7_write_20 ?_
      obtain ⟨r5, hg6, hf⟩ := b1_el hf
      refine cc_V (w' := ((kX7 cs ama (.ref (are 0)) (.ref (are2 0)) (.ref (are3 0)) (.ref (ach 0)) (.ref (ata 0)) (.ref (asa 0)) Ma) ++ ((kSA cs asa (ag0 0) (ag1 0) (ag2 0) (ag3 0)) ++ ((kX5 cs ag0 (.ref (an0 0)) G0) ++ ((kJ40 cs an0 N0) ++ ((kX5 cs ag1 (.ref (an1 0)) G1) ++ ((kJ40 cs an1 N1) ++ ((kX5 cs ag2 (.ref (an2 0)) G2) ++ ((kJ40 cs an2 N2) ++ ((kX5 cs ag3 (.ref (an3 0)) G3) ++ ((kJ40 cs an3 N3)))))))))))) (wr := ((kX7 cs ama (.ref (are 0)) (.ref (are2 0)) (.ref (are3 0)) (.ref (ach 0)) (.ref (ata 0)) (.ref (asa 0)) Ma) ++ ((kSA cs asa (ag0 0) (ag1 0) (ag2 0) (ag3 0)) ++ ((kJ40 cs an0 N0) ++ ((kX5 cs ag1 (.ref (an1 0)) G1) ++ ((kJ40 cs an1 N1) ++ ((kX5 cs ag2 (.ref (an2 0)) G2) ++ ((kJ40 cs an2 N2) ++ ((kX5 cs ag3 (.ref (an3 0)) G3) ++ ((kJ40 cs an3 N3))))))))))) (st1 := [.int r5]) [] hx hb hml hown hu (tX5_isMissing l D cs ag0 an0 G0 r5 hg6) q860 q61 q857 q858 q859 pdX5_isMissing ⟨rfl, rfl, Nat.le_of_ble_eq_true rfl, Nat.le_of_ble_eq_true rfl⟩ hK hZ hP hD hS hA [3] [0, 1, 2, 4, 5, 6, 7, 8, 9, 10] [0, 1, 2, 10, 3, 4, 5, 6, 7, 8, 9] rfl rfl rfl rfl rfl rfl rfl rfl rfl rfl hl.1 rfl (Nat.le_of_ble_eq_true rfl) dX7_write_21 rfl (fun H locs hP hD hS => ?_)
      refine lv_if_eq (tgt := 36) hx hb dX7_write_24 (by decide) (fun hc7 => ?_) (fun hc7 => ?_)
      · have hf := ip_el hc7 hf
        refine lv_iload_n hx hb dX7_write_36 rfl (lv_at hl 2 rfl) ?_
        refine lv_iconst (v := 0) hx hb dX7_write_37 (by decide) ?_
        refine lv_aload_n hx hb dX7_write_38 rfl (lv_at hl 0 rfl) ?_
        refine va_get (D := D) (ci := 7) (v := .ref (asa 0)) (C := RX7) (T := TX7) (N := 8) hx hb hu inX7 hown hK.1 hP 0 rfl rfl 5 (by decide) (hu _ q305) (fun _ h9 => h9) rfl dX7_write_39 ?_
        refine lv_iload_n hx hb dX7_write_42 rfl (lv_at hl 1 rfl) ?_
        refine sa_lit (e := ag0 0) hx hb hK hP 2 rfl (k := 0) (by rw [hc4]; decide) rfl dX7_write_43 ?_
        refine va_get (D := D) (ci := 5) (v := .int (G0 0 1)) (C := RX5) (T := TX5) (N := 3) hx hb hu inX5 hown hK.1 hP 3 rfl rfl 1 (by decide) (hu _ q289) (fun _ h9 => h9) rfl dX7_write_44 ?_
        refine lv_iconst (v := 1) hx hb dX7_write_47 (by decide) ?_
        refine lv_isub hx hb dX7_write_48 ?_
        obtain ⟨r8, hg9, hf⟩ := b1_el hf
        refine cc_S0 (st1 := [.int r8]) [.int x2, .int 0, .int ((G0 0 1) - 1)] hx hb hml hown hu (tX7_within l D cs x2 0 ((G0 0 1) - 1) r8 hg9) q331 q54 q329 q330 pdX7_within ⟨rfl, rfl, Nat.le_of_ble_eq_true rfl, Nat.le_of_ble_eq_true rfl⟩ hK hZ hP hD hS hA rfl hl.1 rfl (Nat.le_of_ble_eq_true rfl) dX7_write_49 rfl (fun H locs hP hD hS => ?_)
        refine lv_if_ne (tgt := 63) hx hb dX7_write_52 (by decide) (fun hc10 => ?_) (fun hc10 => ?_)
        · have hf := in_el hc10 hf
          refine lv_aload_n hx hb dX7_write_63 rfl (lv_at hl 0 rfl) ?_
          refine va_get (D := D) (ci := 7) (v := .ref (asa 0)) (C := RX7) (T := TX7) (N := 8) hx hb hu inX7 hown hK.1 hP 0 rfl rfl 5 (by decide) (hu _ q305) (fun _ h9 => h9) rfl dX7_write_64 ?_
          refine lv_iload_n hx hb dX7_write_67 rfl (lv_at hl 1 rfl) ?_
          refine sa_lit (e := ag0 0) hx hb hK hP 2 rfl (k := 0) (by rw [hc4]; decide) rfl dX7_write_68 ?_
          refine va_get (D := D) (ci := 5) (v := .ref (an0 0)) (C := RX5) (T := TX5) (N := 3) hx hb hu inX5 hown hK.1 hP 3 rfl rfl 2 (by decide) (hu _ q291) (fun _ h9 => h9) rfl dX7_write_69 ?_
          refine lv_iload_n hx hb dX7_write_72 rfl (lv_at hl 2 rfl) ?_
          obtain ⟨hi11, hf⟩ := ck_el hf
          refine va_lald hx hb hK.1 hP 4 1 rfl rfl hi11 dX7_write_73 ?_
          obtain ⟨v12, hv12, hf⟩ := lt_el hf
          refine lv_topel hv12 ?_
          refine lv_lstore (lv' := [(5, .long v12), (0, .ref (ama 0)), (1, .int x1), (2, .int x2), (3, .long x3)]) hx hb dX7_write_74 hl (by decide) rfl (fun ls hl => ?_)
          refine lv_aload_n hx hb dX7_write_76 rfl (lv_at hl 1 rfl) ?_
          refine va_get (D := D) (ci := 7) (v := .ref (asa 0)) (C := RX7) (T := TX7) (N := 8) hx hb hu inX7 hown hK.1 hP 0 rfl rfl 5 (by decide) (hu _ q305) (fun _ h9 => h9) rfl dX7_write_77 ?_
          refine lv_iload_n hx hb dX7_write_80 rfl (lv_at hl 2 rfl) ?_
          refine sa_lit (e := ag0 0) hx hb hK hP 2 rfl (k := 0) (by rw [hc4]; decide) rfl dX7_write_81 ?_
          refine va_get (D := D) (ci := 5) (v := .ref (an0 0)) (C := RX5) (T := TX5) (N := 3) hx hb hu inX5 hown hK.1 hP 3 rfl rfl 2 (by decide) (hu _ q291) (fun _ h9 => h9) rfl dX7_write_82 ?_
          refine lv_iload_n hx hb dX7_write_85 rfl (lv_at hl 3 rfl) ?_
          refine lv_aload_n hx hb dX7_write_86 rfl (lv_at hl 1 rfl) ?_
          refine va_get (D := D) (ci := 7) (v := .ref (asa 0)) (C := RX7) (T := TX7) (N := 8) hx hb hu inX7 hown hK.1 hP 0 rfl rfl 5 (by decide) (hu _ q305) (fun _ h9 => h9) rfl dX7_write_87 ?_
          refine lv_iload_n hx hb dX7_write_90 rfl (lv_at hl 2 rfl) ?_
          refine sa_lit (e := ag0 0) hx hb hK hP 2 rfl (k := 0) (by rw [hc4]; decide) rfl dX7_write_91 ?_
          refine lv_lload_n hx hb dX7_write_92 rfl (lv_at hl 4 rfl) ?_
          obtain ⟨r13, hg14, hf⟩ := b1_el hf
          refine cc_V (w' := ((kX7 cs ama (.ref (are 0)) (.ref (are2 0)) (.ref (are3 0)) (.ref (ach 0)) (.ref (ata 0)) (.ref (asa 0)) Ma) ++ ((kSA cs asa (ag0 0) (ag1 0) (ag2 0) (ag3 0)) ++ ((kX5 cs ag0 (.ref (an0 0)) G0) ++ ((kJ40 cs an0 N0) ++ ((kX5 cs ag1 (.ref (an1 0)) G1) ++ ((kJ40 cs an1 N1) ++ ((kX5 cs ag2 (.ref (an2 0)) G2) ++ ((kJ40 cs an2 N2) ++ ((kX5 cs ag3 (.ref (an3 0)) G3) ++ ((kJ40 cs an3 N3)))))))))))) (wr := ((kX7 cs ama (.ref (are 0)) (.ref (are2 0)) (.ref (are3 0)) (.ref (ach 0)) (.ref (ata 0)) (.ref (asa 0)) Ma) ++ ((kSA cs asa (ag0 0) (ag1 0) (ag2 0) (ag3 0)) ++ ((kJ40 cs an0 N0) ++ ((kX5 cs ag1 (.ref (an1 0)) G1) ++ ((kJ40 cs an1 N1) ++ ((kX5 cs ag2 (.ref (an2 0)) G2) ++ ((kJ40 cs an2 N2) ++ ((kX5 cs ag3 (.ref (an3 0)) G3) ++ ((kJ40 cs an3 N3))))))))))) (st1 := [.long r13, .int x2, .ref (an0 0)]) [.long x3] hx hb hml hown hu (tX5_lowest l D cs ag0 an0 x3 G0 r13 hg14) q865 q61 q862 q863 q864 pdX5_lowest ⟨rfl, rfl, Nat.le_of_ble_eq_true rfl, Nat.le_of_ble_eq_true rfl⟩ hK hZ hP hD hS hA [3] [0, 1, 2, 4, 5, 6, 7, 8, 9, 10] [0, 1, 2, 10, 3, 4, 5, 6, 7, 8, 9] rfl rfl rfl rfl rfl rfl rfl rfl rfl rfl hl.1 rfl (Nat.le_of_ble_eq_true rfl) dX7_write_93 rfl (fun H locs hP hD hS => ?_)
          obtain ⟨hi15, hf⟩ := ck_el hf
          obtain ⟨N0_16, hN0_16, hf⟩ := lt_el hf
          refine va_last hx hb hK.1 hP hD hS 4 1 rfl rfl hi15 dX7_write_96 (fun H locs hP hD hS => ?_)
          have hP : va_P D vwCl ((kX7 cs ama (.ref (are 0)) (.ref (are2 0)) (.ref (are3 0)) (.ref (ach 0)) (.ref (ata 0)) (.ref (asa 0)) Ma) ++ ((kSA cs asa (ag0 0) (ag1 0) (ag2 0) (ag3 0)) ++ ((kX5 cs ag0 (.ref (an0 0)) G0) ++ ((kJ40 cs an0 N0_16) ++ ((kX5 cs ag1 (.ref (an1 0)) G1) ++ ((kJ40 cs an1 N1) ++ ((kX5 cs ag2 (.ref (an2 0)) G2) ++ ((kJ40 cs an2 N2) ++ ((kX5 cs ag3 (.ref (an3 0)) G3) ++ ((kJ40 cs an3 N3))))))))))) H := by rw [hN0_16]; exact hP
          have hD : va_D A ((kX7 cs ama (.ref (are 0)) (.ref (are2 0)) (.ref (are3 0)) (.ref (ach 0)) (.ref (ata 0)) (.ref (asa 0)) Ma) ++ ((kSA cs asa (ag0 0) (ag1 0) (ag2 0) (ag3 0)) ++ ((kX5 cs ag0 (.ref (an0 0)) G0) ++ ((kJ40 cs an0 N0_16) ++ ((kX5 cs ag1 (.ref (an1 0)) G1) ++ ((kJ40 cs an1 N1) ++ ((kX5 cs ag2 (.ref (an2 0)) G2) ++ ((kJ40 cs an2 N2) ++ ((kX5 cs ag3 (.ref (an3 0)) G3) ++ ((kJ40 cs an3 N3))))))))))) := by rw [hN0_16]; exact hD
          refine lv_lload hx hb dX7_write_97 (lv_at hl 0 rfl) ?_
          have he := Option.some.inj hf
          obtain ⟨e0, ht0⟩ := Prod.mk.inj he
          obtain ⟨e1, ht1⟩ := Prod.mk.inj ht0
          obtain ⟨e2, ht2⟩ := Prod.mk.inj ht1
          obtain ⟨e3, ht3⟩ := Prod.mk.inj ht2
          obtain ⟨e4, e5⟩ := Prod.mk.inj ht3
          exact hrl _ _ _ rfl (congrArg (fun z => some (Value.long z)) e0.symm) dX7_write_99 _ _ _ (by rw [e1, e2, e3, e4, e5]) hP hD hS
        · have hf := ip_el hc10 hf
          refine lv_aload_n hx hb dX7_write_55 rfl (lv_at hl 0 rfl) ?_
          refine lv_ldc (v := (-1000000001)) hx hb hown (hu _ q335) dX7_write_56 ?_
          obtain ⟨r17, Ma_18, hg19, hf⟩ := b2_el hf
          refine cc_V (w' := ((kX7 cs ama (.ref (are 0)) (.ref (are2 0)) (.ref (are3 0)) (.ref (ach 0)) (.ref (ata 0)) (.ref (asa 0)) Ma_18) ++ ((kSA cs asa (ag0 0) (ag1 0) (ag2 0) (ag3 0)) ++ ((kX5 cs ag0 (.ref (an0 0)) G0) ++ ((kJ40 cs an0 N0) ++ ((kX5 cs ag1 (.ref (an1 0)) G1) ++ ((kJ40 cs an1 N1) ++ ((kX5 cs ag2 (.ref (an2 0)) G2) ++ ((kJ40 cs an2 N2) ++ ((kX5 cs ag3 (.ref (an3 0)) G3) ++ ((kJ40 cs an3 N3)))))))))))) (wr := ((kSA cs asa (ag0 0) (ag1 0) (ag2 0) (ag3 0)) ++ ((kX5 cs ag0 (.ref (an0 0)) G0) ++ ((kJ40 cs an0 N0) ++ ((kX5 cs ag1 (.ref (an1 0)) G1) ++ ((kJ40 cs an1 N1) ++ ((kX5 cs ag2 (.ref (an2 0)) G2) ++ ((kJ40 cs an2 N2) ++ ((kX5 cs ag3 (.ref (an3 0)) G3) ++ ((kJ40 cs an3 N3))))))))))) (st1 := [.int r17]) [.int (-1000000001)] hx hb hml hown hu (tX7_finding l D cs ama are are2 are3 ach ata asa (-1000000001) Ma r17 Ma_18 hg19) q339 q54 q336 q338 q0 pdX7_finding ⟨rfl, rfl, Nat.le_of_ble_eq_true rfl, Nat.le_of_ble_eq_true rfl⟩ hK hZ hP hD hS hA [0, 1] [2, 3, 4, 5, 6, 7, 8, 9, 10] [9, 10, 0, 1, 2, 3, 4, 5, 6, 7, 8] rfl rfl rfl rfl rfl rfl rfl rfl rfl rfl hl.1 rfl (Nat.le_of_ble_eq_true rfl) dX7_write_58 rfl (fun H locs hP hD hS => ?_)
          refine lv_i2l (v := (r17.toInt64)) hx hb dX7_write_61 rfl ?_
          have he := Option.some.inj hf
          obtain ⟨e0, ht0⟩ := Prod.mk.inj he
          obtain ⟨e1, ht1⟩ := Prod.mk.inj ht0
          obtain ⟨e2, ht2⟩ := Prod.mk.inj ht1
          obtain ⟨e3, ht3⟩ := Prod.mk.inj ht2
          obtain ⟨e4, e5⟩ := Prod.mk.inj ht3
          exact hrl _ _ _ rfl (congrArg (fun z => some (Value.long z)) e0.symm) dX7_write_62 _ _ _ (by rw [e1, e2, e3, e4, e5]) hP hD hS
      · have hf := in_el hc7 hf
        refine lv_aload_n hx hb dX7_write_27 rfl (lv_at hl 0 rfl) ?_
        refine lv_ldcw (v := (-1000000006)) hx hb hown (hu _ q861) dX7_write_28 ?_
        obtain ⟨r20, Ma_21, hg22, hf⟩ := b2_el hf
        refine cc_V (w' := ((kX7 cs ama (.ref (are 0)) (.ref (are2 0)) (.ref (are3 0)) (.ref (ach 0)) (.ref (ata 0)) (.ref (asa 0)) Ma_21) ++ ((kSA cs asa (ag0 0) (ag1 0) (ag2 0) (ag3 0)) ++ ((kX5 cs ag0 (.ref (an0 0)) G0) ++ ((kJ40 cs an0 N0) ++ ((kX5 cs ag1 (.ref (an1 0)) G1) ++ ((kJ40 cs an1 N1) ++ ((kX5 cs ag2 (.ref (an2 0)) G2) ++ ((kJ40 cs an2 N2) ++ ((kX5 cs ag3 (.ref (an3 0)) G3) ++ ((kJ40 cs an3 N3)))))))))))) (wr := ((kSA cs asa (ag0 0) (ag1 0) (ag2 0) (ag3 0)) ++ ((kX5 cs ag0 (.ref (an0 0)) G0) ++ ((kJ40 cs an0 N0) ++ ((kX5 cs ag1 (.ref (an1 0)) G1) ++ ((kJ40 cs an1 N1) ++ ((kX5 cs ag2 (.ref (an2 0)) G2) ++ ((kJ40 cs an2 N2) ++ ((kX5 cs ag3 (.ref (an3 0)) G3) ++ ((kJ40 cs an3 N3))))))))))) (st1 := [.int r20]) [.int (-1000000006)] hx hb hml hown hu (tX7_finding l D cs ama are are2 are3 ach ata asa (-1000000006) Ma r20 Ma_21 hg22) q339 q54 q336 q338 q0 pdX7_finding ⟨rfl, rfl, Nat.le_of_ble_eq_true rfl, Nat.le_of_ble_eq_true rfl⟩ hK hZ hP hD hS hA [0, 1] [2, 3, 4, 5, 6, 7, 8, 9, 10] [9, 10, 0, 1, 2, 3, 4, 5, 6, 7, 8] rfl rfl rfl rfl rfl rfl rfl rfl rfl rfl hl.1 rfl (Nat.le_of_ble_eq_true rfl) dX7_write_31 rfl (fun H locs hP hD hS => ?_)
        refine lv_i2l (v := (r20.toInt64)) hx hb dX7_write_34 rfl ?_
        have he := Option.some.inj hf
        obtain ⟨e0, ht0⟩ := Prod.mk.inj he
        obtain ⟨e1, ht1⟩ := Prod.mk.inj ht0
        obtain ⟨e2, ht2⟩ := Prod.mk.inj ht1
        obtain ⟨e3, ht3⟩ := Prod.mk.inj ht2
        obtain ⟨e4, e5⟩ := Prod.mk.inj ht3
        exact hrl _ _ _ rfl (congrArg (fun z => some (Value.long z)) e0.symm) dX7_write_35 _ _ _ (by rw [e1, e2, e3, e4, e5]) hP hD hS
    have hf := in_el hc4 hf
    by_cases hc23 : x1 = 1
    · have hf := ip_el hc23 hf
      refine sa_lit (e := ag1 0) hx hb hK hP 2 rfl (k := 1) (by rw [hc23]; decide) rfl dX7_write_20 ?_
      obtain ⟨r24, hg25, hf⟩ := b1_el hf
      refine cc_V (w' := ((kX7 cs ama (.ref (are 0)) (.ref (are2 0)) (.ref (are3 0)) (.ref (ach 0)) (.ref (ata 0)) (.ref (asa 0)) Ma) ++ ((kSA cs asa (ag0 0) (ag1 0) (ag2 0) (ag3 0)) ++ ((kX5 cs ag0 (.ref (an0 0)) G0) ++ ((kJ40 cs an0 N0) ++ ((kX5 cs ag1 (.ref (an1 0)) G1) ++ ((kJ40 cs an1 N1) ++ ((kX5 cs ag2 (.ref (an2 0)) G2) ++ ((kJ40 cs an2 N2) ++ ((kX5 cs ag3 (.ref (an3 0)) G3) ++ ((kJ40 cs an3 N3)))))))))))) (wr := ((kX7 cs ama (.ref (are 0)) (.ref (are2 0)) (.ref (are3 0)) (.ref (ach 0)) (.ref (ata 0)) (.ref (asa 0)) Ma) ++ ((kSA cs asa (ag0 0) (ag1 0) (ag2 0) (ag3 0)) ++ ((kX5 cs ag0 (.ref (an0 0)) G0) ++ ((kJ40 cs an0 N0) ++ ((kJ40 cs an1 N1) ++ ((kX5 cs ag2 (.ref (an2 0)) G2) ++ ((kJ40 cs an2 N2) ++ ((kX5 cs ag3 (.ref (an3 0)) G3) ++ ((kJ40 cs an3 N3))))))))))) (st1 := [.int r24]) [] hx hb hml hown hu (tX5_isMissing l D cs ag1 an1 G1 r24 hg25) q860 q61 q857 q858 q859 pdX5_isMissing ⟨rfl, rfl, Nat.le_of_ble_eq_true rfl, Nat.le_of_ble_eq_true rfl⟩ hK hZ hP hD hS hA [5] [0, 1, 2, 3, 4, 6, 7, 8, 9, 10] [0, 1, 2, 3, 4, 10, 5, 6, 7, 8, 9] rfl rfl rfl rfl rfl rfl rfl rfl rfl rfl hl.1 rfl (Nat.le_of_ble_eq_true rfl) dX7_write_21 rfl (fun H locs hP hD hS => ?_)
      refine lv_if_eq (tgt := 36) hx hb dX7_write_24 (by decide) (fun hc26 => ?_) (fun hc26 => ?_)
      · have hf := ip_el hc26 hf
        refine lv_iload_n hx hb dX7_write_36 rfl (lv_at hl 2 rfl) ?_
        refine lv_iconst (v := 0) hx hb dX7_write_37 (by decide) ?_
        refine lv_aload_n hx hb dX7_write_38 rfl (lv_at hl 0 rfl) ?_
        refine va_get (D := D) (ci := 7) (v := .ref (asa 0)) (C := RX7) (T := TX7) (N := 8) hx hb hu inX7 hown hK.1 hP 0 rfl rfl 5 (by decide) (hu _ q305) (fun _ h9 => h9) rfl dX7_write_39 ?_
        refine lv_iload_n hx hb dX7_write_42 rfl (lv_at hl 1 rfl) ?_
        refine sa_lit (e := ag1 0) hx hb hK hP 2 rfl (k := 1) (by rw [hc23]; decide) rfl dX7_write_43 ?_
        refine va_get (D := D) (ci := 5) (v := .int (G1 0 1)) (C := RX5) (T := TX5) (N := 3) hx hb hu inX5 hown hK.1 hP 5 rfl rfl 1 (by decide) (hu _ q289) (fun _ h9 => h9) rfl dX7_write_44 ?_
        refine lv_iconst (v := 1) hx hb dX7_write_47 (by decide) ?_
        refine lv_isub hx hb dX7_write_48 ?_
        obtain ⟨r27, hg28, hf⟩ := b1_el hf
        refine cc_S0 (st1 := [.int r27]) [.int x2, .int 0, .int ((G1 0 1) - 1)] hx hb hml hown hu (tX7_within l D cs x2 0 ((G1 0 1) - 1) r27 hg28) q331 q54 q329 q330 pdX7_within ⟨rfl, rfl, Nat.le_of_ble_eq_true rfl, Nat.le_of_ble_eq_true rfl⟩ hK hZ hP hD hS hA rfl hl.1 rfl (Nat.le_of_ble_eq_true rfl) dX7_write_49 rfl (fun H locs hP hD hS => ?_)
        refine lv_if_ne (tgt := 63) hx hb dX7_write_52 (by decide) (fun hc29 => ?_) (fun hc29 => ?_)
        · have hf := in_el hc29 hf
          refine lv_aload_n hx hb dX7_write_63 rfl (lv_at hl 0 rfl) ?_
          refine va_get (D := D) (ci := 7) (v := .ref (asa 0)) (C := RX7) (T := TX7) (N := 8) hx hb hu inX7 hown hK.1 hP 0 rfl rfl 5 (by decide) (hu _ q305) (fun _ h9 => h9) rfl dX7_write_64 ?_
          refine lv_iload_n hx hb dX7_write_67 rfl (lv_at hl 1 rfl) ?_
          refine sa_lit (e := ag1 0) hx hb hK hP 2 rfl (k := 1) (by rw [hc23]; decide) rfl dX7_write_68 ?_
          refine va_get (D := D) (ci := 5) (v := .ref (an1 0)) (C := RX5) (T := TX5) (N := 3) hx hb hu inX5 hown hK.1 hP 5 rfl rfl 2 (by decide) (hu _ q291) (fun _ h9 => h9) rfl dX7_write_69 ?_
          refine lv_iload_n hx hb dX7_write_72 rfl (lv_at hl 2 rfl) ?_
          obtain ⟨hi30, hf⟩ := ck_el hf
          refine va_lald hx hb hK.1 hP 6 1 rfl rfl hi30 dX7_write_73 ?_
          obtain ⟨v31, hv31, hf⟩ := lt_el hf
          refine lv_topel hv31 ?_
          refine lv_lstore (lv' := [(5, .long v31), (0, .ref (ama 0)), (1, .int x1), (2, .int x2), (3, .long x3)]) hx hb dX7_write_74 hl (by decide) rfl (fun ls hl => ?_)
          refine lv_aload_n hx hb dX7_write_76 rfl (lv_at hl 1 rfl) ?_
          refine va_get (D := D) (ci := 7) (v := .ref (asa 0)) (C := RX7) (T := TX7) (N := 8) hx hb hu inX7 hown hK.1 hP 0 rfl rfl 5 (by decide) (hu _ q305) (fun _ h9 => h9) rfl dX7_write_77 ?_
          refine lv_iload_n hx hb dX7_write_80 rfl (lv_at hl 2 rfl) ?_
          refine sa_lit (e := ag1 0) hx hb hK hP 2 rfl (k := 1) (by rw [hc23]; decide) rfl dX7_write_81 ?_
          refine va_get (D := D) (ci := 5) (v := .ref (an1 0)) (C := RX5) (T := TX5) (N := 3) hx hb hu inX5 hown hK.1 hP 5 rfl rfl 2 (by decide) (hu _ q291) (fun _ h9 => h9) rfl dX7_write_82 ?_
          refine lv_iload_n hx hb dX7_write_85 rfl (lv_at hl 3 rfl) ?_
          refine lv_aload_n hx hb dX7_write_86 rfl (lv_at hl 1 rfl) ?_
          refine va_get (D := D) (ci := 7) (v := .ref (asa 0)) (C := RX7) (T := TX7) (N := 8) hx hb hu inX7 hown hK.1 hP 0 rfl rfl 5 (by decide) (hu _ q305) (fun _ h9 => h9) rfl dX7_write_87 ?_
          refine lv_iload_n hx hb dX7_write_90 rfl (lv_at hl 2 rfl) ?_
          refine sa_lit (e := ag1 0) hx hb hK hP 2 rfl (k := 1) (by rw [hc23]; decide) rfl dX7_write_91 ?_
          refine lv_lload_n hx hb dX7_write_92 rfl (lv_at hl 4 rfl) ?_
          obtain ⟨r32, hg33, hf⟩ := b1_el hf
          refine cc_V (w' := ((kX7 cs ama (.ref (are 0)) (.ref (are2 0)) (.ref (are3 0)) (.ref (ach 0)) (.ref (ata 0)) (.ref (asa 0)) Ma) ++ ((kSA cs asa (ag0 0) (ag1 0) (ag2 0) (ag3 0)) ++ ((kX5 cs ag0 (.ref (an0 0)) G0) ++ ((kJ40 cs an0 N0) ++ ((kX5 cs ag1 (.ref (an1 0)) G1) ++ ((kJ40 cs an1 N1) ++ ((kX5 cs ag2 (.ref (an2 0)) G2) ++ ((kJ40 cs an2 N2) ++ ((kX5 cs ag3 (.ref (an3 0)) G3) ++ ((kJ40 cs an3 N3)))))))))))) (wr := ((kX7 cs ama (.ref (are 0)) (.ref (are2 0)) (.ref (are3 0)) (.ref (ach 0)) (.ref (ata 0)) (.ref (asa 0)) Ma) ++ ((kSA cs asa (ag0 0) (ag1 0) (ag2 0) (ag3 0)) ++ ((kX5 cs ag0 (.ref (an0 0)) G0) ++ ((kJ40 cs an0 N0) ++ ((kJ40 cs an1 N1) ++ ((kX5 cs ag2 (.ref (an2 0)) G2) ++ ((kJ40 cs an2 N2) ++ ((kX5 cs ag3 (.ref (an3 0)) G3) ++ ((kJ40 cs an3 N3))))))))))) (st1 := [.long r32, .int x2, .ref (an1 0)]) [.long x3] hx hb hml hown hu (tX5_lowest l D cs ag1 an1 x3 G1 r32 hg33) q865 q61 q862 q863 q864 pdX5_lowest ⟨rfl, rfl, Nat.le_of_ble_eq_true rfl, Nat.le_of_ble_eq_true rfl⟩ hK hZ hP hD hS hA [5] [0, 1, 2, 3, 4, 6, 7, 8, 9, 10] [0, 1, 2, 3, 4, 10, 5, 6, 7, 8, 9] rfl rfl rfl rfl rfl rfl rfl rfl rfl rfl hl.1 rfl (Nat.le_of_ble_eq_true rfl) dX7_write_93 rfl (fun H locs hP hD hS => ?_)
          obtain ⟨hi34, hf⟩ := ck_el hf
          obtain ⟨N1_35, hN1_35, hf⟩ := lt_el hf
          refine va_last hx hb hK.1 hP hD hS 6 1 rfl rfl hi34 dX7_write_96 (fun H locs hP hD hS => ?_)
          have hP : va_P D vwCl ((kX7 cs ama (.ref (are 0)) (.ref (are2 0)) (.ref (are3 0)) (.ref (ach 0)) (.ref (ata 0)) (.ref (asa 0)) Ma) ++ ((kSA cs asa (ag0 0) (ag1 0) (ag2 0) (ag3 0)) ++ ((kX5 cs ag0 (.ref (an0 0)) G0) ++ ((kJ40 cs an0 N0) ++ ((kX5 cs ag1 (.ref (an1 0)) G1) ++ ((kJ40 cs an1 N1_35) ++ ((kX5 cs ag2 (.ref (an2 0)) G2) ++ ((kJ40 cs an2 N2) ++ ((kX5 cs ag3 (.ref (an3 0)) G3) ++ ((kJ40 cs an3 N3))))))))))) H := by rw [hN1_35]; exact hP
          have hD : va_D A ((kX7 cs ama (.ref (are 0)) (.ref (are2 0)) (.ref (are3 0)) (.ref (ach 0)) (.ref (ata 0)) (.ref (asa 0)) Ma) ++ ((kSA cs asa (ag0 0) (ag1 0) (ag2 0) (ag3 0)) ++ ((kX5 cs ag0 (.ref (an0 0)) G0) ++ ((kJ40 cs an0 N0) ++ ((kX5 cs ag1 (.ref (an1 0)) G1) ++ ((kJ40 cs an1 N1_35) ++ ((kX5 cs ag2 (.ref (an2 0)) G2) ++ ((kJ40 cs an2 N2) ++ ((kX5 cs ag3 (.ref (an3 0)) G3) ++ ((kJ40 cs an3 N3))))))))))) := by rw [hN1_35]; exact hD
          refine lv_lload hx hb dX7_write_97 (lv_at hl 0 rfl) ?_
          have he := Option.some.inj hf
          obtain ⟨e0, ht0⟩ := Prod.mk.inj he
          obtain ⟨e1, ht1⟩ := Prod.mk.inj ht0
          obtain ⟨e2, ht2⟩ := Prod.mk.inj ht1
          obtain ⟨e3, ht3⟩ := Prod.mk.inj ht2
          obtain ⟨e4, e5⟩ := Prod.mk.inj ht3
          exact hrl _ _ _ rfl (congrArg (fun z => some (Value.long z)) e0.symm) dX7_write_99 _ _ _ (by rw [e1, e2, e3, e4, e5]) hP hD hS
        · have hf := ip_el hc29 hf
          refine lv_aload_n hx hb dX7_write_55 rfl (lv_at hl 0 rfl) ?_
          refine lv_ldc (v := (-1000000001)) hx hb hown (hu _ q335) dX7_write_56 ?_
          obtain ⟨r36, Ma_37, hg38, hf⟩ := b2_el hf
          refine cc_V (w' := ((kX7 cs ama (.ref (are 0)) (.ref (are2 0)) (.ref (are3 0)) (.ref (ach 0)) (.ref (ata 0)) (.ref (asa 0)) Ma_37) ++ ((kSA cs asa (ag0 0) (ag1 0) (ag2 0) (ag3 0)) ++ ((kX5 cs ag0 (.ref (an0 0)) G0) ++ ((kJ40 cs an0 N0) ++ ((kX5 cs ag1 (.ref (an1 0)) G1) ++ ((kJ40 cs an1 N1) ++ ((kX5 cs ag2 (.ref (an2 0)) G2) ++ ((kJ40 cs an2 N2) ++ ((kX5 cs ag3 (.ref (an3 0)) G3) ++ ((kJ40 cs an3 N3)))))))))))) (wr := ((kSA cs asa (ag0 0) (ag1 0) (ag2 0) (ag3 0)) ++ ((kX5 cs ag0 (.ref (an0 0)) G0) ++ ((kJ40 cs an0 N0) ++ ((kX5 cs ag1 (.ref (an1 0)) G1) ++ ((kJ40 cs an1 N1) ++ ((kX5 cs ag2 (.ref (an2 0)) G2) ++ ((kJ40 cs an2 N2) ++ ((kX5 cs ag3 (.ref (an3 0)) G3) ++ ((kJ40 cs an3 N3))))))))))) (st1 := [.int r36]) [.int (-1000000001)] hx hb hml hown hu (tX7_finding l D cs ama are are2 are3 ach ata asa (-1000000001) Ma r36 Ma_37 hg38) q339 q54 q336 q338 q0 pdX7_finding ⟨rfl, rfl, Nat.le_of_ble_eq_true rfl, Nat.le_of_ble_eq_true rfl⟩ hK hZ hP hD hS hA [0, 1] [2, 3, 4, 5, 6, 7, 8, 9, 10] [9, 10, 0, 1, 2, 3, 4, 5, 6, 7, 8] rfl rfl rfl rfl rfl rfl rfl rfl rfl rfl hl.1 rfl (Nat.le_of_ble_eq_true rfl) dX7_write_58 rfl (fun H locs hP hD hS => ?_)
          refine lv_i2l (v := (r36.toInt64)) hx hb dX7_write_61 rfl ?_
          have he := Option.some.inj hf
          obtain ⟨e0, ht0⟩ := Prod.mk.inj he
          obtain ⟨e1, ht1⟩ := Prod.mk.inj ht0
          obtain ⟨e2, ht2⟩ := Prod.mk.inj ht1
          obtain ⟨e3, ht3⟩ := Prod.mk.inj ht2
          obtain ⟨e4, e5⟩ := Prod.mk.inj ht3
          exact hrl _ _ _ rfl (congrArg (fun z => some (Value.long z)) e0.symm) dX7_write_62 _ _ _ (by rw [e1, e2, e3, e4, e5]) hP hD hS
      · have hf := in_el hc26 hf
        refine lv_aload_n hx hb dX7_write_27 rfl (lv_at hl 0 rfl) ?_
        refine lv_ldcw (v := (-1000000006)) hx hb hown (hu _ q861) dX7_write_28 ?_
        obtain ⟨r39, Ma_40, hg41, hf⟩ := b2_el hf
        refine cc_V (w' := ((kX7 cs ama (.ref (are 0)) (.ref (are2 0)) (.ref (are3 0)) (.ref (ach 0)) (.ref (ata 0)) (.ref (asa 0)) Ma_40) ++ ((kSA cs asa (ag0 0) (ag1 0) (ag2 0) (ag3 0)) ++ ((kX5 cs ag0 (.ref (an0 0)) G0) ++ ((kJ40 cs an0 N0) ++ ((kX5 cs ag1 (.ref (an1 0)) G1) ++ ((kJ40 cs an1 N1) ++ ((kX5 cs ag2 (.ref (an2 0)) G2) ++ ((kJ40 cs an2 N2) ++ ((kX5 cs ag3 (.ref (an3 0)) G3) ++ ((kJ40 cs an3 N3)))))))))))) (wr := ((kSA cs asa (ag0 0) (ag1 0) (ag2 0) (ag3 0)) ++ ((kX5 cs ag0 (.ref (an0 0)) G0) ++ ((kJ40 cs an0 N0) ++ ((kX5 cs ag1 (.ref (an1 0)) G1) ++ ((kJ40 cs an1 N1) ++ ((kX5 cs ag2 (.ref (an2 0)) G2) ++ ((kJ40 cs an2 N2) ++ ((kX5 cs ag3 (.ref (an3 0)) G3) ++ ((kJ40 cs an3 N3))))))))))) (st1 := [.int r39]) [.int (-1000000006)] hx hb hml hown hu (tX7_finding l D cs ama are are2 are3 ach ata asa (-1000000006) Ma r39 Ma_40 hg41) q339 q54 q336 q338 q0 pdX7_finding ⟨rfl, rfl, Nat.le_of_ble_eq_true rfl, Nat.le_of_ble_eq_true rfl⟩ hK hZ hP hD hS hA [0, 1] [2, 3, 4, 5, 6, 7, 8, 9, 10] [9, 10, 0, 1, 2, 3, 4, 5, 6, 7, 8] rfl rfl rfl rfl rfl rfl rfl rfl rfl rfl hl.1 rfl (Nat.le_of_ble_eq_true rfl) dX7_write_31 rfl (fun H locs hP hD hS => ?_)
        refine lv_i2l (v := (r39.toInt64)) hx hb dX7_write_34 rfl ?_
        have he := Option.some.inj hf
        obtain ⟨e0, ht0⟩ := Prod.mk.inj he
        obtain ⟨e1, ht1⟩ := Prod.mk.inj ht0
        obtain ⟨e2, ht2⟩ := Prod.mk.inj ht1
        obtain ⟨e3, ht3⟩ := Prod.mk.inj ht2
        obtain ⟨e4, e5⟩ := Prod.mk.inj ht3
        exact hrl _ _ _ rfl (congrArg (fun z => some (Value.long z)) e0.symm) dX7_write_35 _ _ _ (by rw [e1, e2, e3, e4, e5]) hP hD hS
    have hf := in_el hc23 hf
    by_cases hc42 : x1 = 2
    · have hf := ip_el hc42 hf
      refine sa_lit (e := ag2 0) hx hb hK hP 2 rfl (k := 2) (by rw [hc42]; decide) rfl dX7_write_20 ?_
      obtain ⟨r43, hg44, hf⟩ := b1_el hf
      refine cc_V (w' := ((kX7 cs ama (.ref (are 0)) (.ref (are2 0)) (.ref (are3 0)) (.ref (ach 0)) (.ref (ata 0)) (.ref (asa 0)) Ma) ++ ((kSA cs asa (ag0 0) (ag1 0) (ag2 0) (ag3 0)) ++ ((kX5 cs ag0 (.ref (an0 0)) G0) ++ ((kJ40 cs an0 N0) ++ ((kX5 cs ag1 (.ref (an1 0)) G1) ++ ((kJ40 cs an1 N1) ++ ((kX5 cs ag2 (.ref (an2 0)) G2) ++ ((kJ40 cs an2 N2) ++ ((kX5 cs ag3 (.ref (an3 0)) G3) ++ ((kJ40 cs an3 N3)))))))))))) (wr := ((kX7 cs ama (.ref (are 0)) (.ref (are2 0)) (.ref (are3 0)) (.ref (ach 0)) (.ref (ata 0)) (.ref (asa 0)) Ma) ++ ((kSA cs asa (ag0 0) (ag1 0) (ag2 0) (ag3 0)) ++ ((kX5 cs ag0 (.ref (an0 0)) G0) ++ ((kJ40 cs an0 N0) ++ ((kX5 cs ag1 (.ref (an1 0)) G1) ++ ((kJ40 cs an1 N1) ++ ((kJ40 cs an2 N2) ++ ((kX5 cs ag3 (.ref (an3 0)) G3) ++ ((kJ40 cs an3 N3))))))))))) (st1 := [.int r43]) [] hx hb hml hown hu (tX5_isMissing l D cs ag2 an2 G2 r43 hg44) q860 q61 q857 q858 q859 pdX5_isMissing ⟨rfl, rfl, Nat.le_of_ble_eq_true rfl, Nat.le_of_ble_eq_true rfl⟩ hK hZ hP hD hS hA [7] [0, 1, 2, 3, 4, 5, 6, 8, 9, 10] [0, 1, 2, 3, 4, 5, 6, 10, 7, 8, 9] rfl rfl rfl rfl rfl rfl rfl rfl rfl rfl hl.1 rfl (Nat.le_of_ble_eq_true rfl) dX7_write_21 rfl (fun H locs hP hD hS => ?_)
      refine lv_if_eq (tgt := 36) hx hb dX7_write_24 (by decide) (fun hc45 => ?_) (fun hc45 => ?_)
      · have hf := ip_el hc45 hf
        refine lv_iload_n hx hb dX7_write_36 rfl (lv_at hl 2 rfl) ?_
        refine lv_iconst (v := 0) hx hb dX7_write_37 (by decide) ?_
        refine lv_aload_n hx hb dX7_write_38 rfl (lv_at hl 0 rfl) ?_
        refine va_get (D := D) (ci := 7) (v := .ref (asa 0)) (C := RX7) (T := TX7) (N := 8) hx hb hu inX7 hown hK.1 hP 0 rfl rfl 5 (by decide) (hu _ q305) (fun _ h9 => h9) rfl dX7_write_39 ?_
        refine lv_iload_n hx hb dX7_write_42 rfl (lv_at hl 1 rfl) ?_
        refine sa_lit (e := ag2 0) hx hb hK hP 2 rfl (k := 2) (by rw [hc42]; decide) rfl dX7_write_43 ?_
        refine va_get (D := D) (ci := 5) (v := .int (G2 0 1)) (C := RX5) (T := TX5) (N := 3) hx hb hu inX5 hown hK.1 hP 7 rfl rfl 1 (by decide) (hu _ q289) (fun _ h9 => h9) rfl dX7_write_44 ?_
        refine lv_iconst (v := 1) hx hb dX7_write_47 (by decide) ?_
        refine lv_isub hx hb dX7_write_48 ?_
        obtain ⟨r46, hg47, hf⟩ := b1_el hf
        refine cc_S0 (st1 := [.int r46]) [.int x2, .int 0, .int ((G2 0 1) - 1)] hx hb hml hown hu (tX7_within l D cs x2 0 ((G2 0 1) - 1) r46 hg47) q331 q54 q329 q330 pdX7_within ⟨rfl, rfl, Nat.le_of_ble_eq_true rfl, Nat.le_of_ble_eq_true rfl⟩ hK hZ hP hD hS hA rfl hl.1 rfl (Nat.le_of_ble_eq_true rfl) dX7_write_49 rfl (fun H locs hP hD hS => ?_)
        refine lv_if_ne (tgt := 63) hx hb dX7_write_52 (by decide) (fun hc48 => ?_) (fun hc48 => ?_)
        · have hf := in_el hc48 hf
          refine lv_aload_n hx hb dX7_write_63 rfl (lv_at hl 0 rfl) ?_
          refine va_get (D := D) (ci := 7) (v := .ref (asa 0)) (C := RX7) (T := TX7) (N := 8) hx hb hu inX7 hown hK.1 hP 0 rfl rfl 5 (by decide) (hu _ q305) (fun _ h9 => h9) rfl dX7_write_64 ?_
          refine lv_iload_n hx hb dX7_write_67 rfl (lv_at hl 1 rfl) ?_
          refine sa_lit (e := ag2 0) hx hb hK hP 2 rfl (k := 2) (by rw [hc42]; decide) rfl dX7_write_68 ?_
          refine va_get (D := D) (ci := 5) (v := .ref (an2 0)) (C := RX5) (T := TX5) (N := 3) hx hb hu inX5 hown hK.1 hP 7 rfl rfl 2 (by decide) (hu _ q291) (fun _ h9 => h9) rfl dX7_write_69 ?_
          refine lv_iload_n hx hb dX7_write_72 rfl (lv_at hl 2 rfl) ?_
          obtain ⟨hi49, hf⟩ := ck_el hf
          refine va_lald hx hb hK.1 hP 8 1 rfl rfl hi49 dX7_write_73 ?_
          obtain ⟨v50, hv50, hf⟩ := lt_el hf
          refine lv_topel hv50 ?_
          refine lv_lstore (lv' := [(5, .long v50), (0, .ref (ama 0)), (1, .int x1), (2, .int x2), (3, .long x3)]) hx hb dX7_write_74 hl (by decide) rfl (fun ls hl => ?_)
          refine lv_aload_n hx hb dX7_write_76 rfl (lv_at hl 1 rfl) ?_
          refine va_get (D := D) (ci := 7) (v := .ref (asa 0)) (C := RX7) (T := TX7) (N := 8) hx hb hu inX7 hown hK.1 hP 0 rfl rfl 5 (by decide) (hu _ q305) (fun _ h9 => h9) rfl dX7_write_77 ?_
          refine lv_iload_n hx hb dX7_write_80 rfl (lv_at hl 2 rfl) ?_
          refine sa_lit (e := ag2 0) hx hb hK hP 2 rfl (k := 2) (by rw [hc42]; decide) rfl dX7_write_81 ?_
          refine va_get (D := D) (ci := 5) (v := .ref (an2 0)) (C := RX5) (T := TX5) (N := 3) hx hb hu inX5 hown hK.1 hP 7 rfl rfl 2 (by decide) (hu _ q291) (fun _ h9 => h9) rfl dX7_write_82 ?_
          refine lv_iload_n hx hb dX7_write_85 rfl (lv_at hl 3 rfl) ?_
          refine lv_aload_n hx hb dX7_write_86 rfl (lv_at hl 1 rfl) ?_
          refine va_get (D := D) (ci := 7) (v := .ref (asa 0)) (C := RX7) (T := TX7) (N := 8) hx hb hu inX7 hown hK.1 hP 0 rfl rfl 5 (by decide) (hu _ q305) (fun _ h9 => h9) rfl dX7_write_87 ?_
          refine lv_iload_n hx hb dX7_write_90 rfl (lv_at hl 2 rfl) ?_
          refine sa_lit (e := ag2 0) hx hb hK hP 2 rfl (k := 2) (by rw [hc42]; decide) rfl dX7_write_91 ?_
          refine lv_lload_n hx hb dX7_write_92 rfl (lv_at hl 4 rfl) ?_
          obtain ⟨r51, hg52, hf⟩ := b1_el hf
          refine cc_V (w' := ((kX7 cs ama (.ref (are 0)) (.ref (are2 0)) (.ref (are3 0)) (.ref (ach 0)) (.ref (ata 0)) (.ref (asa 0)) Ma) ++ ((kSA cs asa (ag0 0) (ag1 0) (ag2 0) (ag3 0)) ++ ((kX5 cs ag0 (.ref (an0 0)) G0) ++ ((kJ40 cs an0 N0) ++ ((kX5 cs ag1 (.ref (an1 0)) G1) ++ ((kJ40 cs an1 N1) ++ ((kX5 cs ag2 (.ref (an2 0)) G2) ++ ((kJ40 cs an2 N2) ++ ((kX5 cs ag3 (.ref (an3 0)) G3) ++ ((kJ40 cs an3 N3)))))))))))) (wr := ((kX7 cs ama (.ref (are 0)) (.ref (are2 0)) (.ref (are3 0)) (.ref (ach 0)) (.ref (ata 0)) (.ref (asa 0)) Ma) ++ ((kSA cs asa (ag0 0) (ag1 0) (ag2 0) (ag3 0)) ++ ((kX5 cs ag0 (.ref (an0 0)) G0) ++ ((kJ40 cs an0 N0) ++ ((kX5 cs ag1 (.ref (an1 0)) G1) ++ ((kJ40 cs an1 N1) ++ ((kJ40 cs an2 N2) ++ ((kX5 cs ag3 (.ref (an3 0)) G3) ++ ((kJ40 cs an3 N3))))))))))) (st1 := [.long r51, .int x2, .ref (an2 0)]) [.long x3] hx hb hml hown hu (tX5_lowest l D cs ag2 an2 x3 G2 r51 hg52) q865 q61 q862 q863 q864 pdX5_lowest ⟨rfl, rfl, Nat.le_of_ble_eq_true rfl, Nat.le_of_ble_eq_true rfl⟩ hK hZ hP hD hS hA [7] [0, 1, 2, 3, 4, 5, 6, 8, 9, 10] [0, 1, 2, 3, 4, 5, 6, 10, 7, 8, 9] rfl rfl rfl rfl rfl rfl rfl rfl rfl rfl hl.1 rfl (Nat.le_of_ble_eq_true rfl) dX7_write_93 rfl (fun H locs hP hD hS => ?_)
          obtain ⟨hi53, hf⟩ := ck_el hf
          obtain ⟨N2_54, hN2_54, hf⟩ := lt_el hf
          refine va_last hx hb hK.1 hP hD hS 8 1 rfl rfl hi53 dX7_write_96 (fun H locs hP hD hS => ?_)
          have hP : va_P D vwCl ((kX7 cs ama (.ref (are 0)) (.ref (are2 0)) (.ref (are3 0)) (.ref (ach 0)) (.ref (ata 0)) (.ref (asa 0)) Ma) ++ ((kSA cs asa (ag0 0) (ag1 0) (ag2 0) (ag3 0)) ++ ((kX5 cs ag0 (.ref (an0 0)) G0) ++ ((kJ40 cs an0 N0) ++ ((kX5 cs ag1 (.ref (an1 0)) G1) ++ ((kJ40 cs an1 N1) ++ ((kX5 cs ag2 (.ref (an2 0)) G2) ++ ((kJ40 cs an2 N2_54) ++ ((kX5 cs ag3 (.ref (an3 0)) G3) ++ ((kJ40 cs an3 N3))))))))))) H := by rw [hN2_54]; exact hP
          have hD : va_D A ((kX7 cs ama (.ref (are 0)) (.ref (are2 0)) (.ref (are3 0)) (.ref (ach 0)) (.ref (ata 0)) (.ref (asa 0)) Ma) ++ ((kSA cs asa (ag0 0) (ag1 0) (ag2 0) (ag3 0)) ++ ((kX5 cs ag0 (.ref (an0 0)) G0) ++ ((kJ40 cs an0 N0) ++ ((kX5 cs ag1 (.ref (an1 0)) G1) ++ ((kJ40 cs an1 N1) ++ ((kX5 cs ag2 (.ref (an2 0)) G2) ++ ((kJ40 cs an2 N2_54) ++ ((kX5 cs ag3 (.ref (an3 0)) G3) ++ ((kJ40 cs an3 N3))))))))))) := by rw [hN2_54]; exact hD
          refine lv_lload hx hb dX7_write_97 (lv_at hl 0 rfl) ?_
          have he := Option.some.inj hf
          obtain ⟨e0, ht0⟩ := Prod.mk.inj he
          obtain ⟨e1, ht1⟩ := Prod.mk.inj ht0
          obtain ⟨e2, ht2⟩ := Prod.mk.inj ht1
          obtain ⟨e3, ht3⟩ := Prod.mk.inj ht2
          obtain ⟨e4, e5⟩ := Prod.mk.inj ht3
          exact hrl _ _ _ rfl (congrArg (fun z => some (Value.long z)) e0.symm) dX7_write_99 _ _ _ (by rw [e1, e2, e3, e4, e5]) hP hD hS
        · have hf := ip_el hc48 hf
          refine lv_aload_n hx hb dX7_write_55 rfl (lv_at hl 0 rfl) ?_
          refine lv_ldc (v := (-1000000001)) hx hb hown (hu _ q335) dX7_write_56 ?_
          obtain ⟨r55, Ma_56, hg57, hf⟩ := b2_el hf
          refine cc_V (w' := ((kX7 cs ama (.ref (are 0)) (.ref (are2 0)) (.ref (are3 0)) (.ref (ach 0)) (.ref (ata 0)) (.ref (asa 0)) Ma_56) ++ ((kSA cs asa (ag0 0) (ag1 0) (ag2 0) (ag3 0)) ++ ((kX5 cs ag0 (.ref (an0 0)) G0) ++ ((kJ40 cs an0 N0) ++ ((kX5 cs ag1 (.ref (an1 0)) G1) ++ ((kJ40 cs an1 N1) ++ ((kX5 cs ag2 (.ref (an2 0)) G2) ++ ((kJ40 cs an2 N2) ++ ((kX5 cs ag3 (.ref (an3 0)) G3) ++ ((kJ40 cs an3 N3)))))))))))) (wr := ((kSA cs asa (ag0 0) (ag1 0) (ag2 0) (ag3 0)) ++ ((kX5 cs ag0 (.ref (an0 0)) G0) ++ ((kJ40 cs an0 N0) ++ ((kX5 cs ag1 (.ref (an1 0)) G1) ++ ((kJ40 cs an1 N1) ++ ((kX5 cs ag2 (.ref (an2 0)) G2) ++ ((kJ40 cs an2 N2) ++ ((kX5 cs ag3 (.ref (an3 0)) G3) ++ ((kJ40 cs an3 N3))))))))))) (st1 := [.int r55]) [.int (-1000000001)] hx hb hml hown hu (tX7_finding l D cs ama are are2 are3 ach ata asa (-1000000001) Ma r55 Ma_56 hg57) q339 q54 q336 q338 q0 pdX7_finding ⟨rfl, rfl, Nat.le_of_ble_eq_true rfl, Nat.le_of_ble_eq_true rfl⟩ hK hZ hP hD hS hA [0, 1] [2, 3, 4, 5, 6, 7, 8, 9, 10] [9, 10, 0, 1, 2, 3, 4, 5, 6, 7, 8] rfl rfl rfl rfl rfl rfl rfl rfl rfl rfl hl.1 rfl (Nat.le_of_ble_eq_true rfl) dX7_write_58 rfl (fun H locs hP hD hS => ?_)
          refine lv_i2l (v := (r55.toInt64)) hx hb dX7_write_61 rfl ?_
          have he := Option.some.inj hf
          obtain ⟨e0, ht0⟩ := Prod.mk.inj he
          obtain ⟨e1, ht1⟩ := Prod.mk.inj ht0
          obtain ⟨e2, ht2⟩ := Prod.mk.inj ht1
          obtain ⟨e3, ht3⟩ := Prod.mk.inj ht2
          obtain ⟨e4, e5⟩ := Prod.mk.inj ht3
          exact hrl _ _ _ rfl (congrArg (fun z => some (Value.long z)) e0.symm) dX7_write_62 _ _ _ (by rw [e1, e2, e3, e4, e5]) hP hD hS
      · have hf := in_el hc45 hf
        refine lv_aload_n hx hb dX7_write_27 rfl (lv_at hl 0 rfl) ?_
        refine lv_ldcw (v := (-1000000006)) hx hb hown (hu _ q861) dX7_write_28 ?_
        obtain ⟨r58, Ma_59, hg60, hf⟩ := b2_el hf
        refine cc_V (w' := ((kX7 cs ama (.ref (are 0)) (.ref (are2 0)) (.ref (are3 0)) (.ref (ach 0)) (.ref (ata 0)) (.ref (asa 0)) Ma_59) ++ ((kSA cs asa (ag0 0) (ag1 0) (ag2 0) (ag3 0)) ++ ((kX5 cs ag0 (.ref (an0 0)) G0) ++ ((kJ40 cs an0 N0) ++ ((kX5 cs ag1 (.ref (an1 0)) G1) ++ ((kJ40 cs an1 N1) ++ ((kX5 cs ag2 (.ref (an2 0)) G2) ++ ((kJ40 cs an2 N2) ++ ((kX5 cs ag3 (.ref (an3 0)) G3) ++ ((kJ40 cs an3 N3)))))))))))) (wr := ((kSA cs asa (ag0 0) (ag1 0) (ag2 0) (ag3 0)) ++ ((kX5 cs ag0 (.ref (an0 0)) G0) ++ ((kJ40 cs an0 N0) ++ ((kX5 cs ag1 (.ref (an1 0)) G1) ++ ((kJ40 cs an1 N1) ++ ((kX5 cs ag2 (.ref (an2 0)) G2) ++ ((kJ40 cs an2 N2) ++ ((kX5 cs ag3 (.ref (an3 0)) G3) ++ ((kJ40 cs an3 N3))))))))))) (st1 := [.int r58]) [.int (-1000000006)] hx hb hml hown hu (tX7_finding l D cs ama are are2 are3 ach ata asa (-1000000006) Ma r58 Ma_59 hg60) q339 q54 q336 q338 q0 pdX7_finding ⟨rfl, rfl, Nat.le_of_ble_eq_true rfl, Nat.le_of_ble_eq_true rfl⟩ hK hZ hP hD hS hA [0, 1] [2, 3, 4, 5, 6, 7, 8, 9, 10] [9, 10, 0, 1, 2, 3, 4, 5, 6, 7, 8] rfl rfl rfl rfl rfl rfl rfl rfl rfl rfl hl.1 rfl (Nat.le_of_ble_eq_true rfl) dX7_write_31 rfl (fun H locs hP hD hS => ?_)
        refine lv_i2l (v := (r58.toInt64)) hx hb dX7_write_34 rfl ?_
        have he := Option.some.inj hf
        obtain ⟨e0, ht0⟩ := Prod.mk.inj he
        obtain ⟨e1, ht1⟩ := Prod.mk.inj ht0
        obtain ⟨e2, ht2⟩ := Prod.mk.inj ht1
        obtain ⟨e3, ht3⟩ := Prod.mk.inj ht2
        obtain ⟨e4, e5⟩ := Prod.mk.inj ht3
        exact hrl _ _ _ rfl (congrArg (fun z => some (Value.long z)) e0.symm) dX7_write_35 _ _ _ (by rw [e1, e2, e3, e4, e5]) hP hD hS
    have hf := in_el hc42 hf
    by_cases hc61 : x1 = 3
    · have hf := ip_el hc61 hf
      refine sa_lit (e := ag3 0) hx hb hK hP 2 rfl (k := 3) (by rw [hc61]; decide) rfl dX7_write_20 ?_
      obtain ⟨r62, hg63, hf⟩ := b1_el hf
      refine cc_V (w' := ((kX7 cs ama (.ref (are 0)) (.ref (are2 0)) (.ref (are3 0)) (.ref (ach 0)) (.ref (ata 0)) (.ref (asa 0)) Ma) ++ ((kSA cs asa (ag0 0) (ag1 0) (ag2 0) (ag3 0)) ++ ((kX5 cs ag0 (.ref (an0 0)) G0) ++ ((kJ40 cs an0 N0) ++ ((kX5 cs ag1 (.ref (an1 0)) G1) ++ ((kJ40 cs an1 N1) ++ ((kX5 cs ag2 (.ref (an2 0)) G2) ++ ((kJ40 cs an2 N2) ++ ((kX5 cs ag3 (.ref (an3 0)) G3) ++ ((kJ40 cs an3 N3)))))))))))) (wr := ((kX7 cs ama (.ref (are 0)) (.ref (are2 0)) (.ref (are3 0)) (.ref (ach 0)) (.ref (ata 0)) (.ref (asa 0)) Ma) ++ ((kSA cs asa (ag0 0) (ag1 0) (ag2 0) (ag3 0)) ++ ((kX5 cs ag0 (.ref (an0 0)) G0) ++ ((kJ40 cs an0 N0) ++ ((kX5 cs ag1 (.ref (an1 0)) G1) ++ ((kJ40 cs an1 N1) ++ ((kX5 cs ag2 (.ref (an2 0)) G2) ++ ((kJ40 cs an2 N2) ++ ((kJ40 cs an3 N3))))))))))) (st1 := [.int r62]) [] hx hb hml hown hu (tX5_isMissing l D cs ag3 an3 G3 r62 hg63) q860 q61 q857 q858 q859 pdX5_isMissing ⟨rfl, rfl, Nat.le_of_ble_eq_true rfl, Nat.le_of_ble_eq_true rfl⟩ hK hZ hP hD hS hA [9] [0, 1, 2, 3, 4, 5, 6, 7, 8, 10] [0, 1, 2, 3, 4, 5, 6, 7, 8, 10, 9] rfl rfl rfl rfl rfl rfl rfl rfl rfl rfl hl.1 rfl (Nat.le_of_ble_eq_true rfl) dX7_write_21 rfl (fun H locs hP hD hS => ?_)
      refine lv_if_eq (tgt := 36) hx hb dX7_write_24 (by decide) (fun hc64 => ?_) (fun hc64 => ?_)
      · have hf := ip_el hc64 hf
        refine lv_iload_n hx hb dX7_write_36 rfl (lv_at hl 2 rfl) ?_
        refine lv_iconst (v := 0) hx hb dX7_write_37 (by decide) ?_
        refine lv_aload_n hx hb dX7_write_38 rfl (lv_at hl 0 rfl) ?_
        refine va_get (D := D) (ci := 7) (v := .ref (asa 0)) (C := RX7) (T := TX7) (N := 8) hx hb hu inX7 hown hK.1 hP 0 rfl rfl 5 (by decide) (hu _ q305) (fun _ h9 => h9) rfl dX7_write_39 ?_
        refine lv_iload_n hx hb dX7_write_42 rfl (lv_at hl 1 rfl) ?_
        refine sa_lit (e := ag3 0) hx hb hK hP 2 rfl (k := 3) (by rw [hc61]; decide) rfl dX7_write_43 ?_
        refine va_get (D := D) (ci := 5) (v := .int (G3 0 1)) (C := RX5) (T := TX5) (N := 3) hx hb hu inX5 hown hK.1 hP 9 rfl rfl 1 (by decide) (hu _ q289) (fun _ h9 => h9) rfl dX7_write_44 ?_
        refine lv_iconst (v := 1) hx hb dX7_write_47 (by decide) ?_
        refine lv_isub hx hb dX7_write_48 ?_
        obtain ⟨r65, hg66, hf⟩ := b1_el hf
        refine cc_S0 (st1 := [.int r65]) [.int x2, .int 0, .int ((G3 0 1) - 1)] hx hb hml hown hu (tX7_within l D cs x2 0 ((G3 0 1) - 1) r65 hg66) q331 q54 q329 q330 pdX7_within ⟨rfl, rfl, Nat.le_of_ble_eq_true rfl, Nat.le_of_ble_eq_true rfl⟩ hK hZ hP hD hS hA rfl hl.1 rfl (Nat.le_of_ble_eq_true rfl) dX7_write_49 rfl (fun H locs hP hD hS => ?_)
        refine lv_if_ne (tgt := 63) hx hb dX7_write_52 (by decide) (fun hc67 => ?_) (fun hc67 => ?_)
        · have hf := in_el hc67 hf
          refine lv_aload_n hx hb dX7_write_63 rfl (lv_at hl 0 rfl) ?_
          refine va_get (D := D) (ci := 7) (v := .ref (asa 0)) (C := RX7) (T := TX7) (N := 8) hx hb hu inX7 hown hK.1 hP 0 rfl rfl 5 (by decide) (hu _ q305) (fun _ h9 => h9) rfl dX7_write_64 ?_
          refine lv_iload_n hx hb dX7_write_67 rfl (lv_at hl 1 rfl) ?_
          refine sa_lit (e := ag3 0) hx hb hK hP 2 rfl (k := 3) (by rw [hc61]; decide) rfl dX7_write_68 ?_
          refine va_get (D := D) (ci := 5) (v := .ref (an3 0)) (C := RX5) (T := TX5) (N := 3) hx hb hu inX5 hown hK.1 hP 9 rfl rfl 2 (by decide) (hu _ q291) (fun _ h9 => h9) rfl dX7_write_69 ?_
          refine lv_iload_n hx hb dX7_write_72 rfl (lv_at hl 2 rfl) ?_
          obtain ⟨hi68, hf⟩ := ck_el hf
          refine va_lald hx hb hK.1 hP 10 1 rfl rfl hi68 dX7_write_73 ?_
          obtain ⟨v69, hv69, hf⟩ := lt_el hf
          refine lv_topel hv69 ?_
          refine lv_lstore (lv' := [(5, .long v69), (0, .ref (ama 0)), (1, .int x1), (2, .int x2), (3, .long x3)]) hx hb dX7_write_74 hl (by decide) rfl (fun ls hl => ?_)
          refine lv_aload_n hx hb dX7_write_76 rfl (lv_at hl 1 rfl) ?_
          refine va_get (D := D) (ci := 7) (v := .ref (asa 0)) (C := RX7) (T := TX7) (N := 8) hx hb hu inX7 hown hK.1 hP 0 rfl rfl 5 (by decide) (hu _ q305) (fun _ h9 => h9) rfl dX7_write_77 ?_
          refine lv_iload_n hx hb dX7_write_80 rfl (lv_at hl 2 rfl) ?_
          refine sa_lit (e := ag3 0) hx hb hK hP 2 rfl (k := 3) (by rw [hc61]; decide) rfl dX7_write_81 ?_
          refine va_get (D := D) (ci := 5) (v := .ref (an3 0)) (C := RX5) (T := TX5) (N := 3) hx hb hu inX5 hown hK.1 hP 9 rfl rfl 2 (by decide) (hu _ q291) (fun _ h9 => h9) rfl dX7_write_82 ?_
          refine lv_iload_n hx hb dX7_write_85 rfl (lv_at hl 3 rfl) ?_
          refine lv_aload_n hx hb dX7_write_86 rfl (lv_at hl 1 rfl) ?_
          refine va_get (D := D) (ci := 7) (v := .ref (asa 0)) (C := RX7) (T := TX7) (N := 8) hx hb hu inX7 hown hK.1 hP 0 rfl rfl 5 (by decide) (hu _ q305) (fun _ h9 => h9) rfl dX7_write_87 ?_
          refine lv_iload_n hx hb dX7_write_90 rfl (lv_at hl 2 rfl) ?_
          refine sa_lit (e := ag3 0) hx hb hK hP 2 rfl (k := 3) (by rw [hc61]; decide) rfl dX7_write_91 ?_
          refine lv_lload_n hx hb dX7_write_92 rfl (lv_at hl 4 rfl) ?_
          obtain ⟨r70, hg71, hf⟩ := b1_el hf
          refine cc_V (w' := ((kX7 cs ama (.ref (are 0)) (.ref (are2 0)) (.ref (are3 0)) (.ref (ach 0)) (.ref (ata 0)) (.ref (asa 0)) Ma) ++ ((kSA cs asa (ag0 0) (ag1 0) (ag2 0) (ag3 0)) ++ ((kX5 cs ag0 (.ref (an0 0)) G0) ++ ((kJ40 cs an0 N0) ++ ((kX5 cs ag1 (.ref (an1 0)) G1) ++ ((kJ40 cs an1 N1) ++ ((kX5 cs ag2 (.ref (an2 0)) G2) ++ ((kJ40 cs an2 N2) ++ ((kX5 cs ag3 (.ref (an3 0)) G3) ++ ((kJ40 cs an3 N3)))))))))))) (wr := ((kX7 cs ama (.ref (are 0)) (.ref (are2 0)) (.ref (are3 0)) (.ref (ach 0)) (.ref (ata 0)) (.ref (asa 0)) Ma) ++ ((kSA cs asa (ag0 0) (ag1 0) (ag2 0) (ag3 0)) ++ ((kX5 cs ag0 (.ref (an0 0)) G0) ++ ((kJ40 cs an0 N0) ++ ((kX5 cs ag1 (.ref (an1 0)) G1) ++ ((kJ40 cs an1 N1) ++ ((kX5 cs ag2 (.ref (an2 0)) G2) ++ ((kJ40 cs an2 N2) ++ ((kJ40 cs an3 N3))))))))))) (st1 := [.long r70, .int x2, .ref (an3 0)]) [.long x3] hx hb hml hown hu (tX5_lowest l D cs ag3 an3 x3 G3 r70 hg71) q865 q61 q862 q863 q864 pdX5_lowest ⟨rfl, rfl, Nat.le_of_ble_eq_true rfl, Nat.le_of_ble_eq_true rfl⟩ hK hZ hP hD hS hA [9] [0, 1, 2, 3, 4, 5, 6, 7, 8, 10] [0, 1, 2, 3, 4, 5, 6, 7, 8, 10, 9] rfl rfl rfl rfl rfl rfl rfl rfl rfl rfl hl.1 rfl (Nat.le_of_ble_eq_true rfl) dX7_write_93 rfl (fun H locs hP hD hS => ?_)
          obtain ⟨hi72, hf⟩ := ck_el hf
          obtain ⟨N3_73, hN3_73, hf⟩ := lt_el hf
          refine va_last hx hb hK.1 hP hD hS 10 1 rfl rfl hi72 dX7_write_96 (fun H locs hP hD hS => ?_)
          have hP : va_P D vwCl ((kX7 cs ama (.ref (are 0)) (.ref (are2 0)) (.ref (are3 0)) (.ref (ach 0)) (.ref (ata 0)) (.ref (asa 0)) Ma) ++ ((kSA cs asa (ag0 0) (ag1 0) (ag2 0) (ag3 0)) ++ ((kX5 cs ag0 (.ref (an0 0)) G0) ++ ((kJ40 cs an0 N0) ++ ((kX5 cs ag1 (.ref (an1 0)) G1) ++ ((kJ40 cs an1 N1) ++ ((kX5 cs ag2 (.ref (an2 0)) G2) ++ ((kJ40 cs an2 N2) ++ ((kX5 cs ag3 (.ref (an3 0)) G3) ++ ((kJ40 cs an3 N3_73))))))))))) H := by rw [hN3_73]; exact hP
          have hD : va_D A ((kX7 cs ama (.ref (are 0)) (.ref (are2 0)) (.ref (are3 0)) (.ref (ach 0)) (.ref (ata 0)) (.ref (asa 0)) Ma) ++ ((kSA cs asa (ag0 0) (ag1 0) (ag2 0) (ag3 0)) ++ ((kX5 cs ag0 (.ref (an0 0)) G0) ++ ((kJ40 cs an0 N0) ++ ((kX5 cs ag1 (.ref (an1 0)) G1) ++ ((kJ40 cs an1 N1) ++ ((kX5 cs ag2 (.ref (an2 0)) G2) ++ ((kJ40 cs an2 N2) ++ ((kX5 cs ag3 (.ref (an3 0)) G3) ++ ((kJ40 cs an3 N3_73))))))))))) := by rw [hN3_73]; exact hD
          refine lv_lload hx hb dX7_write_97 (lv_at hl 0 rfl) ?_
          have he := Option.some.inj hf
          obtain ⟨e0, ht0⟩ := Prod.mk.inj he
          obtain ⟨e1, ht1⟩ := Prod.mk.inj ht0
          obtain ⟨e2, ht2⟩ := Prod.mk.inj ht1
          obtain ⟨e3, ht3⟩ := Prod.mk.inj ht2
          obtain ⟨e4, e5⟩ := Prod.mk.inj ht3
          exact hrl _ _ _ rfl (congrArg (fun z => some (Value.long z)) e0.symm) dX7_write_99 _ _ _ (by rw [e1, e2, e3, e4, e5]) hP hD hS
        · have hf := ip_el hc67 hf
          refine lv_aload_n hx hb dX7_write_55 rfl (lv_at hl 0 rfl) ?_
          refine lv_ldc (v := (-1000000001)) hx hb hown (hu _ q335) dX7_write_56 ?_
          obtain ⟨r74, Ma_75, hg76, hf⟩ := b2_el hf
          refine cc_V (w' := ((kX7 cs ama (.ref (are 0)) (.ref (are2 0)) (.ref (are3 0)) (.ref (ach 0)) (.ref (ata 0)) (.ref (asa 0)) Ma_75) ++ ((kSA cs asa (ag0 0) (ag1 0) (ag2 0) (ag3 0)) ++ ((kX5 cs ag0 (.ref (an0 0)) G0) ++ ((kJ40 cs an0 N0) ++ ((kX5 cs ag1 (.ref (an1 0)) G1) ++ ((kJ40 cs an1 N1) ++ ((kX5 cs ag2 (.ref (an2 0)) G2) ++ ((kJ40 cs an2 N2) ++ ((kX5 cs ag3 (.ref (an3 0)) G3) ++ ((kJ40 cs an3 N3)))))))))))) (wr := ((kSA cs asa (ag0 0) (ag1 0) (ag2 0) (ag3 0)) ++ ((kX5 cs ag0 (.ref (an0 0)) G0) ++ ((kJ40 cs an0 N0) ++ ((kX5 cs ag1 (.ref (an1 0)) G1) ++ ((kJ40 cs an1 N1) ++ ((kX5 cs ag2 (.ref (an2 0)) G2) ++ ((kJ40 cs an2 N2) ++ ((kX5 cs ag3 (.ref (an3 0)) G3) ++ ((kJ40 cs an3 N3))))))))))) (st1 := [.int r74]) [.int (-1000000001)] hx hb hml hown hu (tX7_finding l D cs ama are are2 are3 ach ata asa (-1000000001) Ma r74 Ma_75 hg76) q339 q54 q336 q338 q0 pdX7_finding ⟨rfl, rfl, Nat.le_of_ble_eq_true rfl, Nat.le_of_ble_eq_true rfl⟩ hK hZ hP hD hS hA [0, 1] [2, 3, 4, 5, 6, 7, 8, 9, 10] [9, 10, 0, 1, 2, 3, 4, 5, 6, 7, 8] rfl rfl rfl rfl rfl rfl rfl rfl rfl rfl hl.1 rfl (Nat.le_of_ble_eq_true rfl) dX7_write_58 rfl (fun H locs hP hD hS => ?_)
          refine lv_i2l (v := (r74.toInt64)) hx hb dX7_write_61 rfl ?_
          have he := Option.some.inj hf
          obtain ⟨e0, ht0⟩ := Prod.mk.inj he
          obtain ⟨e1, ht1⟩ := Prod.mk.inj ht0
          obtain ⟨e2, ht2⟩ := Prod.mk.inj ht1
          obtain ⟨e3, ht3⟩ := Prod.mk.inj ht2
          obtain ⟨e4, e5⟩ := Prod.mk.inj ht3
          exact hrl _ _ _ rfl (congrArg (fun z => some (Value.long z)) e0.symm) dX7_write_62 _ _ _ (by rw [e1, e2, e3, e4, e5]) hP hD hS
      · have hf := in_el hc64 hf
        refine lv_aload_n hx hb dX7_write_27 rfl (lv_at hl 0 rfl) ?_
        refine lv_ldcw (v := (-1000000006)) hx hb hown (hu _ q861) dX7_write_28 ?_
        obtain ⟨r77, Ma_78, hg79, hf⟩ := b2_el hf
        refine cc_V (w' := ((kX7 cs ama (.ref (are 0)) (.ref (are2 0)) (.ref (are3 0)) (.ref (ach 0)) (.ref (ata 0)) (.ref (asa 0)) Ma_78) ++ ((kSA cs asa (ag0 0) (ag1 0) (ag2 0) (ag3 0)) ++ ((kX5 cs ag0 (.ref (an0 0)) G0) ++ ((kJ40 cs an0 N0) ++ ((kX5 cs ag1 (.ref (an1 0)) G1) ++ ((kJ40 cs an1 N1) ++ ((kX5 cs ag2 (.ref (an2 0)) G2) ++ ((kJ40 cs an2 N2) ++ ((kX5 cs ag3 (.ref (an3 0)) G3) ++ ((kJ40 cs an3 N3)))))))))))) (wr := ((kSA cs asa (ag0 0) (ag1 0) (ag2 0) (ag3 0)) ++ ((kX5 cs ag0 (.ref (an0 0)) G0) ++ ((kJ40 cs an0 N0) ++ ((kX5 cs ag1 (.ref (an1 0)) G1) ++ ((kJ40 cs an1 N1) ++ ((kX5 cs ag2 (.ref (an2 0)) G2) ++ ((kJ40 cs an2 N2) ++ ((kX5 cs ag3 (.ref (an3 0)) G3) ++ ((kJ40 cs an3 N3))))))))))) (st1 := [.int r77]) [.int (-1000000006)] hx hb hml hown hu (tX7_finding l D cs ama are are2 are3 ach ata asa (-1000000006) Ma r77 Ma_78 hg79) q339 q54 q336 q338 q0 pdX7_finding ⟨rfl, rfl, Nat.le_of_ble_eq_true rfl, Nat.le_of_ble_eq_true rfl⟩ hK hZ hP hD hS hA [0, 1] [2, 3, 4, 5, 6, 7, 8, 9, 10] [9, 10, 0, 1, 2, 3, 4, 5, 6, 7, 8] rfl rfl rfl rfl rfl rfl rfl rfl rfl rfl hl.1 rfl (Nat.le_of_ble_eq_true rfl) dX7_write_31 rfl (fun H locs hP hD hS => ?_)
        refine lv_i2l (v := (r77.toInt64)) hx hb dX7_write_34 rfl ?_
        have he := Option.some.inj hf
        obtain ⟨e0, ht0⟩ := Prod.mk.inj he
        obtain ⟨e1, ht1⟩ := Prod.mk.inj ht0
        obtain ⟨e2, ht2⟩ := Prod.mk.inj ht1
        obtain ⟨e3, ht3⟩ := Prod.mk.inj ht2
        obtain ⟨e4, e5⟩ := Prod.mk.inj ht3
        exact hrl _ _ _ rfl (congrArg (fun z => some (Value.long z)) e0.symm) dX7_write_35 _ _ _ (by rw [e1, e2, e3, e4, e5]) hP hD hS
    have hf := in_el hc61 hf
    exact no_el hf
  · have hf := ip_el hc3 hf
    refine lv_aload_n hx hb dX7_write_7 rfl (lv_at hl 0 rfl) ?_
    refine lv_ldc (v := (-1000000001)) hx hb hown (hu _ q335) dX7_write_8 ?_
    obtain ⟨r80, Ma_81, hg82, hf⟩ := b2_el hf
    refine cc_V (w' := ((kX7 cs ama (.ref (are 0)) (.ref (are2 0)) (.ref (are3 0)) (.ref (ach 0)) (.ref (ata 0)) (.ref (asa 0)) Ma_81) ++ ((kSA cs asa (ag0 0) (ag1 0) (ag2 0) (ag3 0)) ++ ((kX5 cs ag0 (.ref (an0 0)) G0) ++ ((kJ40 cs an0 N0) ++ ((kX5 cs ag1 (.ref (an1 0)) G1) ++ ((kJ40 cs an1 N1) ++ ((kX5 cs ag2 (.ref (an2 0)) G2) ++ ((kJ40 cs an2 N2) ++ ((kX5 cs ag3 (.ref (an3 0)) G3) ++ ((kJ40 cs an3 N3)))))))))))) (wr := ((kSA cs asa (ag0 0) (ag1 0) (ag2 0) (ag3 0)) ++ ((kX5 cs ag0 (.ref (an0 0)) G0) ++ ((kJ40 cs an0 N0) ++ ((kX5 cs ag1 (.ref (an1 0)) G1) ++ ((kJ40 cs an1 N1) ++ ((kX5 cs ag2 (.ref (an2 0)) G2) ++ ((kJ40 cs an2 N2) ++ ((kX5 cs ag3 (.ref (an3 0)) G3) ++ ((kJ40 cs an3 N3))))))))))) (st1 := [.int r80]) [.int (-1000000001)] hx hb hml hown hu (tX7_finding l D cs ama are are2 are3 ach ata asa (-1000000001) Ma r80 Ma_81 hg82) q339 q54 q336 q338 q0 pdX7_finding ⟨rfl, rfl, Nat.le_of_ble_eq_true rfl, Nat.le_of_ble_eq_true rfl⟩ hK hZ hP hD hS hA [0, 1] [2, 3, 4, 5, 6, 7, 8, 9, 10] [9, 10, 0, 1, 2, 3, 4, 5, 6, 7, 8] rfl rfl rfl rfl rfl rfl rfl rfl rfl rfl hl.1 rfl (Nat.le_of_ble_eq_true rfl) dX7_write_10 rfl (fun H locs hP hD hS => ?_)
    refine lv_i2l (v := (r80.toInt64)) hx hb dX7_write_13 rfl ?_
    have he := Option.some.inj hf
    obtain ⟨e0, ht0⟩ := Prod.mk.inj he
    obtain ⟨e1, ht1⟩ := Prod.mk.inj ht0
    obtain ⟨e2, ht2⟩ := Prod.mk.inj ht1
    obtain ⟨e3, ht3⟩ := Prod.mk.inj ht2
    obtain ⟨e4, e5⟩ := Prod.mk.inj ht3
    exact hrl _ _ _ rfl (congrArg (fun z => some (Value.long z)) e0.symm) dX7_write_14 _ _ _ (by rw [e1, e2, e3, e4, e5]) hP hD hS

def fX7_lays_78_s (G0 : ST) (N0 : LT) (G1 : ST) (N1 : LT) (G2 : ST) (N2 : LT) (G3 : ST) (N3 : LT) (k78 : Int32 → Int32 → Int32 → Int32 → Int32 → ST → ST → Option (Int32 × ST × ST)) (y1 : Int32) (y2 : Int32) (y3 : Int32) (y4 : Int32) (y5 : Int32) (Ma : ST) (Fo : ST) : Option (Int32 × ST × ST) :=
  (if y4 ≤ y5 then some (y3, Ma, Fo) else (if y1 = 0 then dc_ck y5 40 (dc_lt (N0 (Int32.toNatClampNeg y5)) (fun v15 => (if y5 = y2 then dc_lt (y5 + 1) (fun v17 => k78 y1 y2 y3 y4 v17 Ma Fo) else (if (lg_cmp v15 (-9)) < 0 then dc_lt (y5 + 1) (fun v19 => k78 y1 y2 y3 y4 v19 Ma Fo) else (if 0 < (lg_cmp v15 9) then dc_lt (y5 + 1) (fun v21 => k78 y1 y2 y3 y4 v21 Ma Fo) else dc_ck ((y2 * 10) + y5) 100 (dc_lt (sti Fo 7 (Int32.toNatClampNeg ((y2 * 10) + y5)) (v15.toInt32)) (fun Fo_23 => dc_lt (y3 + 1) (fun v24 => dc_lt (y5 + 1) (fun v25 => k78 y1 y2 v24 y4 v25 Ma Fo_23))))))))) else if y1 = 1 then dc_ck y5 40 (dc_lt (N1 (Int32.toNatClampNeg y5)) (fun v28 => (if y5 = y2 then dc_lt (y5 + 1) (fun v30 => k78 y1 y2 y3 y4 v30 Ma Fo) else (if (lg_cmp v28 (-9)) < 0 then dc_lt (y5 + 1) (fun v32 => k78 y1 y2 y3 y4 v32 Ma Fo) else (if 0 < (lg_cmp v28 9) then dc_lt (y5 + 1) (fun v34 => k78 y1 y2 y3 y4 v34 Ma Fo) else dc_ck ((y2 * 10) + y5) 100 (dc_lt (sti Fo 7 (Int32.toNatClampNeg ((y2 * 10) + y5)) (v28.toInt32)) (fun Fo_36 => dc_lt (y3 + 1) (fun v37 => dc_lt (y5 + 1) (fun v38 => k78 y1 y2 v37 y4 v38 Ma Fo_36))))))))) else if y1 = 2 then dc_ck y5 40 (dc_lt (N2 (Int32.toNatClampNeg y5)) (fun v41 => (if y5 = y2 then dc_lt (y5 + 1) (fun v43 => k78 y1 y2 y3 y4 v43 Ma Fo) else (if (lg_cmp v41 (-9)) < 0 then dc_lt (y5 + 1) (fun v45 => k78 y1 y2 y3 y4 v45 Ma Fo) else (if 0 < (lg_cmp v41 9) then dc_lt (y5 + 1) (fun v47 => k78 y1 y2 y3 y4 v47 Ma Fo) else dc_ck ((y2 * 10) + y5) 100 (dc_lt (sti Fo 7 (Int32.toNatClampNeg ((y2 * 10) + y5)) (v41.toInt32)) (fun Fo_49 => dc_lt (y3 + 1) (fun v50 => dc_lt (y5 + 1) (fun v51 => k78 y1 y2 v50 y4 v51 Ma Fo_49))))))))) else if y1 = 3 then dc_ck y5 40 (dc_lt (N3 (Int32.toNatClampNeg y5)) (fun v54 => (if y5 = y2 then dc_lt (y5 + 1) (fun v56 => k78 y1 y2 y3 y4 v56 Ma Fo) else (if (lg_cmp v54 (-9)) < 0 then dc_lt (y5 + 1) (fun v58 => k78 y1 y2 y3 y4 v58 Ma Fo) else (if 0 < (lg_cmp v54 9) then dc_lt (y5 + 1) (fun v60 => k78 y1 y2 y3 y4 v60 Ma Fo) else dc_ck ((y2 * 10) + y5) 100 (dc_lt (sti Fo 7 (Int32.toNatClampNeg ((y2 * 10) + y5)) (v54.toInt32)) (fun Fo_62 => dc_lt (y3 + 1) (fun v63 => dc_lt (y5 + 1) (fun v64 => k78 y1 y2 v63 y4 v64 Ma Fo_62))))))))) else none))
def fX7_lays_78 (G0 : ST) (N0 : LT) (G1 : ST) (N1 : LT) (G2 : ST) (N2 : LT) (G3 : ST) (N3 : LT) : Nat → Int32 → Int32 → Int32 → Int32 → Int32 → ST → ST → Option (Int32 × ST × ST)
  | 0 => fun _ _ _ _ _ _ _ => none
  | n + 1 => fX7_lays_78_s G0 N0 G1 N1 G2 N2 G3 N3 (fX7_lays_78 G0 N0 G1 N1 G2 N2 G3 N3 n)
def fX7_lays (x1 : Int32) (x2 : Int32) (Ma : ST) (Fo : ST) (G0 : ST) (N0 : LT) (G1 : ST) (N1 : LT) (G2 : ST) (N2 : LT) (G3 : ST) (N3 : LT) : Option (Int32 × ST × ST) :=
  dc_b1 (fX7_isSheet x1) (fun r1 => (if r1 = 0 then dc_b2 (fX7_finding (-1000000001) Ma) (fun r113 Ma_114 => some (r113, Ma_114, Fo)) else (if x1 = 0 then dc_b1 (fX5_isMissing G0) (fun r5 => (if r5 = 0 then dc_b1 (fX7_isOne x2 Ma Fo) (fun r8 => (if r8 = 0 then dc_b2 (fX7_finding (-1000000001) Ma) (fun r65 Ma_66 => some (r65, Ma_66, Fo)) else dc_lt (if (Fo 0 0) < (G0 0 1) then (Fo 0 0) else (G0 0 1)) (fun v11 => fX7_lays_78 G0 N0 G1 N1 G2 N2 G3 N3 400 x1 x2 0 v11 0 Ma Fo))) else dc_b2 (fX7_finding (-1000000006) Ma) (fun r68 Ma_69 => some (r68, Ma_69, Fo)))) else if x1 = 1 then dc_b1 (fX5_isMissing G1) (fun r72 => (if r72 = 0 then dc_b1 (fX7_isOne x2 Ma Fo) (fun r75 => (if r75 = 0 then dc_b2 (fX7_finding (-1000000001) Ma) (fun r79 Ma_80 => some (r79, Ma_80, Fo)) else dc_lt (if (Fo 0 0) < (G1 0 1) then (Fo 0 0) else (G1 0 1)) (fun v78 => fX7_lays_78 G0 N0 G1 N1 G2 N2 G3 N3 400 x1 x2 0 v78 0 Ma Fo))) else dc_b2 (fX7_finding (-1000000006) Ma) (fun r82 Ma_83 => some (r82, Ma_83, Fo)))) else if x1 = 2 then dc_b1 (fX5_isMissing G2) (fun r86 => (if r86 = 0 then dc_b1 (fX7_isOne x2 Ma Fo) (fun r89 => (if r89 = 0 then dc_b2 (fX7_finding (-1000000001) Ma) (fun r93 Ma_94 => some (r93, Ma_94, Fo)) else dc_lt (if (Fo 0 0) < (G2 0 1) then (Fo 0 0) else (G2 0 1)) (fun v92 => fX7_lays_78 G0 N0 G1 N1 G2 N2 G3 N3 400 x1 x2 0 v92 0 Ma Fo))) else dc_b2 (fX7_finding (-1000000006) Ma) (fun r96 Ma_97 => some (r96, Ma_97, Fo)))) else if x1 = 3 then dc_b1 (fX5_isMissing G3) (fun r100 => (if r100 = 0 then dc_b1 (fX7_isOne x2 Ma Fo) (fun r103 => (if r103 = 0 then dc_b2 (fX7_finding (-1000000001) Ma) (fun r107 Ma_108 => some (r107, Ma_108, Fo)) else dc_lt (if (Fo 0 0) < (G3 0 1) then (Fo 0 0) else (G3 0 1)) (fun v106 => fX7_lays_78 G0 N0 G1 N1 G2 N2 G3 N3 400 x1 x2 0 v106 0 Ma Fo))) else dc_b2 (fX7_finding (-1000000006) Ma) (fun r110 Ma_111 => some (r110, Ma_111, Fo)))) else none)))
abbrev rmX7_lays : Room := { frames := 2, cells := 0, slots := 0, locals := 43 }
set_option maxRecDepth 100000 in
set_option maxHeartbeats 4000000 in
theorem tX7_lays (l : Launch) (D : va_G) (cs : Nat → ClassId) (ama : Nat → Nat) (are : Nat → Nat) (are2 : Nat → Nat) (are3 : Nat → Nat) (ach : Nat → Nat) (ata : Nat → Nat) (asa : Nat → Nat) (af : Nat → Nat) (ac : Nat → Nat) (atr : Nat → Nat) (ase : Nat → Nat) (ag0 : Nat → Nat) (ag1 : Nat → Nat) (ag2 : Nat → Nat) (ag3 : Nat → Nat) (an0 : Nat → Nat) (an1 : Nat → Nat) (an2 : Nat → Nat) (an3 : Nat → Nat) (x1 : Int32) (x2 : Int32) (Ma : ST) (Fo : ST) (G0 : ST) (N0 : LT) (G1 : ST) (N1 : LT) (G2 : ST) (N2 : LT) (G3 : ST) (N3 : LT) (r0 : Int32) (Maz : ST) (Foz : ST) (hf : fX7_lays x1 x2 Ma Fo G0 N0 G1 N1 G2 N2 G3 N3 = some (r0, Maz, Foz)) : CG l yX7_lays (wsm yX7_lays cX7_lays 8 (some .int)) rmX7_lays D cs [.ref (ama 0), .int x1, .int x2] (some (.int r0)) ((kX7 cs ama (.ref (are 0)) (.ref (are2 0)) (.ref (are3 0)) (.ref (ach 0)) (.ref (ata 0)) (.ref (asa 0)) Ma) ++ ((kX2 cs are (.ref (af 0)) (.ref (ac 0)) (.ref (atr 0)) (.ref (ase 0)) ) ++ ((kX1 cs af  Fo) ++ ((kSA cs asa (ag0 0) (ag1 0) (ag2 0) (ag3 0)) ++ ((kX5 cs ag0 (.ref (an0 0)) G0) ++ ((kJ40 cs an0 N0) ++ ((kX5 cs ag1 (.ref (an1 0)) G1) ++ ((kJ40 cs an1 N1) ++ ((kX5 cs ag2 (.ref (an2 0)) G2) ++ ((kJ40 cs an2 N2) ++ ((kX5 cs ag3 (.ref (an3 0)) G3) ++ ((kJ40 cs an3 N3))))))))))))) ((kX7 cs ama (.ref (are 0)) (.ref (are2 0)) (.ref (are3 0)) (.ref (ach 0)) (.ref (ata 0)) (.ref (asa 0)) Maz) ++ ((kX2 cs are (.ref (af 0)) (.ref (ac 0)) (.ref (atr 0)) (.ref (ase 0)) ) ++ ((kX1 cs af  Foz) ++ ((kSA cs asa (ag0 0) (ag1 0) (ag2 0) (ag3 0)) ++ ((kX5 cs ag0 (.ref (an0 0)) G0) ++ ((kJ40 cs an0 N0) ++ ((kX5 cs ag1 (.ref (an1 0)) G1) ++ ((kJ40 cs an1 N1) ++ ((kX5 cs ag2 (.ref (an2 0)) G2) ++ ((kJ40 cs an2 N2) ++ ((kX5 cs ag3 (.ref (an3 0)) G3) ++ ((kJ40 cs an3 N3))))))))))))) := by
  refine CG.intro (by decide) (Nat.le_of_ble_eq_true rfl) ?_
  intro p e s m below meth c A Q hx hb hml hown hu hK hZ hP0 hD0 hS0 hA hri hrz hrl hrv hra ls0 hl0
  have hs78 : ∀ (k78 : Int32 → Int32 → Int32 → Int32 → Int32 → ST → ST → Option (Int32 × ST × ST)), (∀ (y1 : Int32) (y2 : Int32) (y3 : Int32) (y4 : Int32) (y5 : Int32) (Ma : ST) (Fo : ST) (H : Heap) (locs : List Loc) (ls : Array Slot), va_P D vwCl ((kX7 cs ama (.ref (are 0)) (.ref (are2 0)) (.ref (are3 0)) (.ref (ach 0)) (.ref (ata 0)) (.ref (asa 0)) Ma) ++ ((kX2 cs are (.ref (af 0)) (.ref (ac 0)) (.ref (atr 0)) (.ref (ase 0)) ) ++ ((kX1 cs af  Fo) ++ ((kSA cs asa (ag0 0) (ag1 0) (ag2 0) (ag3 0)) ++ ((kX5 cs ag0 (.ref (an0 0)) G0) ++ ((kJ40 cs an0 N0) ++ ((kX5 cs ag1 (.ref (an1 0)) G1) ++ ((kJ40 cs an1 N1) ++ ((kX5 cs ag2 (.ref (an2 0)) G2) ++ ((kJ40 cs an2 N2) ++ ((kX5 cs ag3 (.ref (an3 0)) G3) ++ ((kJ40 cs an3 N3))))))))))))) H → va_D A ((kX7 cs ama (.ref (are 0)) (.ref (are2 0)) (.ref (are3 0)) (.ref (ach 0)) (.ref (ata 0)) (.ref (asa 0)) Ma) ++ ((kX2 cs are (.ref (af 0)) (.ref (ac 0)) (.ref (atr 0)) (.ref (ase 0)) ) ++ ((kX1 cs af  Fo) ++ ((kSA cs asa (ag0 0) (ag1 0) (ag2 0) (ag3 0)) ++ ((kX5 cs ag0 (.ref (an0 0)) G0) ++ ((kJ40 cs an0 N0) ++ ((kX5 cs ag1 (.ref (an1 0)) G1) ++ ((kJ40 cs an1 N1) ++ ((kX5 cs ag2 (.ref (an2 0)) G2) ++ ((kJ40 cs an2 N2) ++ ((kX5 cs ag3 (.ref (an3 0)) G3) ++ ((kJ40 cs an3 N3))))))))))))) → va_S A s.heap H locs → lv_has ls 8 [(0, .ref (ama 0)), (1, .int y1), (2, .int y2), (3, .int y3), (4, .int y4), (5, .int y5)] → k78 y1 y2 y3 y4 y5 Ma Fo = some (r0, Maz, Foz) → W p l e rmX7_lays s m [.ref (ama 0), .int x1, .int x2].toArray below meth c H locs 0 0 Q (F0 m 78 ls [])) → ∀ (y1 : Int32) (y2 : Int32) (y3 : Int32) (y4 : Int32) (y5 : Int32) (Ma : ST) (Fo : ST) (H : Heap) (locs : List Loc) (ls : Array Slot), va_P D vwCl ((kX7 cs ama (.ref (are 0)) (.ref (are2 0)) (.ref (are3 0)) (.ref (ach 0)) (.ref (ata 0)) (.ref (asa 0)) Ma) ++ ((kX2 cs are (.ref (af 0)) (.ref (ac 0)) (.ref (atr 0)) (.ref (ase 0)) ) ++ ((kX1 cs af  Fo) ++ ((kSA cs asa (ag0 0) (ag1 0) (ag2 0) (ag3 0)) ++ ((kX5 cs ag0 (.ref (an0 0)) G0) ++ ((kJ40 cs an0 N0) ++ ((kX5 cs ag1 (.ref (an1 0)) G1) ++ ((kJ40 cs an1 N1) ++ ((kX5 cs ag2 (.ref (an2 0)) G2) ++ ((kJ40 cs an2 N2) ++ ((kX5 cs ag3 (.ref (an3 0)) G3) ++ ((kJ40 cs an3 N3))))))))))))) H → va_D A ((kX7 cs ama (.ref (are 0)) (.ref (are2 0)) (.ref (are3 0)) (.ref (ach 0)) (.ref (ata 0)) (.ref (asa 0)) Ma) ++ ((kX2 cs are (.ref (af 0)) (.ref (ac 0)) (.ref (atr 0)) (.ref (ase 0)) ) ++ ((kX1 cs af  Fo) ++ ((kSA cs asa (ag0 0) (ag1 0) (ag2 0) (ag3 0)) ++ ((kX5 cs ag0 (.ref (an0 0)) G0) ++ ((kJ40 cs an0 N0) ++ ((kX5 cs ag1 (.ref (an1 0)) G1) ++ ((kJ40 cs an1 N1) ++ ((kX5 cs ag2 (.ref (an2 0)) G2) ++ ((kJ40 cs an2 N2) ++ ((kX5 cs ag3 (.ref (an3 0)) G3) ++ ((kJ40 cs an3 N3))))))))))))) → va_S A s.heap H locs → lv_has ls 8 [(0, .ref (ama 0)), (1, .int y1), (2, .int y2), (3, .int y3), (4, .int y4), (5, .int y5)] → fX7_lays_78_s G0 N0 G1 N1 G2 N2 G3 N3 k78 y1 y2 y3 y4 y5 Ma Fo = some (r0, Maz, Foz) → W p l e rmX7_lays s m [.ref (ama 0), .int x1, .int x2].toArray below meth c H locs 0 0 Q (F0 m 78 ls []) := by
    intro k78 hk78 y1 y2 y3 y4 y5 Ma Fo H locs ls hP hD hS hl hf
    unfold fX7_lays_78_s at hf
    refine lv_iload hx hb dX7_lays_78 (lv_at hl 5 rfl) ?_
    refine lv_iload hx hb dX7_lays_80 (lv_at hl 4 rfl) ?_
    refine lv_icmp_ge (tgt := 153) hx hb dX7_lays_82 (by decide) (fun hc12 => ?_) (fun hc12 => ?_)
    · have hf := ip_el hc12 hf
      refine lv_iload_n hx hb dX7_lays_153 rfl (lv_at hl 3 rfl) ?_
      have he := Option.some.inj hf
      obtain ⟨e0, ht0⟩ := Prod.mk.inj he
      obtain ⟨e1, e2⟩ := Prod.mk.inj ht0
      exact hri _ _ _ rfl (congrArg (fun z => some (Value.int z)) e0.symm) dX7_lays_154 _ _ _ (by rw [e1, e2]) hP hD hS
    · have hf := in_el hc12 hf
      refine lv_aload_n hx hb dX7_lays_85 rfl (lv_at hl 0 rfl) ?_
      refine va_get (D := D) (ci := 7) (v := .ref (asa 0)) (C := RX7) (T := TX7) (N := 8) hx hb hu inX7 hown hK.1 hP 0 rfl rfl 5 (by decide) (hu _ q305) (fun _ h9 => h9) rfl dX7_lays_86 ?_
      refine lv_iload_n hx hb dX7_lays_89 rfl (lv_at hl 1 rfl) ?_
      by_cases hc13 : y1 = 0
      · have hf := ip_el hc13 hf
        refine sa_lit (e := ag0 0) hx hb hK hP 10 rfl (k := 0) (by rw [hc13]; decide) rfl dX7_lays_90 ?_
        refine va_get (D := D) (ci := 5) (v := .ref (an0 0)) (C := RX5) (T := TX5) (N := 3) hx hb hu inX5 hown hK.1 hP 11 rfl rfl 2 (by decide) (hu _ q291) (fun _ h9 => h9) rfl dX7_lays_91 ?_
        refine lv_iload hx hb dX7_lays_94 (lv_at hl 5 rfl) ?_
        obtain ⟨hi14, hf⟩ := ck_el hf
        refine va_lald hx hb hK.1 hP 12 1 rfl rfl hi14 dX7_lays_96 ?_
        obtain ⟨v15, hv15, hf⟩ := lt_el hf
        refine lv_topel hv15 ?_
        refine lv_lstore (lv' := [(6, .long v15), (0, .ref (ama 0)), (1, .int y1), (2, .int y2), (3, .int y3), (4, .int y4), (5, .int y5)]) hx hb dX7_lays_97 hl (by decide) rfl (fun ls hl => ?_)
        refine lv_iload hx hb dX7_lays_99 (lv_at hl 6 rfl) ?_
        refine lv_iload_n hx hb dX7_lays_101 rfl (lv_at hl 3 rfl) ?_
        refine lv_icmp_eq (tgt := 147) hx hb dX7_lays_102 (by decide) (fun hc16 => ?_) (fun hc16 => ?_)
        · have hf := ip_el hc16 hf
          obtain ⟨v17, hv17, hf⟩ := lt_el hf
          refine lv_iinc (v := v17) (lv' := [(5, .int v17), (6, .long v15), (0, .ref (ama 0)), (1, .int y1), (2, .int y2), (3, .int y3), (4, .int y4)]) hx hb dX7_lays_147 hl (k := 6) rfl (by rw [hv17]; rfl) (by decide) rfl (fun ls hl => ?_)
          refine lv_goto (tgt := 78) hx hb dX7_lays_150 (by decide) ?_
          exact hk78 y1 y2 y3 y4 v17 Ma Fo _ _ _ hP hD hS (lv_sub hl [2, 3, 4, 5, 6, 0] rfl) hf
        · have hf := in_el hc16 hf
          refine lv_lload hx hb dX7_lays_105 (lv_at hl 0 rfl) ?_
          refine lv_ldc2 (v := (-9)) hx hb hown (hu _ q880) dX7_lays_107 ?_
          refine W.lcmp hx hb dX7_lays_110 ?_
          refine lv_if_lt (tgt := 147) hx hb dX7_lays_111 (by decide) (fun hc18 => ?_) (fun hc18 => ?_)
          · have hf := ip_el hc18 hf
            obtain ⟨v19, hv19, hf⟩ := lt_el hf
            refine lv_iinc (v := v19) (lv' := [(5, .int v19), (6, .long v15), (0, .ref (ama 0)), (1, .int y1), (2, .int y2), (3, .int y3), (4, .int y4)]) hx hb dX7_lays_147 hl (k := 6) rfl (by rw [hv19]; rfl) (by decide) rfl (fun ls hl => ?_)
            refine lv_goto (tgt := 78) hx hb dX7_lays_150 (by decide) ?_
            exact hk78 y1 y2 y3 y4 v19 Ma Fo _ _ _ hP hD hS (lv_sub hl [2, 3, 4, 5, 6, 0] rfl) hf
          · have hf := in_el hc18 hf
            refine lv_lload hx hb dX7_lays_114 (lv_at hl 0 rfl) ?_
            refine lv_ldc2 (v := 9) hx hb hown (hu _ q881) dX7_lays_116 ?_
            refine W.lcmp hx hb dX7_lays_119 ?_
            refine lv_if_gt (tgt := 147) hx hb dX7_lays_120 (by decide) (fun hc20 => ?_) (fun hc20 => ?_)
            · have hf := ip_el hc20 hf
              obtain ⟨v21, hv21, hf⟩ := lt_el hf
              refine lv_iinc (v := v21) (lv' := [(5, .int v21), (6, .long v15), (0, .ref (ama 0)), (1, .int y1), (2, .int y2), (3, .int y3), (4, .int y4)]) hx hb dX7_lays_147 hl (k := 6) rfl (by rw [hv21]; rfl) (by decide) rfl (fun ls hl => ?_)
              refine lv_goto (tgt := 78) hx hb dX7_lays_150 (by decide) ?_
              exact hk78 y1 y2 y3 y4 v21 Ma Fo _ _ _ hP hD hS (lv_sub hl [2, 3, 4, 5, 6, 0] rfl) hf
            · have hf := in_el hc20 hf
              refine lv_aload_n hx hb dX7_lays_123 rfl (lv_at hl 1 rfl) ?_
              refine va_get (D := D) (ci := 7) (v := .ref (are 0)) (C := RX7) (T := TX7) (N := 8) hx hb hu inX7 hown hK.1 hP 0 rfl rfl 0 (by decide) (hu _ q300) (fun _ h9 => h9) rfl dX7_lays_124 ?_
              refine va_get (D := D) (ci := 2) (v := .ref (af 0)) (C := RX2) (T := TX2) (N := 4) hx hb hu inX2 hown hK.1 hP 2 rfl rfl 0 (by decide) (hu _ q196) (fun _ h9 => h9) rfl dX7_lays_127 ?_
              refine va_get (D := D) (ci := 1) (v := .ref (af 7)) (C := RX1) (T := TX1) (N := 9) hx hb hu inX1 hown hK.1 hP 3 rfl rfl 6 (by decide) (hu _ q107) (fun _ h9 => h9) rfl dX7_lays_130 ?_
              refine lv_iload_n hx hb dX7_lays_133 rfl (lv_at hl 3 rfl) ?_
              refine lv_bipush (v := 10) hx hb dX7_lays_134 (by decide) ?_
              refine lv_imul hx hb dX7_lays_136 ?_
              refine lv_iload hx hb dX7_lays_137 (lv_at hl 6 rfl) ?_
              refine lv_iadd hx hb dX7_lays_139 ?_
              refine lv_lload hx hb dX7_lays_140 (lv_at hl 0 rfl) ?_
              refine lv_l2i (v := (v15.toInt32)) hx hb dX7_lays_142 rfl ?_
              obtain ⟨hi22, hf⟩ := ck_el hf
              obtain ⟨Fo_23, hFo_23, hf⟩ := lt_el hf
              refine va_iast hx hb hK.1 hP hD hS 8 0 rfl rfl hi22 dX7_lays_143 (fun H locs hP hD hS => ?_)
              have hP : va_P D vwCl ((kX7 cs ama (.ref (are 0)) (.ref (are2 0)) (.ref (are3 0)) (.ref (ach 0)) (.ref (ata 0)) (.ref (asa 0)) Ma) ++ ((kX2 cs are (.ref (af 0)) (.ref (ac 0)) (.ref (atr 0)) (.ref (ase 0)) ) ++ ((kX1 cs af  Fo_23) ++ ((kSA cs asa (ag0 0) (ag1 0) (ag2 0) (ag3 0)) ++ ((kX5 cs ag0 (.ref (an0 0)) G0) ++ ((kJ40 cs an0 N0) ++ ((kX5 cs ag1 (.ref (an1 0)) G1) ++ ((kJ40 cs an1 N1) ++ ((kX5 cs ag2 (.ref (an2 0)) G2) ++ ((kJ40 cs an2 N2) ++ ((kX5 cs ag3 (.ref (an3 0)) G3) ++ ((kJ40 cs an3 N3))))))))))))) H := by rw [hFo_23]; exact hP
              have hD : va_D A ((kX7 cs ama (.ref (are 0)) (.ref (are2 0)) (.ref (are3 0)) (.ref (ach 0)) (.ref (ata 0)) (.ref (asa 0)) Ma) ++ ((kX2 cs are (.ref (af 0)) (.ref (ac 0)) (.ref (atr 0)) (.ref (ase 0)) ) ++ ((kX1 cs af  Fo_23) ++ ((kSA cs asa (ag0 0) (ag1 0) (ag2 0) (ag3 0)) ++ ((kX5 cs ag0 (.ref (an0 0)) G0) ++ ((kJ40 cs an0 N0) ++ ((kX5 cs ag1 (.ref (an1 0)) G1) ++ ((kJ40 cs an1 N1) ++ ((kX5 cs ag2 (.ref (an2 0)) G2) ++ ((kJ40 cs an2 N2) ++ ((kX5 cs ag3 (.ref (an3 0)) G3) ++ ((kJ40 cs an3 N3))))))))))))) := by rw [hFo_23]; exact hD
              obtain ⟨v24, hv24, hf⟩ := lt_el hf
              refine lv_iinc (v := v24) (lv' := [(3, .int v24), (6, .long v15), (0, .ref (ama 0)), (1, .int y1), (2, .int y2), (4, .int y4), (5, .int y5)]) hx hb dX7_lays_144 hl (k := 4) rfl (by rw [hv24]; rfl) (by decide) rfl (fun ls hl => ?_)
              obtain ⟨v25, hv25, hf⟩ := lt_el hf
              refine lv_iinc (v := v25) (lv' := [(5, .int v25), (3, .int v24), (6, .long v15), (0, .ref (ama 0)), (1, .int y1), (2, .int y2), (4, .int y4)]) hx hb dX7_lays_147 hl (k := 6) rfl (by rw [hv25]; rfl) (by decide) rfl (fun ls hl => ?_)
              refine lv_goto (tgt := 78) hx hb dX7_lays_150 (by decide) ?_
              exact hk78 y1 y2 v24 y4 v25 Ma Fo_23 _ _ _ hP hD hS (lv_sub hl [3, 4, 5, 1, 6, 0] rfl) hf
      have hf := in_el hc13 hf
      by_cases hc26 : y1 = 1
      · have hf := ip_el hc26 hf
        refine sa_lit (e := ag1 0) hx hb hK hP 10 rfl (k := 1) (by rw [hc26]; decide) rfl dX7_lays_90 ?_
        refine va_get (D := D) (ci := 5) (v := .ref (an1 0)) (C := RX5) (T := TX5) (N := 3) hx hb hu inX5 hown hK.1 hP 13 rfl rfl 2 (by decide) (hu _ q291) (fun _ h9 => h9) rfl dX7_lays_91 ?_
        refine lv_iload hx hb dX7_lays_94 (lv_at hl 5 rfl) ?_
        obtain ⟨hi27, hf⟩ := ck_el hf
        refine va_lald hx hb hK.1 hP 14 1 rfl rfl hi27 dX7_lays_96 ?_
        obtain ⟨v28, hv28, hf⟩ := lt_el hf
        refine lv_topel hv28 ?_
        refine lv_lstore (lv' := [(6, .long v28), (0, .ref (ama 0)), (1, .int y1), (2, .int y2), (3, .int y3), (4, .int y4), (5, .int y5)]) hx hb dX7_lays_97 hl (by decide) rfl (fun ls hl => ?_)
        refine lv_iload hx hb dX7_lays_99 (lv_at hl 6 rfl) ?_
        refine lv_iload_n hx hb dX7_lays_101 rfl (lv_at hl 3 rfl) ?_
        refine lv_icmp_eq (tgt := 147) hx hb dX7_lays_102 (by decide) (fun hc29 => ?_) (fun hc29 => ?_)
        · have hf := ip_el hc29 hf
          obtain ⟨v30, hv30, hf⟩ := lt_el hf
          refine lv_iinc (v := v30) (lv' := [(5, .int v30), (6, .long v28), (0, .ref (ama 0)), (1, .int y1), (2, .int y2), (3, .int y3), (4, .int y4)]) hx hb dX7_lays_147 hl (k := 6) rfl (by rw [hv30]; rfl) (by decide) rfl (fun ls hl => ?_)
          refine lv_goto (tgt := 78) hx hb dX7_lays_150 (by decide) ?_
          exact hk78 y1 y2 y3 y4 v30 Ma Fo _ _ _ hP hD hS (lv_sub hl [2, 3, 4, 5, 6, 0] rfl) hf
        · have hf := in_el hc29 hf
          refine lv_lload hx hb dX7_lays_105 (lv_at hl 0 rfl) ?_
          refine lv_ldc2 (v := (-9)) hx hb hown (hu _ q880) dX7_lays_107 ?_
          refine W.lcmp hx hb dX7_lays_110 ?_
          refine lv_if_lt (tgt := 147) hx hb dX7_lays_111 (by decide) (fun hc31 => ?_) (fun hc31 => ?_)
          · have hf := ip_el hc31 hf
            obtain ⟨v32, hv32, hf⟩ := lt_el hf
            refine lv_iinc (v := v32) (lv' := [(5, .int v32), (6, .long v28), (0, .ref (ama 0)), (1, .int y1), (2, .int y2), (3, .int y3), (4, .int y4)]) hx hb dX7_lays_147 hl (k := 6) rfl (by rw [hv32]; rfl) (by decide) rfl (fun ls hl => ?_)
            refine lv_goto (tgt := 78) hx hb dX7_lays_150 (by decide) ?_
            exact hk78 y1 y2 y3 y4 v32 Ma Fo _ _ _ hP hD hS (lv_sub hl [2, 3, 4, 5, 6, 0] rfl) hf
          · have hf := in_el hc31 hf
            refine lv_lload hx hb dX7_lays_114 (lv_at hl 0 rfl) ?_
            refine lv_ldc2 (v := 9) hx hb hown (hu _ q881) dX7_lays_116 ?_
            refine W.lcmp hx hb dX7_lays_119 ?_
            refine lv_if_gt (tgt := 147) hx hb dX7_lays_120 (by decide) (fun hc33 => ?_) (fun hc33 => ?_)
            · have hf := ip_el hc33 hf
              obtain ⟨v34, hv34, hf⟩ := lt_el hf
              refine lv_iinc (v := v34) (lv' := [(5, .int v34), (6, .long v28), (0, .ref (ama 0)), (1, .int y1), (2, .int y2), (3, .int y3), (4, .int y4)]) hx hb dX7_lays_147 hl (k := 6) rfl (by rw [hv34]; rfl) (by decide) rfl (fun ls hl => ?_)
              refine lv_goto (tgt := 78) hx hb dX7_lays_150 (by decide) ?_
              exact hk78 y1 y2 y3 y4 v34 Ma Fo _ _ _ hP hD hS (lv_sub hl [2, 3, 4, 5, 6, 0] rfl) hf
            · have hf := in_el hc33 hf
              refine lv_aload_n hx hb dX7_lays_123 rfl (lv_at hl 1 rfl) ?_
              refine va_get (D := D) (ci := 7) (v := .ref (are 0)) (C := RX7) (T := TX7) (N := 8) hx hb hu inX7 hown hK.1 hP 0 rfl rfl 0 (by decide) (hu _ q300) (fun _ h9 => h9) rfl dX7_lays_124 ?_
              refine va_get (D := D) (ci := 2) (v := .ref (af 0)) (C := RX2) (T := TX2) (N := 4) hx hb hu inX2 hown hK.1 hP 2 rfl rfl 0 (by decide) (hu _ q196) (fun _ h9 => h9) rfl dX7_lays_127 ?_
              refine va_get (D := D) (ci := 1) (v := .ref (af 7)) (C := RX1) (T := TX1) (N := 9) hx hb hu inX1 hown hK.1 hP 3 rfl rfl 6 (by decide) (hu _ q107) (fun _ h9 => h9) rfl dX7_lays_130 ?_
              refine lv_iload_n hx hb dX7_lays_133 rfl (lv_at hl 3 rfl) ?_
              refine lv_bipush (v := 10) hx hb dX7_lays_134 (by decide) ?_
              refine lv_imul hx hb dX7_lays_136 ?_
              refine lv_iload hx hb dX7_lays_137 (lv_at hl 6 rfl) ?_
              refine lv_iadd hx hb dX7_lays_139 ?_
              refine lv_lload hx hb dX7_lays_140 (lv_at hl 0 rfl) ?_
              refine lv_l2i (v := (v28.toInt32)) hx hb dX7_lays_142 rfl ?_
              obtain ⟨hi35, hf⟩ := ck_el hf
              obtain ⟨Fo_36, hFo_36, hf⟩ := lt_el hf
              refine va_iast hx hb hK.1 hP hD hS 8 0 rfl rfl hi35 dX7_lays_143 (fun H locs hP hD hS => ?_)
              have hP : va_P D vwCl ((kX7 cs ama (.ref (are 0)) (.ref (are2 0)) (.ref (are3 0)) (.ref (ach 0)) (.ref (ata 0)) (.ref (asa 0)) Ma) ++ ((kX2 cs are (.ref (af 0)) (.ref (ac 0)) (.ref (atr 0)) (.ref (ase 0)) ) ++ ((kX1 cs af  Fo_36) ++ ((kSA cs asa (ag0 0) (ag1 0) (ag2 0) (ag3 0)) ++ ((kX5 cs ag0 (.ref (an0 0)) G0) ++ ((kJ40 cs an0 N0) ++ ((kX5 cs ag1 (.ref (an1 0)) G1) ++ ((kJ40 cs an1 N1) ++ ((kX5 cs ag2 (.ref (an2 0)) G2) ++ ((kJ40 cs an2 N2) ++ ((kX5 cs ag3 (.ref (an3 0)) G3) ++ ((kJ40 cs an3 N3))))))))))))) H := by rw [hFo_36]; exact hP
              have hD : va_D A ((kX7 cs ama (.ref (are 0)) (.ref (are2 0)) (.ref (are3 0)) (.ref (ach 0)) (.ref (ata 0)) (.ref (asa 0)) Ma) ++ ((kX2 cs are (.ref (af 0)) (.ref (ac 0)) (.ref (atr 0)) (.ref (ase 0)) ) ++ ((kX1 cs af  Fo_36) ++ ((kSA cs asa (ag0 0) (ag1 0) (ag2 0) (ag3 0)) ++ ((kX5 cs ag0 (.ref (an0 0)) G0) ++ ((kJ40 cs an0 N0) ++ ((kX5 cs ag1 (.ref (an1 0)) G1) ++ ((kJ40 cs an1 N1) ++ ((kX5 cs ag2 (.ref (an2 0)) G2) ++ ((kJ40 cs an2 N2) ++ ((kX5 cs ag3 (.ref (an3 0)) G3) ++ ((kJ40 cs an3 N3))))))))))))) := by rw [hFo_36]; exact hD
              obtain ⟨v37, hv37, hf⟩ := lt_el hf
              refine lv_iinc (v := v37) (lv' := [(3, .int v37), (6, .long v28), (0, .ref (ama 0)), (1, .int y1), (2, .int y2), (4, .int y4), (5, .int y5)]) hx hb dX7_lays_144 hl (k := 4) rfl (by rw [hv37]; rfl) (by decide) rfl (fun ls hl => ?_)
              obtain ⟨v38, hv38, hf⟩ := lt_el hf
              refine lv_iinc (v := v38) (lv' := [(5, .int v38), (3, .int v37), (6, .long v28), (0, .ref (ama 0)), (1, .int y1), (2, .int y2), (4, .int y4)]) hx hb dX7_lays_147 hl (k := 6) rfl (by rw [hv38]; rfl) (by decide) rfl (fun ls hl => ?_)
              refine lv_goto (tgt := 78) hx hb dX7_lays_150 (by decide) ?_
              exact hk78 y1 y2 v37 y4 v38 Ma Fo_36 _ _ _ hP hD hS (lv_sub hl [3, 4, 5, 1, 6, 0] rfl) hf
      have hf := in_el hc26 hf
      by_cases hc39 : y1 = 2
      · have hf := ip_el hc39 hf
        refine sa_lit (e := ag2 0) hx hb hK hP 10 rfl (k := 2) (by rw [hc39]; decide) rfl dX7_lays_90 ?_
        refine va_get (D := D) (ci := 5) (v := .ref (an2 0)) (C := RX5) (T := TX5) (N := 3) hx hb hu inX5 hown hK.1 hP 15 rfl rfl 2 (by decide) (hu _ q291) (fun _ h9 => h9) rfl dX7_lays_91 ?_
        refine lv_iload hx hb dX7_lays_94 (lv_at hl 5 rfl) ?_
        obtain ⟨hi40, hf⟩ := ck_el hf
        refine va_lald hx hb hK.1 hP 16 1 rfl rfl hi40 dX7_lays_96 ?_
        obtain ⟨v41, hv41, hf⟩ := lt_el hf
        refine lv_topel hv41 ?_
        refine lv_lstore (lv' := [(6, .long v41), (0, .ref (ama 0)), (1, .int y1), (2, .int y2), (3, .int y3), (4, .int y4), (5, .int y5)]) hx hb dX7_lays_97 hl (by decide) rfl (fun ls hl => ?_)
        refine lv_iload hx hb dX7_lays_99 (lv_at hl 6 rfl) ?_
        refine lv_iload_n hx hb dX7_lays_101 rfl (lv_at hl 3 rfl) ?_
        refine lv_icmp_eq (tgt := 147) hx hb dX7_lays_102 (by decide) (fun hc42 => ?_) (fun hc42 => ?_)
        · have hf := ip_el hc42 hf
          obtain ⟨v43, hv43, hf⟩ := lt_el hf
          refine lv_iinc (v := v43) (lv' := [(5, .int v43), (6, .long v41), (0, .ref (ama 0)), (1, .int y1), (2, .int y2), (3, .int y3), (4, .int y4)]) hx hb dX7_lays_147 hl (k := 6) rfl (by rw [hv43]; rfl) (by decide) rfl (fun ls hl => ?_)
          refine lv_goto (tgt := 78) hx hb dX7_lays_150 (by decide) ?_
          exact hk78 y1 y2 y3 y4 v43 Ma Fo _ _ _ hP hD hS (lv_sub hl [2, 3, 4, 5, 6, 0] rfl) hf
        · have hf := in_el hc42 hf
          refine lv_lload hx hb dX7_lays_105 (lv_at hl 0 rfl) ?_
          refine lv_ldc2 (v := (-9)) hx hb hown (hu _ q880) dX7_lays_107 ?_
          refine W.lcmp hx hb dX7_lays_110 ?_
          refine lv_if_lt (tgt := 147) hx hb dX7_lays_111 (by decide) (fun hc44 => ?_) (fun hc44 => ?_)
          · have hf := ip_el hc44 hf
            obtain ⟨v45, hv45, hf⟩ := lt_el hf
            refine lv_iinc (v := v45) (lv' := [(5, .int v45), (6, .long v41), (0, .ref (ama 0)), (1, .int y1), (2, .int y2), (3, .int y3), (4, .int y4)]) hx hb dX7_lays_147 hl (k := 6) rfl (by rw [hv45]; rfl) (by decide) rfl (fun ls hl => ?_)
            refine lv_goto (tgt := 78) hx hb dX7_lays_150 (by decide) ?_
            exact hk78 y1 y2 y3 y4 v45 Ma Fo _ _ _ hP hD hS (lv_sub hl [2, 3, 4, 5, 6, 0] rfl) hf
          · have hf := in_el hc44 hf
            refine lv_lload hx hb dX7_lays_114 (lv_at hl 0 rfl) ?_
            refine lv_ldc2 (v := 9) hx hb hown (hu _ q881) dX7_lays_116 ?_
            refine W.lcmp hx hb dX7_lays_119 ?_
            refine lv_if_gt (tgt := 147) hx hb dX7_lays_120 (by decide) (fun hc46 => ?_) (fun hc46 => ?_)
            · have hf := ip_el hc46 hf
              obtain ⟨v47, hv47, hf⟩ := lt_el hf
              refine lv_iinc (v := v47) (lv' := [(5, .int v47), (6, .long v41), (0, .ref (ama 0)), (1, .int y1), (2, .int y2), (3, .int y3), (4, .int y4)]) hx hb dX7_lays_147 hl (k := 6) rfl (by rw [hv47]; rfl) (by decide) rfl (fun ls hl => ?_)
              refine lv_goto (tgt := 78) hx hb dX7_lays_150 (by decide) ?_
              exact hk78 y1 y2 y3 y4 v47 Ma Fo _ _ _ hP hD hS (lv_sub hl [2, 3, 4, 5, 6, 0] rfl) hf
            · have hf := in_el hc46 hf
              refine lv_aload_n hx hb dX7_lays_123 rfl (lv_at hl 1 rfl) ?_
              refine va_get (D := D) (ci := 7) (v := .ref (are 0)) (C := RX7) (T := TX7) (N := 8) hx hb hu inX7 hown hK.1 hP 0 rfl rfl 0 (by decide) (hu _ q300) (fun _ h9 => h9) rfl dX7_lays_124 ?_
              refine va_get (D := D) (ci := 2) (v := .ref (af 0)) (C := RX2) (T := TX2) (N := 4) hx hb hu inX2 hown hK.1 hP 2 rfl rfl 0 (by decide) (hu _ q196) (fun _ h9 => h9) rfl dX7_lays_127 ?_
              refine va_get (D := D) (ci := 1) (v := .ref (af 7)) (C := RX1) (T := TX1) (N := 9) hx hb hu inX1 hown hK.1 hP 3 rfl rfl 6 (by decide) (hu _ q107) (fun _ h9 => h9) rfl dX7_lays_130 ?_
              refine lv_iload_n hx hb dX7_lays_133 rfl (lv_at hl 3 rfl) ?_
              refine lv_bipush (v := 10) hx hb dX7_lays_134 (by decide) ?_
              refine lv_imul hx hb dX7_lays_136 ?_
              refine lv_iload hx hb dX7_lays_137 (lv_at hl 6 rfl) ?_
              refine lv_iadd hx hb dX7_lays_139 ?_
              refine lv_lload hx hb dX7_lays_140 (lv_at hl 0 rfl) ?_
              refine lv_l2i (v := (v41.toInt32)) hx hb dX7_lays_142 rfl ?_
              obtain ⟨hi48, hf⟩ := ck_el hf
              obtain ⟨Fo_49, hFo_49, hf⟩ := lt_el hf
              refine va_iast hx hb hK.1 hP hD hS 8 0 rfl rfl hi48 dX7_lays_143 (fun H locs hP hD hS => ?_)
              have hP : va_P D vwCl ((kX7 cs ama (.ref (are 0)) (.ref (are2 0)) (.ref (are3 0)) (.ref (ach 0)) (.ref (ata 0)) (.ref (asa 0)) Ma) ++ ((kX2 cs are (.ref (af 0)) (.ref (ac 0)) (.ref (atr 0)) (.ref (ase 0)) ) ++ ((kX1 cs af  Fo_49) ++ ((kSA cs asa (ag0 0) (ag1 0) (ag2 0) (ag3 0)) ++ ((kX5 cs ag0 (.ref (an0 0)) G0) ++ ((kJ40 cs an0 N0) ++ ((kX5 cs ag1 (.ref (an1 0)) G1) ++ ((kJ40 cs an1 N1) ++ ((kX5 cs ag2 (.ref (an2 0)) G2) ++ ((kJ40 cs an2 N2) ++ ((kX5 cs ag3 (.ref (an3 0)) G3) ++ ((kJ40 cs an3 N3))))))))))))) H := by rw [hFo_49]; exact hP
              have hD : va_D A ((kX7 cs ama (.ref (are 0)) (.ref (are2 0)) (.ref (are3 0)) (.ref (ach 0)) (.ref (ata 0)) (.ref (asa 0)) Ma) ++ ((kX2 cs are (.ref (af 0)) (.ref (ac 0)) (.ref (atr 0)) (.ref (ase 0)) ) ++ ((kX1 cs af  Fo_49) ++ ((kSA cs asa (ag0 0) (ag1 0) (ag2 0) (ag3 0)) ++ ((kX5 cs ag0 (.ref (an0 0)) G0) ++ ((kJ40 cs an0 N0) ++ ((kX5 cs ag1 (.ref (an1 0)) G1) ++ ((kJ40 cs an1 N1) ++ ((kX5 cs ag2 (.ref (an2 0)) G2) ++ ((kJ40 cs an2 N2) ++ ((kX5 cs ag3 (.ref (an3 0)) G3) ++ ((kJ40 cs an3 N3))))))))))))) := by rw [hFo_49]; exact hD
              obtain ⟨v50, hv50, hf⟩ := lt_el hf
              refine lv_iinc (v := v50) (lv' := [(3, .int v50), (6, .long v41), (0, .ref (ama 0)), (1, .int y1), (2, .int y2), (4, .int y4), (5, .int y5)]) hx hb dX7_lays_144 hl (k := 4) rfl (by rw [hv50]; rfl) (by decide) rfl (fun ls hl => ?_)
              obtain ⟨v51, hv51, hf⟩ := lt_el hf
              refine lv_iinc (v := v51) (lv' := [(5, .int v51), (3, .int v50), (6, .long v41), (0, .ref (ama 0)), (1, .int y1), (2, .int y2), (4, .int y4)]) hx hb dX7_lays_147 hl (k := 6) rfl (by rw [hv51]; rfl) (by decide) rfl (fun ls hl => ?_)
              refine lv_goto (tgt := 78) hx hb dX7_lays_150 (by decide) ?_
              exact hk78 y1 y2 v50 y4 v51 Ma Fo_49 _ _ _ hP hD hS (lv_sub hl [3, 4, 5, 1, 6, 0] rfl) hf
      have hf := in_el hc39 hf
      by_cases hc52 : y1 = 3
      · have hf := ip_el hc52 hf
        refine sa_lit (e := ag3 0) hx hb hK hP 10 rfl (k := 3) (by rw [hc52]; decide) rfl dX7_lays_90 ?_
        refine va_get (D := D) (ci := 5) (v := .ref (an3 0)) (C := RX5) (T := TX5) (N := 3) hx hb hu inX5 hown hK.1 hP 17 rfl rfl 2 (by decide) (hu _ q291) (fun _ h9 => h9) rfl dX7_lays_91 ?_
        refine lv_iload hx hb dX7_lays_94 (lv_at hl 5 rfl) ?_
        obtain ⟨hi53, hf⟩ := ck_el hf
        refine va_lald hx hb hK.1 hP 18 1 rfl rfl hi53 dX7_lays_96 ?_
        obtain ⟨v54, hv54, hf⟩ := lt_el hf
        refine lv_topel hv54 ?_
        refine lv_lstore (lv' := [(6, .long v54), (0, .ref (ama 0)), (1, .int y1), (2, .int y2), (3, .int y3), (4, .int y4), (5, .int y5)]) hx hb dX7_lays_97 hl (by decide) rfl (fun ls hl => ?_)
        refine lv_iload hx hb dX7_lays_99 (lv_at hl 6 rfl) ?_
        refine lv_iload_n hx hb dX7_lays_101 rfl (lv_at hl 3 rfl) ?_
        refine lv_icmp_eq (tgt := 147) hx hb dX7_lays_102 (by decide) (fun hc55 => ?_) (fun hc55 => ?_)
        · have hf := ip_el hc55 hf
          obtain ⟨v56, hv56, hf⟩ := lt_el hf
          refine lv_iinc (v := v56) (lv' := [(5, .int v56), (6, .long v54), (0, .ref (ama 0)), (1, .int y1), (2, .int y2), (3, .int y3), (4, .int y4)]) hx hb dX7_lays_147 hl (k := 6) rfl (by rw [hv56]; rfl) (by decide) rfl (fun ls hl => ?_)
          refine lv_goto (tgt := 78) hx hb dX7_lays_150 (by decide) ?_
          exact hk78 y1 y2 y3 y4 v56 Ma Fo _ _ _ hP hD hS (lv_sub hl [2, 3, 4, 5, 6, 0] rfl) hf
        · have hf := in_el hc55 hf
          refine lv_lload hx hb dX7_lays_105 (lv_at hl 0 rfl) ?_
          refine lv_ldc2 (v := (-9)) hx hb hown (hu _ q880) dX7_lays_107 ?_
          refine W.lcmp hx hb dX7_lays_110 ?_
          refine lv_if_lt (tgt := 147) hx hb dX7_lays_111 (by decide) (fun hc57 => ?_) (fun hc57 => ?_)
          · have hf := ip_el hc57 hf
            obtain ⟨v58, hv58, hf⟩ := lt_el hf
            refine lv_iinc (v := v58) (lv' := [(5, .int v58), (6, .long v54), (0, .ref (ama 0)), (1, .int y1), (2, .int y2), (3, .int y3), (4, .int y4)]) hx hb dX7_lays_147 hl (k := 6) rfl (by rw [hv58]; rfl) (by decide) rfl (fun ls hl => ?_)
            refine lv_goto (tgt := 78) hx hb dX7_lays_150 (by decide) ?_
            exact hk78 y1 y2 y3 y4 v58 Ma Fo _ _ _ hP hD hS (lv_sub hl [2, 3, 4, 5, 6, 0] rfl) hf
          · have hf := in_el hc57 hf
            refine lv_lload hx hb dX7_lays_114 (lv_at hl 0 rfl) ?_
            refine lv_ldc2 (v := 9) hx hb hown (hu _ q881) dX7_lays_116 ?_
            refine W.lcmp hx hb dX7_lays_119 ?_
            refine lv_if_gt (tgt := 147) hx hb dX7_lays_120 (by decide) (fun hc59 => ?_) (fun hc59 => ?_)
            · have hf := ip_el hc59 hf
              obtain ⟨v60, hv60, hf⟩ := lt_el hf
              refine lv_iinc (v := v60) (lv' := [(5, .int v60), (6, .long v54), (0, .ref (ama 0)), (1, .int y1), (2, .int y2), (3, .int y3), (4, .int y4)]) hx hb dX7_lays_147 hl (k := 6) rfl (by rw [hv60]; rfl) (by decide) rfl (fun ls hl => ?_)
              refine lv_goto (tgt := 78) hx hb dX7_lays_150 (by decide) ?_
              exact hk78 y1 y2 y3 y4 v60 Ma Fo _ _ _ hP hD hS (lv_sub hl [2, 3, 4, 5, 6, 0] rfl) hf
            · have hf := in_el hc59 hf
              refine lv_aload_n hx hb dX7_lays_123 rfl (lv_at hl 1 rfl) ?_
              refine va_get (D := D) (ci := 7) (v := .ref (are 0)) (C := RX7) (T := TX7) (N := 8) hx hb hu inX7 hown hK.1 hP 0 rfl rfl 0 (by decide) (hu _ q300) (fun _ h9 => h9) rfl dX7_lays_124 ?_
              refine va_get (D := D) (ci := 2) (v := .ref (af 0)) (C := RX2) (T := TX2) (N := 4) hx hb hu inX2 hown hK.1 hP 2 rfl rfl 0 (by decide) (hu _ q196) (fun _ h9 => h9) rfl dX7_lays_127 ?_
              refine va_get (D := D) (ci := 1) (v := .ref (af 7)) (C := RX1) (T := TX1) (N := 9) hx hb hu inX1 hown hK.1 hP 3 rfl rfl 6 (by decide) (hu _ q107) (fun _ h9 => h9) rfl dX7_lays_130 ?_
              refine lv_iload_n hx hb dX7_lays_133 rfl (lv_at hl 3 rfl) ?_
              refine lv_bipush (v := 10) hx hb dX7_lays_134 (by decide) ?_
              refine lv_imul hx hb dX7_lays_136 ?_
              refine lv_iload hx hb dX7_lays_137 (lv_at hl 6 rfl) ?_
              refine lv_iadd hx hb dX7_lays_139 ?_
              refine lv_lload hx hb dX7_lays_140 (lv_at hl 0 rfl) ?_
              refine lv_l2i (v := (v54.toInt32)) hx hb dX7_lays_142 rfl ?_
              obtain ⟨hi61, hf⟩ := ck_el hf
              obtain ⟨Fo_62, hFo_62, hf⟩ := lt_el hf
              refine va_iast hx hb hK.1 hP hD hS 8 0 rfl rfl hi61 dX7_lays_143 (fun H locs hP hD hS => ?_)
              have hP : va_P D vwCl ((kX7 cs ama (.ref (are 0)) (.ref (are2 0)) (.ref (are3 0)) (.ref (ach 0)) (.ref (ata 0)) (.ref (asa 0)) Ma) ++ ((kX2 cs are (.ref (af 0)) (.ref (ac 0)) (.ref (atr 0)) (.ref (ase 0)) ) ++ ((kX1 cs af  Fo_62) ++ ((kSA cs asa (ag0 0) (ag1 0) (ag2 0) (ag3 0)) ++ ((kX5 cs ag0 (.ref (an0 0)) G0) ++ ((kJ40 cs an0 N0) ++ ((kX5 cs ag1 (.ref (an1 0)) G1) ++ ((kJ40 cs an1 N1) ++ ((kX5 cs ag2 (.ref (an2 0)) G2) ++ ((kJ40 cs an2 N2) ++ ((kX5 cs ag3 (.ref (an3 0)) G3) ++ ((kJ40 cs an3 N3))))))))))))) H := by rw [hFo_62]; exact hP
              have hD : va_D A ((kX7 cs ama (.ref (are 0)) (.ref (are2 0)) (.ref (are3 0)) (.ref (ach 0)) (.ref (ata 0)) (.ref (asa 0)) Ma) ++ ((kX2 cs are (.ref (af 0)) (.ref (ac 0)) (.ref (atr 0)) (.ref (ase 0)) ) ++ ((kX1 cs af  Fo_62) ++ ((kSA cs asa (ag0 0) (ag1 0) (ag2 0) (ag3 0)) ++ ((kX5 cs ag0 (.ref (an0 0)) G0) ++ ((kJ40 cs an0 N0) ++ ((kX5 cs ag1 (.ref (an1 0)) G1) ++ ((kJ40 cs an1 N1) ++ ((kX5 cs ag2 (.ref (an2 0)) G2) ++ ((kJ40 cs an2 N2) ++ ((kX5 cs ag3 (.ref (an3 0)) G3) ++ ((kJ40 cs an3 N3))))))))))))) := by rw [hFo_62]; exact hD
              obtain ⟨v63, hv63, hf⟩ := lt_el hf
              refine lv_iinc (v := v63) (lv' := [(3, .int v63), (6, .long v54), (0, .ref (ama 0)), (1, .int y1), (2, .int y2), (4, .int y4), (5, .int y5)]) hx hb dX7_lays_144 hl (k := 4) rfl (by rw [hv63]; rfl) (by decide) rfl (fun ls hl => ?_)
              obtain ⟨v64, hv64, hf⟩ := lt_el hf
              refine lv_iinc (v := v64) (lv' := [(5, .int v64), (3, .int v63), (6, .long v54), (0, .ref (ama 0)), (1, .int y1), (2, .int y2), (4, .int y4)]) hx hb dX7_lays_147 hl (k := 6) rfl (by rw [hv64]; rfl) (by decide) rfl (fun ls hl => ?_)
              refine lv_goto (tgt := 78) hx hb dX7_lays_150 (by decide) ?_
              exact hk78 y1 y2 v63 y4 v64 Ma Fo_62 _ _ _ hP hD hS (lv_sub hl [3, 4, 5, 1, 6, 0] rfl) hf
      have hf := in_el hc52 hf
      exact no_el hf
  have h78 : ∀ (n : Nat), ∀ (y1 : Int32) (y2 : Int32) (y3 : Int32) (y4 : Int32) (y5 : Int32) (Ma : ST) (Fo : ST) (H : Heap) (locs : List Loc) (ls : Array Slot), va_P D vwCl ((kX7 cs ama (.ref (are 0)) (.ref (are2 0)) (.ref (are3 0)) (.ref (ach 0)) (.ref (ata 0)) (.ref (asa 0)) Ma) ++ ((kX2 cs are (.ref (af 0)) (.ref (ac 0)) (.ref (atr 0)) (.ref (ase 0)) ) ++ ((kX1 cs af  Fo) ++ ((kSA cs asa (ag0 0) (ag1 0) (ag2 0) (ag3 0)) ++ ((kX5 cs ag0 (.ref (an0 0)) G0) ++ ((kJ40 cs an0 N0) ++ ((kX5 cs ag1 (.ref (an1 0)) G1) ++ ((kJ40 cs an1 N1) ++ ((kX5 cs ag2 (.ref (an2 0)) G2) ++ ((kJ40 cs an2 N2) ++ ((kX5 cs ag3 (.ref (an3 0)) G3) ++ ((kJ40 cs an3 N3))))))))))))) H → va_D A ((kX7 cs ama (.ref (are 0)) (.ref (are2 0)) (.ref (are3 0)) (.ref (ach 0)) (.ref (ata 0)) (.ref (asa 0)) Ma) ++ ((kX2 cs are (.ref (af 0)) (.ref (ac 0)) (.ref (atr 0)) (.ref (ase 0)) ) ++ ((kX1 cs af  Fo) ++ ((kSA cs asa (ag0 0) (ag1 0) (ag2 0) (ag3 0)) ++ ((kX5 cs ag0 (.ref (an0 0)) G0) ++ ((kJ40 cs an0 N0) ++ ((kX5 cs ag1 (.ref (an1 0)) G1) ++ ((kJ40 cs an1 N1) ++ ((kX5 cs ag2 (.ref (an2 0)) G2) ++ ((kJ40 cs an2 N2) ++ ((kX5 cs ag3 (.ref (an3 0)) G3) ++ ((kJ40 cs an3 N3))))))))))))) → va_S A s.heap H locs → lv_has ls 8 [(0, .ref (ama 0)), (1, .int y1), (2, .int y2), (3, .int y3), (4, .int y4), (5, .int y5)] → fX7_lays_78 G0 N0 G1 N1 G2 N2 G3 N3 n y1 y2 y3 y4 y5 Ma Fo = some (r0, Maz, Foz) → W p l e rmX7_lays s m [.ref (ama 0), .int x1, .int x2].toArray below meth c H locs 0 0 Q (F0 m 78 ls []) := by
    intro n
    induction n with
    | zero => intro y1 y2 y3 y4 y5 Ma Fo H locs ls hP hD hS hl hf; exact no_el hf
    | succ n ih => intro y1 y2 y3 y4 y5 Ma Fo H locs ls hP hD hS hl hf; exact hs78 _ ih y1 y2 y3 y4 y5 Ma Fo _ _ _ hP hD hS hl hf
  have hl : lv_has ls0 8 [(0, .ref (ama 0)), (1, .int x1), (2, .int x2)] := hl0
  have hP := hP0
  have hD := hD0
  have hS := hS0
  unfold fX7_lays at hf
  refine lv_iload_n hx hb dX7_lays_0 rfl (lv_at hl 1 rfl) ?_
  obtain ⟨r1, hg2, hf⟩ := b1_el hf
  refine cc_S0 (st1 := [.int r1]) [.int x1] hx hb hml hown hu (tX7_isSheet l D cs x1 r1 hg2) q844 q54 q842 q843 pdX7_isSheet ⟨rfl, rfl, Nat.le_of_ble_eq_true rfl, Nat.le_of_ble_eq_true rfl⟩ hK hZ hP hD hS hA rfl hl.1 rfl (Nat.le_of_ble_eq_true rfl) dX7_lays_1 rfl (fun H locs hP hD hS => ?_)
  refine lv_if_ne (tgt := 14) hx hb dX7_lays_4 (by decide) (fun hc3 => ?_) (fun hc3 => ?_)
  · have hf := in_el hc3 hf
    refine lv_aload_n hx hb dX7_lays_14 rfl (lv_at hl 0 rfl) ?_
    refine va_get (D := D) (ci := 7) (v := .ref (asa 0)) (C := RX7) (T := TX7) (N := 8) hx hb hu inX7 hown hK.1 hP 0 rfl rfl 5 (by decide) (hu _ q305) (fun _ h9 => h9) rfl dX7_lays_15 ?_
    refine lv_iload_n hx hb dX7_lays_18 rfl (lv_at hl 1 rfl) ?_
    by_cases hc4 : x1 = 0
    · have hf := ip_el hc4 hf
      refine sa_lit (e := ag0 0) hx hb hK hP 10 rfl (k := 0) (by rw [hc4]; decide) rfl dX7_lays_19 ?_
      obtain ⟨r5, hg6, hf⟩ := b1_el hf
      refine cc_V (w' := ((kX7 cs ama (.ref (are 0)) (.ref (are2 0)) (.ref (are3 0)) (.ref (ach 0)) (.ref (ata 0)) (.ref (asa 0)) Ma) ++ ((kX2 cs are (.ref (af 0)) (.ref (ac 0)) (.ref (atr 0)) (.ref (ase 0)) ) ++ ((kX1 cs af  Fo) ++ ((kSA cs asa (ag0 0) (ag1 0) (ag2 0) (ag3 0)) ++ ((kX5 cs ag0 (.ref (an0 0)) G0) ++ ((kJ40 cs an0 N0) ++ ((kX5 cs ag1 (.ref (an1 0)) G1) ++ ((kJ40 cs an1 N1) ++ ((kX5 cs ag2 (.ref (an2 0)) G2) ++ ((kJ40 cs an2 N2) ++ ((kX5 cs ag3 (.ref (an3 0)) G3) ++ ((kJ40 cs an3 N3)))))))))))))) (wr := ((kX7 cs ama (.ref (are 0)) (.ref (are2 0)) (.ref (are3 0)) (.ref (ach 0)) (.ref (ata 0)) (.ref (asa 0)) Ma) ++ ((kX2 cs are (.ref (af 0)) (.ref (ac 0)) (.ref (atr 0)) (.ref (ase 0)) ) ++ ((kX1 cs af  Fo) ++ ((kSA cs asa (ag0 0) (ag1 0) (ag2 0) (ag3 0)) ++ ((kJ40 cs an0 N0) ++ ((kX5 cs ag1 (.ref (an1 0)) G1) ++ ((kJ40 cs an1 N1) ++ ((kX5 cs ag2 (.ref (an2 0)) G2) ++ ((kJ40 cs an2 N2) ++ ((kX5 cs ag3 (.ref (an3 0)) G3) ++ ((kJ40 cs an3 N3))))))))))))) (st1 := [.int r5]) [] hx hb hml hown hu (tX5_isMissing l D cs ag0 an0 G0 r5 hg6) q860 q61 q857 q858 q859 pdX5_isMissing ⟨rfl, rfl, Nat.le_of_ble_eq_true rfl, Nat.le_of_ble_eq_true rfl⟩ hK hZ hP hD hS hA [11] [0, 1, 2, 3, 4, 5, 6, 7, 8, 9, 10, 12, 13, 14, 15, 16, 17, 18] [0, 1, 2, 3, 4, 5, 6, 7, 8, 9, 10, 18, 11, 12, 13, 14, 15, 16, 17] rfl rfl rfl rfl rfl rfl rfl rfl rfl rfl hl.1 rfl (Nat.le_of_ble_eq_true rfl) dX7_lays_20 rfl (fun H locs hP hD hS => ?_)
      refine lv_if_eq (tgt := 34) hx hb dX7_lays_23 (by decide) (fun hc7 => ?_) (fun hc7 => ?_)
      · have hf := ip_el hc7 hf
        refine lv_aload_n hx hb dX7_lays_34 rfl (lv_at hl 0 rfl) ?_
        refine lv_iload_n hx hb dX7_lays_35 rfl (lv_at hl 2 rfl) ?_
        obtain ⟨r8, hg9, hf⟩ := b1_el hf
        refine cc_V (w' := ((kX7 cs ama (.ref (are 0)) (.ref (are2 0)) (.ref (are3 0)) (.ref (ach 0)) (.ref (ata 0)) (.ref (asa 0)) Ma) ++ ((kX2 cs are (.ref (af 0)) (.ref (ac 0)) (.ref (atr 0)) (.ref (ase 0)) ) ++ ((kX1 cs af  Fo) ++ ((kSA cs asa (ag0 0) (ag1 0) (ag2 0) (ag3 0)) ++ ((kX5 cs ag0 (.ref (an0 0)) G0) ++ ((kJ40 cs an0 N0) ++ ((kX5 cs ag1 (.ref (an1 0)) G1) ++ ((kJ40 cs an1 N1) ++ ((kX5 cs ag2 (.ref (an2 0)) G2) ++ ((kJ40 cs an2 N2) ++ ((kX5 cs ag3 (.ref (an3 0)) G3) ++ ((kJ40 cs an3 N3)))))))))))))) (wr := ((kSA cs asa (ag0 0) (ag1 0) (ag2 0) (ag3 0)) ++ ((kX5 cs ag0 (.ref (an0 0)) G0) ++ ((kJ40 cs an0 N0) ++ ((kX5 cs ag1 (.ref (an1 0)) G1) ++ ((kJ40 cs an1 N1) ++ ((kX5 cs ag2 (.ref (an2 0)) G2) ++ ((kJ40 cs an2 N2) ++ ((kX5 cs ag3 (.ref (an3 0)) G3) ++ ((kJ40 cs an3 N3))))))))))) (st1 := [.int r8]) [.int x2] hx hb hml hown hu (tX7_isOne l D cs ama are are2 are3 ach ata asa af ac atr ase x2 Ma Fo r8 hg9) q352 q54 q349 q351 q1 pdX7_isOne ⟨rfl, rfl, Nat.le_of_ble_eq_true rfl, Nat.le_of_ble_eq_true rfl⟩ hK hZ hP hD hS hA [0, 1, 2, 3, 4, 5, 6, 7, 8, 9] [10, 11, 12, 13, 14, 15, 16, 17, 18] [9, 10, 11, 12, 13, 14, 15, 16, 17, 18, 0, 1, 2, 3, 4, 5, 6, 7, 8] rfl rfl rfl rfl rfl rfl rfl rfl rfl rfl hl.1 rfl (Nat.le_of_ble_eq_true rfl) dX7_lays_36 rfl (fun H locs hP hD hS => ?_)
        refine lv_if_ne (tgt := 49) hx hb dX7_lays_39 (by decide) (fun hc10 => ?_) (fun hc10 => ?_)
        · have hf := in_el hc10 hf
          refine lv_iconst (v := 0) hx hb dX7_lays_49 (by decide) ?_
          refine lv_istore_n (lv' := [(3, .int 0), (0, .ref (ama 0)), (1, .int x1), (2, .int x2)]) hx hb dX7_lays_50 rfl hl (by decide) rfl (fun ls hl => ?_)
          refine lv_aload_n hx hb dX7_lays_51 rfl (lv_at hl 1 rfl) ?_
          refine va_get (D := D) (ci := 7) (v := .ref (asa 0)) (C := RX7) (T := TX7) (N := 8) hx hb hu inX7 hown hK.1 hP 0 rfl rfl 5 (by decide) (hu _ q305) (fun _ h9 => h9) rfl dX7_lays_52 ?_
          refine lv_iload_n hx hb dX7_lays_55 rfl (lv_at hl 2 rfl) ?_
          refine sa_lit (e := ag0 0) hx hb hK hP 10 rfl (k := 0) (by rw [hc4]; decide) rfl dX7_lays_56 ?_
          refine va_get (D := D) (ci := 5) (v := .int (G0 0 1)) (C := RX5) (T := TX5) (N := 3) hx hb hu inX5 hown hK.1 hP 11 rfl rfl 1 (by decide) (hu _ q289) (fun _ h9 => h9) rfl dX7_lays_57 ?_
          refine lv_aload_n hx hb dX7_lays_60 rfl (lv_at hl 1 rfl) ?_
          refine va_get (D := D) (ci := 7) (v := .ref (are 0)) (C := RX7) (T := TX7) (N := 8) hx hb hu inX7 hown hK.1 hP 0 rfl rfl 0 (by decide) (hu _ q300) (fun _ h9 => h9) rfl dX7_lays_61 ?_
          refine va_get (D := D) (ci := 2) (v := .ref (af 0)) (C := RX2) (T := TX2) (N := 4) hx hb hu inX2 hown hK.1 hP 2 rfl rfl 0 (by decide) (hu _ q196) (fun _ h9 => h9) rfl dX7_lays_64 ?_
          refine va_get (D := D) (ci := 1) (v := .int (Fo 0 0)) (C := RX1) (T := TX1) (N := 9) hx hb hu inX1 hown hK.1 hP 3 rfl rfl 0 (by decide) (hu _ q93) (fun _ h9 => h9) rfl dX7_lays_67 ?_
          refine va_mmin hx hb (hml.trans hl.1.symm) hown (hu _ q879) (hu _ q759) (hu _ q68) (hu _ q760) (Nat.le_of_ble_eq_true rfl) (Nat.le_of_ble_eq_true rfl) (Nat.zero_le _) (Nat.zero_le _) dX7_lays_70 ?_
          obtain ⟨v11, hv11, hf⟩ := lt_el hf
          refine lv_tope hv11 ?_
          refine lv_istore (lv' := [(4, .int v11), (3, .int 0), (0, .ref (ama 0)), (1, .int x1), (2, .int x2)]) hx hb dX7_lays_73 hl (by decide) rfl (fun ls hl => ?_)
          refine lv_iconst (v := 0) hx hb dX7_lays_75 (by decide) ?_
          refine lv_istore (lv' := [(5, .int 0), (4, .int v11), (3, .int 0), (0, .ref (ama 0)), (1, .int x1), (2, .int x2)]) hx hb dX7_lays_76 hl (by decide) rfl (fun ls hl => ?_)
          exact h78 400 x1 x2 0 v11 0 Ma Fo _ _ _ hP hD hS (lv_sub hl [3, 4, 5, 2, 1, 0] rfl) hf
        · have hf := ip_el hc10 hf
          refine lv_aload_n hx hb dX7_lays_42 rfl (lv_at hl 0 rfl) ?_
          refine lv_ldc (v := (-1000000001)) hx hb hown (hu _ q335) dX7_lays_43 ?_
          obtain ⟨r65, Ma_66, hg67, hf⟩ := b2_el hf
          refine cc_V (w' := ((kX7 cs ama (.ref (are 0)) (.ref (are2 0)) (.ref (are3 0)) (.ref (ach 0)) (.ref (ata 0)) (.ref (asa 0)) Ma_66) ++ ((kX2 cs are (.ref (af 0)) (.ref (ac 0)) (.ref (atr 0)) (.ref (ase 0)) ) ++ ((kX1 cs af  Fo) ++ ((kSA cs asa (ag0 0) (ag1 0) (ag2 0) (ag3 0)) ++ ((kX5 cs ag0 (.ref (an0 0)) G0) ++ ((kJ40 cs an0 N0) ++ ((kX5 cs ag1 (.ref (an1 0)) G1) ++ ((kJ40 cs an1 N1) ++ ((kX5 cs ag2 (.ref (an2 0)) G2) ++ ((kJ40 cs an2 N2) ++ ((kX5 cs ag3 (.ref (an3 0)) G3) ++ ((kJ40 cs an3 N3)))))))))))))) (wr := ((kX2 cs are (.ref (af 0)) (.ref (ac 0)) (.ref (atr 0)) (.ref (ase 0)) ) ++ ((kX1 cs af  Fo) ++ ((kSA cs asa (ag0 0) (ag1 0) (ag2 0) (ag3 0)) ++ ((kX5 cs ag0 (.ref (an0 0)) G0) ++ ((kJ40 cs an0 N0) ++ ((kX5 cs ag1 (.ref (an1 0)) G1) ++ ((kJ40 cs an1 N1) ++ ((kX5 cs ag2 (.ref (an2 0)) G2) ++ ((kJ40 cs an2 N2) ++ ((kX5 cs ag3 (.ref (an3 0)) G3) ++ ((kJ40 cs an3 N3))))))))))))) (st1 := [.int r65]) [.int (-1000000001)] hx hb hml hown hu (tX7_finding l D cs ama are are2 are3 ach ata asa (-1000000001) Ma r65 Ma_66 hg67) q339 q54 q336 q338 q0 pdX7_finding ⟨rfl, rfl, Nat.le_of_ble_eq_true rfl, Nat.le_of_ble_eq_true rfl⟩ hK hZ hP hD hS hA [0, 1] [2, 3, 4, 5, 6, 7, 8, 9, 10, 11, 12, 13, 14, 15, 16, 17, 18] [17, 18, 0, 1, 2, 3, 4, 5, 6, 7, 8, 9, 10, 11, 12, 13, 14, 15, 16] rfl rfl rfl rfl rfl rfl rfl rfl rfl rfl hl.1 rfl (Nat.le_of_ble_eq_true rfl) dX7_lays_45 rfl (fun H locs hP hD hS => ?_)
          have he := Option.some.inj hf
          obtain ⟨e0, ht0⟩ := Prod.mk.inj he
          obtain ⟨e1, e2⟩ := Prod.mk.inj ht0
          exact hri _ _ _ rfl (congrArg (fun z => some (Value.int z)) e0.symm) dX7_lays_48 _ _ _ (by rw [e1, e2]) hP hD hS
      · have hf := in_el hc7 hf
        refine lv_aload_n hx hb dX7_lays_26 rfl (lv_at hl 0 rfl) ?_
        refine lv_ldcw (v := (-1000000006)) hx hb hown (hu _ q861) dX7_lays_27 ?_
        obtain ⟨r68, Ma_69, hg70, hf⟩ := b2_el hf
        refine cc_V (w' := ((kX7 cs ama (.ref (are 0)) (.ref (are2 0)) (.ref (are3 0)) (.ref (ach 0)) (.ref (ata 0)) (.ref (asa 0)) Ma_69) ++ ((kX2 cs are (.ref (af 0)) (.ref (ac 0)) (.ref (atr 0)) (.ref (ase 0)) ) ++ ((kX1 cs af  Fo) ++ ((kSA cs asa (ag0 0) (ag1 0) (ag2 0) (ag3 0)) ++ ((kX5 cs ag0 (.ref (an0 0)) G0) ++ ((kJ40 cs an0 N0) ++ ((kX5 cs ag1 (.ref (an1 0)) G1) ++ ((kJ40 cs an1 N1) ++ ((kX5 cs ag2 (.ref (an2 0)) G2) ++ ((kJ40 cs an2 N2) ++ ((kX5 cs ag3 (.ref (an3 0)) G3) ++ ((kJ40 cs an3 N3)))))))))))))) (wr := ((kX2 cs are (.ref (af 0)) (.ref (ac 0)) (.ref (atr 0)) (.ref (ase 0)) ) ++ ((kX1 cs af  Fo) ++ ((kSA cs asa (ag0 0) (ag1 0) (ag2 0) (ag3 0)) ++ ((kX5 cs ag0 (.ref (an0 0)) G0) ++ ((kJ40 cs an0 N0) ++ ((kX5 cs ag1 (.ref (an1 0)) G1) ++ ((kJ40 cs an1 N1) ++ ((kX5 cs ag2 (.ref (an2 0)) G2) ++ ((kJ40 cs an2 N2) ++ ((kX5 cs ag3 (.ref (an3 0)) G3) ++ ((kJ40 cs an3 N3))))))))))))) (st1 := [.int r68]) [.int (-1000000006)] hx hb hml hown hu (tX7_finding l D cs ama are are2 are3 ach ata asa (-1000000006) Ma r68 Ma_69 hg70) q339 q54 q336 q338 q0 pdX7_finding ⟨rfl, rfl, Nat.le_of_ble_eq_true rfl, Nat.le_of_ble_eq_true rfl⟩ hK hZ hP hD hS hA [0, 1] [2, 3, 4, 5, 6, 7, 8, 9, 10, 11, 12, 13, 14, 15, 16, 17, 18] [17, 18, 0, 1, 2, 3, 4, 5, 6, 7, 8, 9, 10, 11, 12, 13, 14, 15, 16] rfl rfl rfl rfl rfl rfl rfl rfl rfl rfl hl.1 rfl (Nat.le_of_ble_eq_true rfl) dX7_lays_30 rfl (fun H locs hP hD hS => ?_)
        have he := Option.some.inj hf
        obtain ⟨e0, ht0⟩ := Prod.mk.inj he
        obtain ⟨e1, e2⟩ := Prod.mk.inj ht0
        exact hri _ _ _ rfl (congrArg (fun z => some (Value.int z)) e0.symm) dX7_lays_33 _ _ _ (by rw [e1, e2]) hP hD hS
    have hf := in_el hc4 hf
    by_cases hc71 : x1 = 1
    · have hf := ip_el hc71 hf
      refine sa_lit (e := ag1 0) hx hb hK hP 10 rfl (k := 1) (by rw [hc71]; decide) rfl dX7_lays_19 ?_
      obtain ⟨r72, hg73, hf⟩ := b1_el hf
      refine cc_V (w' := ((kX7 cs ama (.ref (are 0)) (.ref (are2 0)) (.ref (are3 0)) (.ref (ach 0)) (.ref (ata 0)) (.ref (asa 0)) Ma) ++ ((kX2 cs are (.ref (af 0)) (.ref (ac 0)) (.ref (atr 0)) (.ref (ase 0)) ) ++ ((kX1 cs af  Fo) ++ ((kSA cs asa (ag0 0) (ag1 0) (ag2 0) (ag3 0)) ++ ((kX5 cs ag0 (.ref (an0 0)) G0) ++ ((kJ40 cs an0 N0) ++ ((kX5 cs ag1 (.ref (an1 0)) G1) ++ ((kJ40 cs an1 N1) ++ ((kX5 cs ag2 (.ref (an2 0)) G2) ++ ((kJ40 cs an2 N2) ++ ((kX5 cs ag3 (.ref (an3 0)) G3) ++ ((kJ40 cs an3 N3)))))))))))))) (wr := ((kX7 cs ama (.ref (are 0)) (.ref (are2 0)) (.ref (are3 0)) (.ref (ach 0)) (.ref (ata 0)) (.ref (asa 0)) Ma) ++ ((kX2 cs are (.ref (af 0)) (.ref (ac 0)) (.ref (atr 0)) (.ref (ase 0)) ) ++ ((kX1 cs af  Fo) ++ ((kSA cs asa (ag0 0) (ag1 0) (ag2 0) (ag3 0)) ++ ((kX5 cs ag0 (.ref (an0 0)) G0) ++ ((kJ40 cs an0 N0) ++ ((kJ40 cs an1 N1) ++ ((kX5 cs ag2 (.ref (an2 0)) G2) ++ ((kJ40 cs an2 N2) ++ ((kX5 cs ag3 (.ref (an3 0)) G3) ++ ((kJ40 cs an3 N3))))))))))))) (st1 := [.int r72]) [] hx hb hml hown hu (tX5_isMissing l D cs ag1 an1 G1 r72 hg73) q860 q61 q857 q858 q859 pdX5_isMissing ⟨rfl, rfl, Nat.le_of_ble_eq_true rfl, Nat.le_of_ble_eq_true rfl⟩ hK hZ hP hD hS hA [13] [0, 1, 2, 3, 4, 5, 6, 7, 8, 9, 10, 11, 12, 14, 15, 16, 17, 18] [0, 1, 2, 3, 4, 5, 6, 7, 8, 9, 10, 11, 12, 18, 13, 14, 15, 16, 17] rfl rfl rfl rfl rfl rfl rfl rfl rfl rfl hl.1 rfl (Nat.le_of_ble_eq_true rfl) dX7_lays_20 rfl (fun H locs hP hD hS => ?_)
      refine lv_if_eq (tgt := 34) hx hb dX7_lays_23 (by decide) (fun hc74 => ?_) (fun hc74 => ?_)
      · have hf := ip_el hc74 hf
        refine lv_aload_n hx hb dX7_lays_34 rfl (lv_at hl 0 rfl) ?_
        refine lv_iload_n hx hb dX7_lays_35 rfl (lv_at hl 2 rfl) ?_
        obtain ⟨r75, hg76, hf⟩ := b1_el hf
        refine cc_V (w' := ((kX7 cs ama (.ref (are 0)) (.ref (are2 0)) (.ref (are3 0)) (.ref (ach 0)) (.ref (ata 0)) (.ref (asa 0)) Ma) ++ ((kX2 cs are (.ref (af 0)) (.ref (ac 0)) (.ref (atr 0)) (.ref (ase 0)) ) ++ ((kX1 cs af  Fo) ++ ((kSA cs asa (ag0 0) (ag1 0) (ag2 0) (ag3 0)) ++ ((kX5 cs ag0 (.ref (an0 0)) G0) ++ ((kJ40 cs an0 N0) ++ ((kX5 cs ag1 (.ref (an1 0)) G1) ++ ((kJ40 cs an1 N1) ++ ((kX5 cs ag2 (.ref (an2 0)) G2) ++ ((kJ40 cs an2 N2) ++ ((kX5 cs ag3 (.ref (an3 0)) G3) ++ ((kJ40 cs an3 N3)))))))))))))) (wr := ((kSA cs asa (ag0 0) (ag1 0) (ag2 0) (ag3 0)) ++ ((kX5 cs ag0 (.ref (an0 0)) G0) ++ ((kJ40 cs an0 N0) ++ ((kX5 cs ag1 (.ref (an1 0)) G1) ++ ((kJ40 cs an1 N1) ++ ((kX5 cs ag2 (.ref (an2 0)) G2) ++ ((kJ40 cs an2 N2) ++ ((kX5 cs ag3 (.ref (an3 0)) G3) ++ ((kJ40 cs an3 N3))))))))))) (st1 := [.int r75]) [.int x2] hx hb hml hown hu (tX7_isOne l D cs ama are are2 are3 ach ata asa af ac atr ase x2 Ma Fo r75 hg76) q352 q54 q349 q351 q1 pdX7_isOne ⟨rfl, rfl, Nat.le_of_ble_eq_true rfl, Nat.le_of_ble_eq_true rfl⟩ hK hZ hP hD hS hA [0, 1, 2, 3, 4, 5, 6, 7, 8, 9] [10, 11, 12, 13, 14, 15, 16, 17, 18] [9, 10, 11, 12, 13, 14, 15, 16, 17, 18, 0, 1, 2, 3, 4, 5, 6, 7, 8] rfl rfl rfl rfl rfl rfl rfl rfl rfl rfl hl.1 rfl (Nat.le_of_ble_eq_true rfl) dX7_lays_36 rfl (fun H locs hP hD hS => ?_)
        refine lv_if_ne (tgt := 49) hx hb dX7_lays_39 (by decide) (fun hc77 => ?_) (fun hc77 => ?_)
        · have hf := in_el hc77 hf
          refine lv_iconst (v := 0) hx hb dX7_lays_49 (by decide) ?_
          refine lv_istore_n (lv' := [(3, .int 0), (0, .ref (ama 0)), (1, .int x1), (2, .int x2)]) hx hb dX7_lays_50 rfl hl (by decide) rfl (fun ls hl => ?_)
          refine lv_aload_n hx hb dX7_lays_51 rfl (lv_at hl 1 rfl) ?_
          refine va_get (D := D) (ci := 7) (v := .ref (asa 0)) (C := RX7) (T := TX7) (N := 8) hx hb hu inX7 hown hK.1 hP 0 rfl rfl 5 (by decide) (hu _ q305) (fun _ h9 => h9) rfl dX7_lays_52 ?_
          refine lv_iload_n hx hb dX7_lays_55 rfl (lv_at hl 2 rfl) ?_
          refine sa_lit (e := ag1 0) hx hb hK hP 10 rfl (k := 1) (by rw [hc71]; decide) rfl dX7_lays_56 ?_
          refine va_get (D := D) (ci := 5) (v := .int (G1 0 1)) (C := RX5) (T := TX5) (N := 3) hx hb hu inX5 hown hK.1 hP 13 rfl rfl 1 (by decide) (hu _ q289) (fun _ h9 => h9) rfl dX7_lays_57 ?_
          refine lv_aload_n hx hb dX7_lays_60 rfl (lv_at hl 1 rfl) ?_
          refine va_get (D := D) (ci := 7) (v := .ref (are 0)) (C := RX7) (T := TX7) (N := 8) hx hb hu inX7 hown hK.1 hP 0 rfl rfl 0 (by decide) (hu _ q300) (fun _ h9 => h9) rfl dX7_lays_61 ?_
          refine va_get (D := D) (ci := 2) (v := .ref (af 0)) (C := RX2) (T := TX2) (N := 4) hx hb hu inX2 hown hK.1 hP 2 rfl rfl 0 (by decide) (hu _ q196) (fun _ h9 => h9) rfl dX7_lays_64 ?_
          refine va_get (D := D) (ci := 1) (v := .int (Fo 0 0)) (C := RX1) (T := TX1) (N := 9) hx hb hu inX1 hown hK.1 hP 3 rfl rfl 0 (by decide) (hu _ q93) (fun _ h9 => h9) rfl dX7_lays_67 ?_
          refine va_mmin hx hb (hml.trans hl.1.symm) hown (hu _ q879) (hu _ q759) (hu _ q68) (hu _ q760) (Nat.le_of_ble_eq_true rfl) (Nat.le_of_ble_eq_true rfl) (Nat.zero_le _) (Nat.zero_le _) dX7_lays_70 ?_
          obtain ⟨v78, hv78, hf⟩ := lt_el hf
          refine lv_tope hv78 ?_
          refine lv_istore (lv' := [(4, .int v78), (3, .int 0), (0, .ref (ama 0)), (1, .int x1), (2, .int x2)]) hx hb dX7_lays_73 hl (by decide) rfl (fun ls hl => ?_)
          refine lv_iconst (v := 0) hx hb dX7_lays_75 (by decide) ?_
          refine lv_istore (lv' := [(5, .int 0), (4, .int v78), (3, .int 0), (0, .ref (ama 0)), (1, .int x1), (2, .int x2)]) hx hb dX7_lays_76 hl (by decide) rfl (fun ls hl => ?_)
          exact h78 400 x1 x2 0 v78 0 Ma Fo _ _ _ hP hD hS (lv_sub hl [3, 4, 5, 2, 1, 0] rfl) hf
        · have hf := ip_el hc77 hf
          refine lv_aload_n hx hb dX7_lays_42 rfl (lv_at hl 0 rfl) ?_
          refine lv_ldc (v := (-1000000001)) hx hb hown (hu _ q335) dX7_lays_43 ?_
          obtain ⟨r79, Ma_80, hg81, hf⟩ := b2_el hf
          refine cc_V (w' := ((kX7 cs ama (.ref (are 0)) (.ref (are2 0)) (.ref (are3 0)) (.ref (ach 0)) (.ref (ata 0)) (.ref (asa 0)) Ma_80) ++ ((kX2 cs are (.ref (af 0)) (.ref (ac 0)) (.ref (atr 0)) (.ref (ase 0)) ) ++ ((kX1 cs af  Fo) ++ ((kSA cs asa (ag0 0) (ag1 0) (ag2 0) (ag3 0)) ++ ((kX5 cs ag0 (.ref (an0 0)) G0) ++ ((kJ40 cs an0 N0) ++ ((kX5 cs ag1 (.ref (an1 0)) G1) ++ ((kJ40 cs an1 N1) ++ ((kX5 cs ag2 (.ref (an2 0)) G2) ++ ((kJ40 cs an2 N2) ++ ((kX5 cs ag3 (.ref (an3 0)) G3) ++ ((kJ40 cs an3 N3)))))))))))))) (wr := ((kX2 cs are (.ref (af 0)) (.ref (ac 0)) (.ref (atr 0)) (.ref (ase 0)) ) ++ ((kX1 cs af  Fo) ++ ((kSA cs asa (ag0 0) (ag1 0) (ag2 0) (ag3 0)) ++ ((kX5 cs ag0 (.ref (an0 0)) G0) ++ ((kJ40 cs an0 N0) ++ ((kX5 cs ag1 (.ref (an1 0)) G1) ++ ((kJ40 cs an1 N1) ++ ((kX5 cs ag2 (.ref (an2 0)) G2) ++ ((kJ40 cs an2 N2) ++ ((kX5 cs ag3 (.ref (an3 0)) G3) ++ ((kJ40 cs an3 N3))))))))))))) (st1 := [.int r79]) [.int (-1000000001)] hx hb hml hown hu (tX7_finding l D cs ama are are2 are3 ach ata asa (-1000000001) Ma r79 Ma_80 hg81) q339 q54 q336 q338 q0 pdX7_finding ⟨rfl, rfl, Nat.le_of_ble_eq_true rfl, Nat.le_of_ble_eq_true rfl⟩ hK hZ hP hD hS hA [0, 1] [2, 3, 4, 5, 6, 7, 8, 9, 10, 11, 12, 13, 14, 15, 16, 17, 18] [17, 18, 0, 1, 2, 3, 4, 5, 6, 7, 8, 9, 10, 11, 12, 13, 14, 15, 16] rfl rfl rfl rfl rfl rfl rfl rfl rfl rfl hl.1 rfl (Nat.le_of_ble_eq_true rfl) dX7_lays_45 rfl (fun H locs hP hD hS => ?_)
          have he := Option.some.inj hf
          obtain ⟨e0, ht0⟩ := Prod.mk.inj he
          obtain ⟨e1, e2⟩ := Prod.mk.inj ht0
          exact hri _ _ _ rfl (congrArg (fun z => some (Value.int z)) e0.symm) dX7_lays_48 _ _ _ (by rw [e1, e2]) hP hD hS
      · have hf := in_el hc74 hf
        refine lv_aload_n hx hb dX7_lays_26 rfl (lv_at hl 0 rfl) ?_
        refine lv_ldcw (v := (-1000000006)) hx hb hown (hu _ q861) dX7_lays_27 ?_
        obtain ⟨r82, Ma_83, hg84, hf⟩ := b2_el hf
        refine cc_V (w' := ((kX7 cs ama (.ref (are 0)) (.ref (are2 0)) (.ref (are3 0)) (.ref (ach 0)) (.ref (ata 0)) (.ref (asa 0)) Ma_83) ++ ((kX2 cs are (.ref (af 0)) (.ref (ac 0)) (.ref (atr 0)) (.ref (ase 0)) ) ++ ((kX1 cs af  Fo) ++ ((kSA cs asa (ag0 0) (ag1 0) (ag2 0) (ag3 0)) ++ ((kX5 cs ag0 (.ref (an0 0)) G0) ++ ((kJ40 cs an0 N0) ++ ((kX5 cs ag1 (.ref (an1 0)) G1) ++ ((kJ40 cs an1 N1) ++ ((kX5 cs ag2 (.ref (an2 0)) G2) ++ ((kJ40 cs an2 N2) ++ ((kX5 cs ag3 (.ref (an3 0)) G3) ++ ((kJ40 cs an3 N3)))))))))))))) (wr := ((kX2 cs are (.ref (af 0)) (.ref (ac 0)) (.ref (atr 0)) (.ref (ase 0)) ) ++ ((kX1 cs af  Fo) ++ ((kSA cs asa (ag0 0) (ag1 0) (ag2 0) (ag3 0)) ++ ((kX5 cs ag0 (.ref (an0 0)) G0) ++ ((kJ40 cs an0 N0) ++ ((kX5 cs ag1 (.ref (an1 0)) G1) ++ ((kJ40 cs an1 N1) ++ ((kX5 cs ag2 (.ref (an2 0)) G2) ++ ((kJ40 cs an2 N2) ++ ((kX5 cs ag3 (.ref (an3 0)) G3) ++ ((kJ40 cs an3 N3))))))))))))) (st1 := [.int r82]) [.int (-1000000006)] hx hb hml hown hu (tX7_finding l D cs ama are are2 are3 ach ata asa (-1000000006) Ma r82 Ma_83 hg84) q339 q54 q336 q338 q0 pdX7_finding ⟨rfl, rfl, Nat.le_of_ble_eq_true rfl, Nat.le_of_ble_eq_true rfl⟩ hK hZ hP hD hS hA [0, 1] [2, 3, 4, 5, 6, 7, 8, 9, 10, 11, 12, 13, 14, 15, 16, 17, 18] [17, 18, 0, 1, 2, 3, 4, 5, 6, 7, 8, 9, 10, 11, 12, 13, 14, 15, 16] rfl rfl rfl rfl rfl rfl rfl rfl rfl rfl hl.1 rfl (Nat.le_of_ble_eq_true rfl) dX7_lays_30 rfl (fun H locs hP hD hS => ?_)
        have he := Option.some.inj hf
        obtain ⟨e0, ht0⟩ := Prod.mk.inj he
        obtain ⟨e1, e2⟩ := Prod.mk.inj ht0
        exact hri _ _ _ rfl (congrArg (fun z => some (Value.int z)) e0.symm) dX7_lays_33 _ _ _ (by rw [e1, e2]) hP hD hS
    have hf := in_el hc71 hf
    by_cases hc85 : x1 = 2
    · have hf := ip_el hc85 hf
      refine sa_lit (e := ag2 0) hx hb hK hP 10 rfl (k := 2) (by rw [hc85]; decide) rfl dX7_lays_19 ?_
      obtain ⟨r86, hg87, hf⟩ := b1_el hf
      refine cc_V (w' := ((kX7 cs ama (.ref (are 0)) (.ref (are2 0)) (.ref (are3 0)) (.ref (ach 0)) (.ref (ata 0)) (.ref (asa 0)) Ma) ++ ((kX2 cs are (.ref (af 0)) (.ref (ac 0)) (.ref (atr 0)) (.ref (ase 0)) ) ++ ((kX1 cs af  Fo) ++ ((kSA cs asa (ag0 0) (ag1 0) (ag2 0) (ag3 0)) ++ ((kX5 cs ag0 (.ref (an0 0)) G0) ++ ((kJ40 cs an0 N0) ++ ((kX5 cs ag1 (.ref (an1 0)) G1) ++ ((kJ40 cs an1 N1) ++ ((kX5 cs ag2 (.ref (an2 0)) G2) ++ ((kJ40 cs an2 N2) ++ ((kX5 cs ag3 (.ref (an3 0)) G3) ++ ((kJ40 cs an3 N3)))))))))))))) (wr := ((kX7 cs ama (.ref (are 0)) (.ref (are2 0)) (.ref (are3 0)) (.ref (ach 0)) (.ref (ata 0)) (.ref (asa 0)) Ma) ++ ((kX2 cs are (.ref (af 0)) (.ref (ac 0)) (.ref (atr 0)) (.ref (ase 0)) ) ++ ((kX1 cs af  Fo) ++ ((kSA cs asa (ag0 0) (ag1 0) (ag2 0) (ag3 0)) ++ ((kX5 cs ag0 (.ref (an0 0)) G0) ++ ((kJ40 cs an0 N0) ++ ((kX5 cs ag1 (.ref (an1 0)) G1) ++ ((kJ40 cs an1 N1) ++ ((kJ40 cs an2 N2) ++ ((kX5 cs ag3 (.ref (an3 0)) G3) ++ ((kJ40 cs an3 N3))))))))))))) (st1 := [.int r86]) [] hx hb hml hown hu (tX5_isMissing l D cs ag2 an2 G2 r86 hg87) q860 q61 q857 q858 q859 pdX5_isMissing ⟨rfl, rfl, Nat.le_of_ble_eq_true rfl, Nat.le_of_ble_eq_true rfl⟩ hK hZ hP hD hS hA [15] [0, 1, 2, 3, 4, 5, 6, 7, 8, 9, 10, 11, 12, 13, 14, 16, 17, 18] [0, 1, 2, 3, 4, 5, 6, 7, 8, 9, 10, 11, 12, 13, 14, 18, 15, 16, 17] rfl rfl rfl rfl rfl rfl rfl rfl rfl rfl hl.1 rfl (Nat.le_of_ble_eq_true rfl) dX7_lays_20 rfl (fun H locs hP hD hS => ?_)
      refine lv_if_eq (tgt := 34) hx hb dX7_lays_23 (by decide) (fun hc88 => ?_) (fun hc88 => ?_)
      · have hf := ip_el hc88 hf
        refine lv_aload_n hx hb dX7_lays_34 rfl (lv_at hl 0 rfl) ?_
        refine lv_iload_n hx hb dX7_lays_35 rfl (lv_at hl 2 rfl) ?_
        obtain ⟨r89, hg90, hf⟩ := b1_el hf
        refine cc_V (w' := ((kX7 cs ama (.ref (are 0)) (.ref (are2 0)) (.ref (are3 0)) (.ref (ach 0)) (.ref (ata 0)) (.ref (asa 0)) Ma) ++ ((kX2 cs are (.ref (af 0)) (.ref (ac 0)) (.ref (atr 0)) (.ref (ase 0)) ) ++ ((kX1 cs af  Fo) ++ ((kSA cs asa (ag0 0) (ag1 0) (ag2 0) (ag3 0)) ++ ((kX5 cs ag0 (.ref (an0 0)) G0) ++ ((kJ40 cs an0 N0) ++ ((kX5 cs ag1 (.ref (an1 0)) G1) ++ ((kJ40 cs an1 N1) ++ ((kX5 cs ag2 (.ref (an2 0)) G2) ++ ((kJ40 cs an2 N2) ++ ((kX5 cs ag3 (.ref (an3 0)) G3) ++ ((kJ40 cs an3 N3)))))))))))))) (wr := ((kSA cs asa (ag0 0) (ag1 0) (ag2 0) (ag3 0)) ++ ((kX5 cs ag0 (.ref (an0 0)) G0) ++ ((kJ40 cs an0 N0) ++ ((kX5 cs ag1 (.ref (an1 0)) G1) ++ ((kJ40 cs an1 N1) ++ ((kX5 cs ag2 (.ref (an2 0)) G2) ++ ((kJ40 cs an2 N2) ++ ((kX5 cs ag3 (.ref (an3 0)) G3) ++ ((kJ40 cs an3 N3))))))))))) (st1 := [.int r89]) [.int x2] hx hb hml hown hu (tX7_isOne l D cs ama are are2 are3 ach ata asa af ac atr ase x2 Ma Fo r89 hg90) q352 q54 q349 q351 q1 pdX7_isOne ⟨rfl, rfl, Nat.le_of_ble_eq_true rfl, Nat.le_of_ble_eq_true rfl⟩ hK hZ hP hD hS hA [0, 1, 2, 3, 4, 5, 6, 7, 8, 9] [10, 11, 12, 13, 14, 15, 16, 17, 18] [9, 10, 11, 12, 13, 14, 15, 16, 17, 18, 0, 1, 2, 3, 4, 5, 6, 7, 8] rfl rfl rfl rfl rfl rfl rfl rfl rfl rfl hl.1 rfl (Nat.le_of_ble_eq_true rfl) dX7_lays_36 rfl (fun H locs hP hD hS => ?_)
        refine lv_if_ne (tgt := 49) hx hb dX7_lays_39 (by decide) (fun hc91 => ?_) (fun hc91 => ?_)
        · have hf := in_el hc91 hf
          refine lv_iconst (v := 0) hx hb dX7_lays_49 (by decide) ?_
          refine lv_istore_n (lv' := [(3, .int 0), (0, .ref (ama 0)), (1, .int x1), (2, .int x2)]) hx hb dX7_lays_50 rfl hl (by decide) rfl (fun ls hl => ?_)
          refine lv_aload_n hx hb dX7_lays_51 rfl (lv_at hl 1 rfl) ?_
          refine va_get (D := D) (ci := 7) (v := .ref (asa 0)) (C := RX7) (T := TX7) (N := 8) hx hb hu inX7 hown hK.1 hP 0 rfl rfl 5 (by decide) (hu _ q305) (fun _ h9 => h9) rfl dX7_lays_52 ?_
          refine lv_iload_n hx hb dX7_lays_55 rfl (lv_at hl 2 rfl) ?_
          refine sa_lit (e := ag2 0) hx hb hK hP 10 rfl (k := 2) (by rw [hc85]; decide) rfl dX7_lays_56 ?_
          refine va_get (D := D) (ci := 5) (v := .int (G2 0 1)) (C := RX5) (T := TX5) (N := 3) hx hb hu inX5 hown hK.1 hP 15 rfl rfl 1 (by decide) (hu _ q289) (fun _ h9 => h9) rfl dX7_lays_57 ?_
          refine lv_aload_n hx hb dX7_lays_60 rfl (lv_at hl 1 rfl) ?_
          refine va_get (D := D) (ci := 7) (v := .ref (are 0)) (C := RX7) (T := TX7) (N := 8) hx hb hu inX7 hown hK.1 hP 0 rfl rfl 0 (by decide) (hu _ q300) (fun _ h9 => h9) rfl dX7_lays_61 ?_
          refine va_get (D := D) (ci := 2) (v := .ref (af 0)) (C := RX2) (T := TX2) (N := 4) hx hb hu inX2 hown hK.1 hP 2 rfl rfl 0 (by decide) (hu _ q196) (fun _ h9 => h9) rfl dX7_lays_64 ?_
          refine va_get (D := D) (ci := 1) (v := .int (Fo 0 0)) (C := RX1) (T := TX1) (N := 9) hx hb hu inX1 hown hK.1 hP 3 rfl rfl 0 (by decide) (hu _ q93) (fun _ h9 => h9) rfl dX7_lays_67 ?_
          refine va_mmin hx hb (hml.trans hl.1.symm) hown (hu _ q879) (hu _ q759) (hu _ q68) (hu _ q760) (Nat.le_of_ble_eq_true rfl) (Nat.le_of_ble_eq_true rfl) (Nat.zero_le _) (Nat.zero_le _) dX7_lays_70 ?_
          obtain ⟨v92, hv92, hf⟩ := lt_el hf
          refine lv_tope hv92 ?_
          refine lv_istore (lv' := [(4, .int v92), (3, .int 0), (0, .ref (ama 0)), (1, .int x1), (2, .int x2)]) hx hb dX7_lays_73 hl (by decide) rfl (fun ls hl => ?_)
          refine lv_iconst (v := 0) hx hb dX7_lays_75 (by decide) ?_
          refine lv_istore (lv' := [(5, .int 0), (4, .int v92), (3, .int 0), (0, .ref (ama 0)), (1, .int x1), (2, .int x2)]) hx hb dX7_lays_76 hl (by decide) rfl (fun ls hl => ?_)
          exact h78 400 x1 x2 0 v92 0 Ma Fo _ _ _ hP hD hS (lv_sub hl [3, 4, 5, 2, 1, 0] rfl) hf
        · have hf := ip_el hc91 hf
          refine lv_aload_n hx hb dX7_lays_42 rfl (lv_at hl 0 rfl) ?_
          refine lv_ldc (v := (-1000000001)) hx hb hown (hu _ q335) dX7_lays_43 ?_
          obtain ⟨r93, Ma_94, hg95, hf⟩ := b2_el hf
          refine cc_V (w' := ((kX7 cs ama (.ref (are 0)) (.ref (are2 0)) (.ref (are3 0)) (.ref (ach 0)) (.ref (ata 0)) (.ref (asa 0)) Ma_94) ++ ((kX2 cs are (.ref (af 0)) (.ref (ac 0)) (.ref (atr 0)) (.ref (ase 0)) ) ++ ((kX1 cs af  Fo) ++ ((kSA cs asa (ag0 0) (ag1 0) (ag2 0) (ag3 0)) ++ ((kX5 cs ag0 (.ref (an0 0)) G0) ++ ((kJ40 cs an0 N0) ++ ((kX5 cs ag1 (.ref (an1 0)) G1) ++ ((kJ40 cs an1 N1) ++ ((kX5 cs ag2 (.ref (an2 0)) G2) ++ ((kJ40 cs an2 N2) ++ ((kX5 cs ag3 (.ref (an3 0)) G3) ++ ((kJ40 cs an3 N3)))))))))))))) (wr := ((kX2 cs are (.ref (af 0)) (.ref (ac 0)) (.ref (atr 0)) (.ref (ase 0)) ) ++ ((kX1 cs af  Fo) ++ ((kSA cs asa (ag0 0) (ag1 0) (ag2 0) (ag3 0)) ++ ((kX5 cs ag0 (.ref (an0 0)) G0) ++ ((kJ40 cs an0 N0) ++ ((kX5 cs ag1 (.ref (an1 0)) G1) ++ ((kJ40 cs an1 N1) ++ ((kX5 cs ag2 (.ref (an2 0)) G2) ++ ((kJ40 cs an2 N2) ++ ((kX5 cs ag3 (.ref (an3 0)) G3) ++ ((kJ40 cs an3 N3))))))))))))) (st1 := [.int r93]) [.int (-1000000001)] hx hb hml hown hu (tX7_finding l D cs ama are are2 are3 ach ata asa (-1000000001) Ma r93 Ma_94 hg95) q339 q54 q336 q338 q0 pdX7_finding ⟨rfl, rfl, Nat.le_of_ble_eq_true rfl, Nat.le_of_ble_eq_true rfl⟩ hK hZ hP hD hS hA [0, 1] [2, 3, 4, 5, 6, 7, 8, 9, 10, 11, 12, 13, 14, 15, 16, 17, 18] [17, 18, 0, 1, 2, 3, 4, 5, 6, 7, 8, 9, 10, 11, 12, 13, 14, 15, 16] rfl rfl rfl rfl rfl rfl rfl rfl rfl rfl hl.1 rfl (Nat.le_of_ble_eq_true rfl) dX7_lays_45 rfl (fun H locs hP hD hS => ?_)
          have he := Option.some.inj hf
          obtain ⟨e0, ht0⟩ := Prod.mk.inj he
          obtain ⟨e1, e2⟩ := Prod.mk.inj ht0
          exact hri _ _ _ rfl (congrArg (fun z => some (Value.int z)) e0.symm) dX7_lays_48 _ _ _ (by rw [e1, e2]) hP hD hS
      · have hf := in_el hc88 hf
        refine lv_aload_n hx hb dX7_lays_26 rfl (lv_at hl 0 rfl) ?_
        refine lv_ldcw (v := (-1000000006)) hx hb hown (hu _ q861) dX7_lays_27 ?_
        obtain ⟨r96, Ma_97, hg98, hf⟩ := b2_el hf
        refine cc_V (w' := ((kX7 cs ama (.ref (are 0)) (.ref (are2 0)) (.ref (are3 0)) (.ref (ach 0)) (.ref (ata 0)) (.ref (asa 0)) Ma_97) ++ ((kX2 cs are (.ref (af 0)) (.ref (ac 0)) (.ref (atr 0)) (.ref (ase 0)) ) ++ ((kX1 cs af  Fo) ++ ((kSA cs asa (ag0 0) (ag1 0) (ag2 0) (ag3 0)) ++ ((kX5 cs ag0 (.ref (an0 0)) G0) ++ ((kJ40 cs an0 N0) ++ ((kX5 cs ag1 (.ref (an1 0)) G1) ++ ((kJ40 cs an1 N1) ++ ((kX5 cs ag2 (.ref (an2 0)) G2) ++ ((kJ40 cs an2 N2) ++ ((kX5 cs ag3 (.ref (an3 0)) G3) ++ ((kJ40 cs an3 N3)))))))))))))) (wr := ((kX2 cs are (.ref (af 0)) (.ref (ac 0)) (.ref (atr 0)) (.ref (ase 0)) ) ++ ((kX1 cs af  Fo) ++ ((kSA cs asa (ag0 0) (ag1 0) (ag2 0) (ag3 0)) ++ ((kX5 cs ag0 (.ref (an0 0)) G0) ++ ((kJ40 cs an0 N0) ++ ((kX5 cs ag1 (.ref (an1 0)) G1) ++ ((kJ40 cs an1 N1) ++ ((kX5 cs ag2 (.ref (an2 0)) G2) ++ ((kJ40 cs an2 N2) ++ ((kX5 cs ag3 (.ref (an3 0)) G3) ++ ((kJ40 cs an3 N3))))))))))))) (st1 := [.int r96]) [.int (-1000000006)] hx hb hml hown hu (tX7_finding l D cs ama are are2 are3 ach ata asa (-1000000006) Ma r96 Ma_97 hg98) q339 q54 q336 q338 q0 pdX7_finding ⟨rfl, rfl, Nat.le_of_ble_eq_true rfl, Nat.le_of_ble_eq_true rfl⟩ hK hZ hP hD hS hA [0, 1] [2, 3, 4, 5, 6, 7, 8, 9, 10, 11, 12, 13, 14, 15, 16, 17, 18] [17, 18, 0, 1, 2, 3, 4, 5, 6, 7, 8, 9, 10, 11, 12, 13, 14, 15, 16] rfl rfl rfl rfl rfl rfl rfl rfl rfl rfl hl.1 rfl (Nat.le_of_ble_eq_true rfl) dX7_lays_30 rfl (fun H locs hP hD hS => ?_)
        have he := Option.some.inj hf
        obtain ⟨e0, ht0⟩ := Prod.mk.inj he
        obtain ⟨e1, e2⟩ := Prod.mk.inj ht0
        exact hri _ _ _ rfl (congrArg (fun z => some (Value.int z)) e0.symm) dX7_lays_33 _ _ _ (by rw [e1, e2]) hP hD hS
    have hf := in_el hc85 hf
    by_cases hc99 : x1 = 3
    · have hf := ip_el hc99 hf
      refine sa_lit (e := ag3 0) hx hb hK hP 10 rfl (k := 3) (by rw [hc99]; decide) rfl dX7_lays_19 ?_
      obtain ⟨r100, hg101, hf⟩ := b1_el hf
      refine cc_V (w' := ((kX7 cs ama (.ref (are 0)) (.ref (are2 0)) (.ref (are3 0)) (.ref (ach 0)) (.ref (ata 0)) (.ref (asa 0)) Ma) ++ ((kX2 cs are (.ref (af 0)) (.ref (ac 0)) (.ref (atr 0)) (.ref (ase 0)) ) ++ ((kX1 cs af  Fo) ++ ((kSA cs asa (ag0 0) (ag1 0) (ag2 0) (ag3 0)) ++ ((kX5 cs ag0 (.ref (an0 0)) G0) ++ ((kJ40 cs an0 N0) ++ ((kX5 cs ag1 (.ref (an1 0)) G1) ++ ((kJ40 cs an1 N1) ++ ((kX5 cs ag2 (.ref (an2 0)) G2) ++ ((kJ40 cs an2 N2) ++ ((kX5 cs ag3 (.ref (an3 0)) G3) ++ ((kJ40 cs an3 N3)))))))))))))) (wr := ((kX7 cs ama (.ref (are 0)) (.ref (are2 0)) (.ref (are3 0)) (.ref (ach 0)) (.ref (ata 0)) (.ref (asa 0)) Ma) ++ ((kX2 cs are (.ref (af 0)) (.ref (ac 0)) (.ref (atr 0)) (.ref (ase 0)) ) ++ ((kX1 cs af  Fo) ++ ((kSA cs asa (ag0 0) (ag1 0) (ag2 0) (ag3 0)) ++ ((kX5 cs ag0 (.ref (an0 0)) G0) ++ ((kJ40 cs an0 N0) ++ ((kX5 cs ag1 (.ref (an1 0)) G1) ++ ((kJ40 cs an1 N1) ++ ((kX5 cs ag2 (.ref (an2 0)) G2) ++ ((kJ40 cs an2 N2) ++ ((kJ40 cs an3 N3))))))))))))) (st1 := [.int r100]) [] hx hb hml hown hu (tX5_isMissing l D cs ag3 an3 G3 r100 hg101) q860 q61 q857 q858 q859 pdX5_isMissing ⟨rfl, rfl, Nat.le_of_ble_eq_true rfl, Nat.le_of_ble_eq_true rfl⟩ hK hZ hP hD hS hA [17] [0, 1, 2, 3, 4, 5, 6, 7, 8, 9, 10, 11, 12, 13, 14, 15, 16, 18] [0, 1, 2, 3, 4, 5, 6, 7, 8, 9, 10, 11, 12, 13, 14, 15, 16, 18, 17] rfl rfl rfl rfl rfl rfl rfl rfl rfl rfl hl.1 rfl (Nat.le_of_ble_eq_true rfl) dX7_lays_20 rfl (fun H locs hP hD hS => ?_)
      refine lv_if_eq (tgt := 34) hx hb dX7_lays_23 (by decide) (fun hc102 => ?_) (fun hc102 => ?_)
      · have hf := ip_el hc102 hf
        refine lv_aload_n hx hb dX7_lays_34 rfl (lv_at hl 0 rfl) ?_
        refine lv_iload_n hx hb dX7_lays_35 rfl (lv_at hl 2 rfl) ?_
        obtain ⟨r103, hg104, hf⟩ := b1_el hf
        refine cc_V (w' := ((kX7 cs ama (.ref (are 0)) (.ref (are2 0)) (.ref (are3 0)) (.ref (ach 0)) (.ref (ata 0)) (.ref (asa 0)) Ma) ++ ((kX2 cs are (.ref (af 0)) (.ref (ac 0)) (.ref (atr 0)) (.ref (ase 0)) ) ++ ((kX1 cs af  Fo) ++ ((kSA cs asa (ag0 0) (ag1 0) (ag2 0) (ag3 0)) ++ ((kX5 cs ag0 (.ref (an0 0)) G0) ++ ((kJ40 cs an0 N0) ++ ((kX5 cs ag1 (.ref (an1 0)) G1) ++ ((kJ40 cs an1 N1) ++ ((kX5 cs ag2 (.ref (an2 0)) G2) ++ ((kJ40 cs an2 N2) ++ ((kX5 cs ag3 (.ref (an3 0)) G3) ++ ((kJ40 cs an3 N3)))))))))))))) (wr := ((kSA cs asa (ag0 0) (ag1 0) (ag2 0) (ag3 0)) ++ ((kX5 cs ag0 (.ref (an0 0)) G0) ++ ((kJ40 cs an0 N0) ++ ((kX5 cs ag1 (.ref (an1 0)) G1) ++ ((kJ40 cs an1 N1) ++ ((kX5 cs ag2 (.ref (an2 0)) G2) ++ ((kJ40 cs an2 N2) ++ ((kX5 cs ag3 (.ref (an3 0)) G3) ++ ((kJ40 cs an3 N3))))))))))) (st1 := [.int r103]) [.int x2] hx hb hml hown hu (tX7_isOne l D cs ama are are2 are3 ach ata asa af ac atr ase x2 Ma Fo r103 hg104) q352 q54 q349 q351 q1 pdX7_isOne ⟨rfl, rfl, Nat.le_of_ble_eq_true rfl, Nat.le_of_ble_eq_true rfl⟩ hK hZ hP hD hS hA [0, 1, 2, 3, 4, 5, 6, 7, 8, 9] [10, 11, 12, 13, 14, 15, 16, 17, 18] [9, 10, 11, 12, 13, 14, 15, 16, 17, 18, 0, 1, 2, 3, 4, 5, 6, 7, 8] rfl rfl rfl rfl rfl rfl rfl rfl rfl rfl hl.1 rfl (Nat.le_of_ble_eq_true rfl) dX7_lays_36 rfl (fun H locs hP hD hS => ?_)
        refine lv_if_ne (tgt := 49) hx hb dX7_lays_39 (by decide) (fun hc105 => ?_) (fun hc105 => ?_)
        · have hf := in_el hc105 hf
          refine lv_iconst (v := 0) hx hb dX7_lays_49 (by decide) ?_
          refine lv_istore_n (lv' := [(3, .int 0), (0, .ref (ama 0)), (1, .int x1), (2, .int x2)]) hx hb dX7_lays_50 rfl hl (by decide) rfl (fun ls hl => ?_)
          refine lv_aload_n hx hb dX7_lays_51 rfl (lv_at hl 1 rfl) ?_
          refine va_get (D := D) (ci := 7) (v := .ref (asa 0)) (C := RX7) (T := TX7) (N := 8) hx hb hu inX7 hown hK.1 hP 0 rfl rfl 5 (by decide) (hu _ q305) (fun _ h9 => h9) rfl dX7_lays_52 ?_
          refine lv_iload_n hx hb dX7_lays_55 rfl (lv_at hl 2 rfl) ?_
          refine sa_lit (e := ag3 0) hx hb hK hP 10 rfl (k := 3) (by rw [hc99]; decide) rfl dX7_lays_56 ?_
          refine va_get (D := D) (ci := 5) (v := .int (G3 0 1)) (C := RX5) (T := TX5) (N := 3) hx hb hu inX5 hown hK.1 hP 17 rfl rfl 1 (by decide) (hu _ q289) (fun _ h9 => h9) rfl dX7_lays_57 ?_
          refine lv_aload_n hx hb dX7_lays_60 rfl (lv_at hl 1 rfl) ?_
          refine va_get (D := D) (ci := 7) (v := .ref (are 0)) (C := RX7) (T := TX7) (N := 8) hx hb hu inX7 hown hK.1 hP 0 rfl rfl 0 (by decide) (hu _ q300) (fun _ h9 => h9) rfl dX7_lays_61 ?_
          refine va_get (D := D) (ci := 2) (v := .ref (af 0)) (C := RX2) (T := TX2) (N := 4) hx hb hu inX2 hown hK.1 hP 2 rfl rfl 0 (by decide) (hu _ q196) (fun _ h9 => h9) rfl dX7_lays_64 ?_
          refine va_get (D := D) (ci := 1) (v := .int (Fo 0 0)) (C := RX1) (T := TX1) (N := 9) hx hb hu inX1 hown hK.1 hP 3 rfl rfl 0 (by decide) (hu _ q93) (fun _ h9 => h9) rfl dX7_lays_67 ?_
          refine va_mmin hx hb (hml.trans hl.1.symm) hown (hu _ q879) (hu _ q759) (hu _ q68) (hu _ q760) (Nat.le_of_ble_eq_true rfl) (Nat.le_of_ble_eq_true rfl) (Nat.zero_le _) (Nat.zero_le _) dX7_lays_70 ?_
          obtain ⟨v106, hv106, hf⟩ := lt_el hf
          refine lv_tope hv106 ?_
          refine lv_istore (lv' := [(4, .int v106), (3, .int 0), (0, .ref (ama 0)), (1, .int x1), (2, .int x2)]) hx hb dX7_lays_73 hl (by decide) rfl (fun ls hl => ?_)
          refine lv_iconst (v := 0) hx hb dX7_lays_75 (by decide) ?_
          refine lv_istore (lv' := [(5, .int 0), (4, .int v106), (3, .int 0), (0, .ref (ama 0)), (1, .int x1), (2, .int x2)]) hx hb dX7_lays_76 hl (by decide) rfl (fun ls hl => ?_)
          exact h78 400 x1 x2 0 v106 0 Ma Fo _ _ _ hP hD hS (lv_sub hl [3, 4, 5, 2, 1, 0] rfl) hf
        · have hf := ip_el hc105 hf
          refine lv_aload_n hx hb dX7_lays_42 rfl (lv_at hl 0 rfl) ?_
          refine lv_ldc (v := (-1000000001)) hx hb hown (hu _ q335) dX7_lays_43 ?_
          obtain ⟨r107, Ma_108, hg109, hf⟩ := b2_el hf
          refine cc_V (w' := ((kX7 cs ama (.ref (are 0)) (.ref (are2 0)) (.ref (are3 0)) (.ref (ach 0)) (.ref (ata 0)) (.ref (asa 0)) Ma_108) ++ ((kX2 cs are (.ref (af 0)) (.ref (ac 0)) (.ref (atr 0)) (.ref (ase 0)) ) ++ ((kX1 cs af  Fo) ++ ((kSA cs asa (ag0 0) (ag1 0) (ag2 0) (ag3 0)) ++ ((kX5 cs ag0 (.ref (an0 0)) G0) ++ ((kJ40 cs an0 N0) ++ ((kX5 cs ag1 (.ref (an1 0)) G1) ++ ((kJ40 cs an1 N1) ++ ((kX5 cs ag2 (.ref (an2 0)) G2) ++ ((kJ40 cs an2 N2) ++ ((kX5 cs ag3 (.ref (an3 0)) G3) ++ ((kJ40 cs an3 N3)))))))))))))) (wr := ((kX2 cs are (.ref (af 0)) (.ref (ac 0)) (.ref (atr 0)) (.ref (ase 0)) ) ++ ((kX1 cs af  Fo) ++ ((kSA cs asa (ag0 0) (ag1 0) (ag2 0) (ag3 0)) ++ ((kX5 cs ag0 (.ref (an0 0)) G0) ++ ((kJ40 cs an0 N0) ++ ((kX5 cs ag1 (.ref (an1 0)) G1) ++ ((kJ40 cs an1 N1) ++ ((kX5 cs ag2 (.ref (an2 0)) G2) ++ ((kJ40 cs an2 N2) ++ ((kX5 cs ag3 (.ref (an3 0)) G3) ++ ((kJ40 cs an3 N3))))))))))))) (st1 := [.int r107]) [.int (-1000000001)] hx hb hml hown hu (tX7_finding l D cs ama are are2 are3 ach ata asa (-1000000001) Ma r107 Ma_108 hg109) q339 q54 q336 q338 q0 pdX7_finding ⟨rfl, rfl, Nat.le_of_ble_eq_true rfl, Nat.le_of_ble_eq_true rfl⟩ hK hZ hP hD hS hA [0, 1] [2, 3, 4, 5, 6, 7, 8, 9, 10, 11, 12, 13, 14, 15, 16, 17, 18] [17, 18, 0, 1, 2, 3, 4, 5, 6, 7, 8, 9, 10, 11, 12, 13, 14, 15, 16] rfl rfl rfl rfl rfl rfl rfl rfl rfl rfl hl.1 rfl (Nat.le_of_ble_eq_true rfl) dX7_lays_45 rfl (fun H locs hP hD hS => ?_)
          have he := Option.some.inj hf
          obtain ⟨e0, ht0⟩ := Prod.mk.inj he
          obtain ⟨e1, e2⟩ := Prod.mk.inj ht0
          exact hri _ _ _ rfl (congrArg (fun z => some (Value.int z)) e0.symm) dX7_lays_48 _ _ _ (by rw [e1, e2]) hP hD hS
      · have hf := in_el hc102 hf
        refine lv_aload_n hx hb dX7_lays_26 rfl (lv_at hl 0 rfl) ?_
        refine lv_ldcw (v := (-1000000006)) hx hb hown (hu _ q861) dX7_lays_27 ?_
        obtain ⟨r110, Ma_111, hg112, hf⟩ := b2_el hf
        refine cc_V (w' := ((kX7 cs ama (.ref (are 0)) (.ref (are2 0)) (.ref (are3 0)) (.ref (ach 0)) (.ref (ata 0)) (.ref (asa 0)) Ma_111) ++ ((kX2 cs are (.ref (af 0)) (.ref (ac 0)) (.ref (atr 0)) (.ref (ase 0)) ) ++ ((kX1 cs af  Fo) ++ ((kSA cs asa (ag0 0) (ag1 0) (ag2 0) (ag3 0)) ++ ((kX5 cs ag0 (.ref (an0 0)) G0) ++ ((kJ40 cs an0 N0) ++ ((kX5 cs ag1 (.ref (an1 0)) G1) ++ ((kJ40 cs an1 N1) ++ ((kX5 cs ag2 (.ref (an2 0)) G2) ++ ((kJ40 cs an2 N2) ++ ((kX5 cs ag3 (.ref (an3 0)) G3) ++ ((kJ40 cs an3 N3)))))))))))))) (wr := ((kX2 cs are (.ref (af 0)) (.ref (ac 0)) (.ref (atr 0)) (.ref (ase 0)) ) ++ ((kX1 cs af  Fo) ++ ((kSA cs asa (ag0 0) (ag1 0) (ag2 0) (ag3 0)) ++ ((kX5 cs ag0 (.ref (an0 0)) G0) ++ ((kJ40 cs an0 N0) ++ ((kX5 cs ag1 (.ref (an1 0)) G1) ++ ((kJ40 cs an1 N1) ++ ((kX5 cs ag2 (.ref (an2 0)) G2) ++ ((kJ40 cs an2 N2) ++ ((kX5 cs ag3 (.ref (an3 0)) G3) ++ ((kJ40 cs an3 N3))))))))))))) (st1 := [.int r110]) [.int (-1000000006)] hx hb hml hown hu (tX7_finding l D cs ama are are2 are3 ach ata asa (-1000000006) Ma r110 Ma_111 hg112) q339 q54 q336 q338 q0 pdX7_finding ⟨rfl, rfl, Nat.le_of_ble_eq_true rfl, Nat.le_of_ble_eq_true rfl⟩ hK hZ hP hD hS hA [0, 1] [2, 3, 4, 5, 6, 7, 8, 9, 10, 11, 12, 13, 14, 15, 16, 17, 18] [17, 18, 0, 1, 2, 3, 4, 5, 6, 7, 8, 9, 10, 11, 12, 13, 14, 15, 16] rfl rfl rfl rfl rfl rfl rfl rfl rfl rfl hl.1 rfl (Nat.le_of_ble_eq_true rfl) dX7_lays_30 rfl (fun H locs hP hD hS => ?_)
        have he := Option.some.inj hf
        obtain ⟨e0, ht0⟩ := Prod.mk.inj he
        obtain ⟨e1, e2⟩ := Prod.mk.inj ht0
        exact hri _ _ _ rfl (congrArg (fun z => some (Value.int z)) e0.symm) dX7_lays_33 _ _ _ (by rw [e1, e2]) hP hD hS
    have hf := in_el hc99 hf
    exact no_el hf
  · have hf := ip_el hc3 hf
    refine lv_aload_n hx hb dX7_lays_7 rfl (lv_at hl 0 rfl) ?_
    refine lv_ldc (v := (-1000000001)) hx hb hown (hu _ q335) dX7_lays_8 ?_
    obtain ⟨r113, Ma_114, hg115, hf⟩ := b2_el hf
    refine cc_V (w' := ((kX7 cs ama (.ref (are 0)) (.ref (are2 0)) (.ref (are3 0)) (.ref (ach 0)) (.ref (ata 0)) (.ref (asa 0)) Ma_114) ++ ((kX2 cs are (.ref (af 0)) (.ref (ac 0)) (.ref (atr 0)) (.ref (ase 0)) ) ++ ((kX1 cs af  Fo) ++ ((kSA cs asa (ag0 0) (ag1 0) (ag2 0) (ag3 0)) ++ ((kX5 cs ag0 (.ref (an0 0)) G0) ++ ((kJ40 cs an0 N0) ++ ((kX5 cs ag1 (.ref (an1 0)) G1) ++ ((kJ40 cs an1 N1) ++ ((kX5 cs ag2 (.ref (an2 0)) G2) ++ ((kJ40 cs an2 N2) ++ ((kX5 cs ag3 (.ref (an3 0)) G3) ++ ((kJ40 cs an3 N3)))))))))))))) (wr := ((kX2 cs are (.ref (af 0)) (.ref (ac 0)) (.ref (atr 0)) (.ref (ase 0)) ) ++ ((kX1 cs af  Fo) ++ ((kSA cs asa (ag0 0) (ag1 0) (ag2 0) (ag3 0)) ++ ((kX5 cs ag0 (.ref (an0 0)) G0) ++ ((kJ40 cs an0 N0) ++ ((kX5 cs ag1 (.ref (an1 0)) G1) ++ ((kJ40 cs an1 N1) ++ ((kX5 cs ag2 (.ref (an2 0)) G2) ++ ((kJ40 cs an2 N2) ++ ((kX5 cs ag3 (.ref (an3 0)) G3) ++ ((kJ40 cs an3 N3))))))))))))) (st1 := [.int r113]) [.int (-1000000001)] hx hb hml hown hu (tX7_finding l D cs ama are are2 are3 ach ata asa (-1000000001) Ma r113 Ma_114 hg115) q339 q54 q336 q338 q0 pdX7_finding ⟨rfl, rfl, Nat.le_of_ble_eq_true rfl, Nat.le_of_ble_eq_true rfl⟩ hK hZ hP hD hS hA [0, 1] [2, 3, 4, 5, 6, 7, 8, 9, 10, 11, 12, 13, 14, 15, 16, 17, 18] [17, 18, 0, 1, 2, 3, 4, 5, 6, 7, 8, 9, 10, 11, 12, 13, 14, 15, 16] rfl rfl rfl rfl rfl rfl rfl rfl rfl rfl hl.1 rfl (Nat.le_of_ble_eq_true rfl) dX7_lays_10 rfl (fun H locs hP hD hS => ?_)
    have he := Option.some.inj hf
    obtain ⟨e0, ht0⟩ := Prod.mk.inj he
    obtain ⟨e1, e2⟩ := Prod.mk.inj ht0
    exact hri _ _ _ rfl (congrArg (fun z => some (Value.int z)) e0.symm) dX7_lays_13 _ _ _ (by rw [e1, e2]) hP hD hS

def fX7_read_43_s (Fo : ST) (Se : ST) (Ch : ST) (G0 : ST) (N0 : LT) (G1 : ST) (N1 : LT) (G2 : ST) (N2 : LT) (G3 : ST) (N3 : LT) (k43 : Int32 → Int32 → ST → ST → ST → ST → Option (Int32 × ST × ST × ST × ST)) (y1 : Int32) (y2 : Int32) (Ma : ST) (Sc : ST) (Tr : ST) (Us : ST) : Option (Int32 × ST × ST × ST × ST) :=
  (if y1 = 0 then (if (G0 0 1) ≤ y2 then some (0, Ma, Sc, Tr, Us) else dc_ck y2 40 (dc_b4 (fX4_next 1 Us Fo Sc Tr) (fun r13 Us_14 Sc_15 Tr_16 => (if (lg_cmp (N0 (Int32.toNatClampNeg y2)) (r13.toInt64)) = 0 then dc_lt (y2 + 1) (fun v19 => k43 y1 v19 Ma Sc_15 Tr_16 Us_14) else some ((1 + y2), Ma, Sc_15, Tr_16, Us_14))))) else if y1 = 1 then (if (G1 0 1) ≤ y2 then some (0, Ma, Sc, Tr, Us) else dc_ck y2 40 (dc_b4 (fX4_next 1 Us Fo Sc Tr) (fun r23 Us_24 Sc_25 Tr_26 => (if (lg_cmp (N1 (Int32.toNatClampNeg y2)) (r23.toInt64)) = 0 then dc_lt (y2 + 1) (fun v29 => k43 y1 v29 Ma Sc_25 Tr_26 Us_24) else some ((1 + y2), Ma, Sc_25, Tr_26, Us_24))))) else if y1 = 2 then (if (G2 0 1) ≤ y2 then some (0, Ma, Sc, Tr, Us) else dc_ck y2 40 (dc_b4 (fX4_next 1 Us Fo Sc Tr) (fun r33 Us_34 Sc_35 Tr_36 => (if (lg_cmp (N2 (Int32.toNatClampNeg y2)) (r33.toInt64)) = 0 then dc_lt (y2 + 1) (fun v39 => k43 y1 v39 Ma Sc_35 Tr_36 Us_34) else some ((1 + y2), Ma, Sc_35, Tr_36, Us_34))))) else if y1 = 3 then (if (G3 0 1) ≤ y2 then some (0, Ma, Sc, Tr, Us) else dc_ck y2 40 (dc_b4 (fX4_next 1 Us Fo Sc Tr) (fun r43 Us_44 Sc_45 Tr_46 => (if (lg_cmp (N3 (Int32.toNatClampNeg y2)) (r43.toInt64)) = 0 then dc_lt (y2 + 1) (fun v49 => k43 y1 v49 Ma Sc_45 Tr_46 Us_44) else some ((1 + y2), Ma, Sc_45, Tr_46, Us_44))))) else none)
def fX7_read_43 (Fo : ST) (Se : ST) (Ch : ST) (G0 : ST) (N0 : LT) (G1 : ST) (N1 : LT) (G2 : ST) (N2 : LT) (G3 : ST) (N3 : LT) : Nat → Int32 → Int32 → ST → ST → ST → ST → Option (Int32 × ST × ST × ST × ST)
  | 0 => fun _ _ _ _ _ _ => none
  | n + 1 => fX7_read_43_s Fo Se Ch G0 N0 G1 N1 G2 N2 G3 N3 (fX7_read_43 Fo Se Ch G0 N0 G1 N1 G2 N2 G3 N3 n)
def fX7_read (x1 : Int32) (Ma : ST) (Fo : ST) (Sc : ST) (Se : ST) (Tr : ST) (Ch : ST) (Us : ST) (G0 : ST) (N0 : LT) (G1 : ST) (N1 : LT) (G2 : ST) (N2 : LT) (G3 : ST) (N3 : LT) : Option (Int32 × ST × ST × ST × ST) :=
  dc_b1 (fX7_isSheet x1) (fun r1 => (if r1 = 0 then dc_b2 (fX7_finding (-1000000001) Ma) (fun r80 Ma_81 => some (r80, Ma_81, Sc, Tr, Us)) else (if x1 = 0 then dc_b1 (fX5_isMissing G0) (fun r5 => (if r5 = 0 then dc_b1 (fX0_start Ch Se Us) (fun Us_8 => fX7_read_43 Fo Se Ch G0 N0 G1 N1 G2 N2 G3 N3 400 x1 0 Ma Sc Tr Us_8) else dc_b2 (fX7_finding (-1000000006) Ma) (fun r50 Ma_51 => some (r50, Ma_51, Sc, Tr, Us)))) else if x1 = 1 then dc_b1 (fX5_isMissing G1) (fun r54 => (if r54 = 0 then dc_b1 (fX0_start Ch Se Us) (fun Us_57 => fX7_read_43 Fo Se Ch G0 N0 G1 N1 G2 N2 G3 N3 400 x1 0 Ma Sc Tr Us_57) else dc_b2 (fX7_finding (-1000000006) Ma) (fun r59 Ma_60 => some (r59, Ma_60, Sc, Tr, Us)))) else if x1 = 2 then dc_b1 (fX5_isMissing G2) (fun r63 => (if r63 = 0 then dc_b1 (fX0_start Ch Se Us) (fun Us_66 => fX7_read_43 Fo Se Ch G0 N0 G1 N1 G2 N2 G3 N3 400 x1 0 Ma Sc Tr Us_66) else dc_b2 (fX7_finding (-1000000006) Ma) (fun r68 Ma_69 => some (r68, Ma_69, Sc, Tr, Us)))) else if x1 = 3 then dc_b1 (fX5_isMissing G3) (fun r72 => (if r72 = 0 then dc_b1 (fX0_start Ch Se Us) (fun Us_75 => fX7_read_43 Fo Se Ch G0 N0 G1 N1 G2 N2 G3 N3 400 x1 0 Ma Sc Tr Us_75) else dc_b2 (fX7_finding (-1000000006) Ma) (fun r77 Ma_78 => some (r77, Ma_78, Sc, Tr, Us)))) else none)))
abbrev rmX7_read : Room := { frames := 10, cells := 0, slots := 0, locals := 256 }
set_option maxRecDepth 100000 in
set_option maxHeartbeats 4000000 in
theorem tX7_read (l : Launch) (D : va_G) (cs : Nat → ClassId) (ama : Nat → Nat) (are : Nat → Nat) (are2 : Nat → Nat) (are3 : Nat → Nat) (ach : Nat → Nat) (ata : Nat → Nat) (asa : Nat → Nat) (af : Nat → Nat) (ac : Nat → Nat) (atr : Nat → Nat) (ase : Nat → Nat) (aus : Nat → Nat) (ag0 : Nat → Nat) (ag1 : Nat → Nat) (ag2 : Nat → Nat) (ag3 : Nat → Nat) (an0 : Nat → Nat) (an1 : Nat → Nat) (an2 : Nat → Nat) (an3 : Nat → Nat) (x1 : Int32) (Ma : ST) (Fo : ST) (Sc : ST) (Se : ST) (Tr : ST) (Ch : ST) (Us : ST) (G0 : ST) (N0 : LT) (G1 : ST) (N1 : LT) (G2 : ST) (N2 : LT) (G3 : ST) (N3 : LT) (r0 : Int32) (Maz : ST) (Scz : ST) (Trz : ST) (Usz : ST) (hf : fX7_read x1 Ma Fo Sc Se Tr Ch Us G0 N0 G1 N1 G2 N2 G3 N3 = some (r0, Maz, Scz, Trz, Usz)) : CG l yX7_read (wsm yX7_read cX7_read 3 (some .int)) rmX7_read D cs [.ref (ama 0), .int x1] (some (.int r0)) ((kX7 cs ama (.ref (are 0)) (.ref (are2 0)) (.ref (are3 0)) (.ref (ach 0)) (.ref (ata 0)) (.ref (asa 0)) Ma) ++ ((kX2 cs are (.ref (af 0)) (.ref (ac 0)) (.ref (atr 0)) (.ref (ase 0)) ) ++ ((kX1 cs af  Fo) ++ ((kX3 cs ac  Sc) ++ ((kX4 cs ase (.ref (af 0)) (.ref (ac 0)) (.ref (atr 0)) Se) ++ ((kX4 cs atr (.ref (af 0)) (.ref (ac 0)) .null Tr) ++ ((kX0 cs ach (.ref (are 0)) (.ref (aus 0)) Ch) ++ ((kX4 cs aus (.ref (af 0)) (.ref (ac 0)) (.ref (atr 0)) Us) ++ ((kSA cs asa (ag0 0) (ag1 0) (ag2 0) (ag3 0)) ++ ((kX5 cs ag0 (.ref (an0 0)) G0) ++ ((kJ40 cs an0 N0) ++ ((kX5 cs ag1 (.ref (an1 0)) G1) ++ ((kJ40 cs an1 N1) ++ ((kX5 cs ag2 (.ref (an2 0)) G2) ++ ((kJ40 cs an2 N2) ++ ((kX5 cs ag3 (.ref (an3 0)) G3) ++ ((kJ40 cs an3 N3)))))))))))))))))) ((kX7 cs ama (.ref (are 0)) (.ref (are2 0)) (.ref (are3 0)) (.ref (ach 0)) (.ref (ata 0)) (.ref (asa 0)) Maz) ++ ((kX2 cs are (.ref (af 0)) (.ref (ac 0)) (.ref (atr 0)) (.ref (ase 0)) ) ++ ((kX1 cs af  Fo) ++ ((kX3 cs ac  Scz) ++ ((kX4 cs ase (.ref (af 0)) (.ref (ac 0)) (.ref (atr 0)) Se) ++ ((kX4 cs atr (.ref (af 0)) (.ref (ac 0)) .null Trz) ++ ((kX0 cs ach (.ref (are 0)) (.ref (aus 0)) Ch) ++ ((kX4 cs aus (.ref (af 0)) (.ref (ac 0)) (.ref (atr 0)) Usz) ++ ((kSA cs asa (ag0 0) (ag1 0) (ag2 0) (ag3 0)) ++ ((kX5 cs ag0 (.ref (an0 0)) G0) ++ ((kJ40 cs an0 N0) ++ ((kX5 cs ag1 (.ref (an1 0)) G1) ++ ((kJ40 cs an1 N1) ++ ((kX5 cs ag2 (.ref (an2 0)) G2) ++ ((kJ40 cs an2 N2) ++ ((kX5 cs ag3 (.ref (an3 0)) G3) ++ ((kJ40 cs an3 N3)))))))))))))))))) := by
  refine CG.intro (by decide) (Nat.le_of_ble_eq_true rfl) ?_
  intro p e s m below meth c A Q hx hb hml hown hu hK hZ hP0 hD0 hS0 hA hri hrz hrl hrv hra ls0 hl0
  have hs43 : ∀ (k43 : Int32 → Int32 → ST → ST → ST → ST → Option (Int32 × ST × ST × ST × ST)), (∀ (y1 : Int32) (y2 : Int32) (Ma : ST) (Sc : ST) (Tr : ST) (Us : ST) (H : Heap) (locs : List Loc) (ls : Array Slot), va_P D vwCl ((kX7 cs ama (.ref (are 0)) (.ref (are2 0)) (.ref (are3 0)) (.ref (ach 0)) (.ref (ata 0)) (.ref (asa 0)) Ma) ++ ((kX2 cs are (.ref (af 0)) (.ref (ac 0)) (.ref (atr 0)) (.ref (ase 0)) ) ++ ((kX1 cs af  Fo) ++ ((kX3 cs ac  Sc) ++ ((kX4 cs ase (.ref (af 0)) (.ref (ac 0)) (.ref (atr 0)) Se) ++ ((kX4 cs atr (.ref (af 0)) (.ref (ac 0)) .null Tr) ++ ((kX0 cs ach (.ref (are 0)) (.ref (aus 0)) Ch) ++ ((kX4 cs aus (.ref (af 0)) (.ref (ac 0)) (.ref (atr 0)) Us) ++ ((kSA cs asa (ag0 0) (ag1 0) (ag2 0) (ag3 0)) ++ ((kX5 cs ag0 (.ref (an0 0)) G0) ++ ((kJ40 cs an0 N0) ++ ((kX5 cs ag1 (.ref (an1 0)) G1) ++ ((kJ40 cs an1 N1) ++ ((kX5 cs ag2 (.ref (an2 0)) G2) ++ ((kJ40 cs an2 N2) ++ ((kX5 cs ag3 (.ref (an3 0)) G3) ++ ((kJ40 cs an3 N3)))))))))))))))))) H → va_D A ((kX7 cs ama (.ref (are 0)) (.ref (are2 0)) (.ref (are3 0)) (.ref (ach 0)) (.ref (ata 0)) (.ref (asa 0)) Ma) ++ ((kX2 cs are (.ref (af 0)) (.ref (ac 0)) (.ref (atr 0)) (.ref (ase 0)) ) ++ ((kX1 cs af  Fo) ++ ((kX3 cs ac  Sc) ++ ((kX4 cs ase (.ref (af 0)) (.ref (ac 0)) (.ref (atr 0)) Se) ++ ((kX4 cs atr (.ref (af 0)) (.ref (ac 0)) .null Tr) ++ ((kX0 cs ach (.ref (are 0)) (.ref (aus 0)) Ch) ++ ((kX4 cs aus (.ref (af 0)) (.ref (ac 0)) (.ref (atr 0)) Us) ++ ((kSA cs asa (ag0 0) (ag1 0) (ag2 0) (ag3 0)) ++ ((kX5 cs ag0 (.ref (an0 0)) G0) ++ ((kJ40 cs an0 N0) ++ ((kX5 cs ag1 (.ref (an1 0)) G1) ++ ((kJ40 cs an1 N1) ++ ((kX5 cs ag2 (.ref (an2 0)) G2) ++ ((kJ40 cs an2 N2) ++ ((kX5 cs ag3 (.ref (an3 0)) G3) ++ ((kJ40 cs an3 N3)))))))))))))))))) → va_S A s.heap H locs → lv_has ls 3 [(0, .ref (ama 0)), (1, .int y1), (2, .int y2)] → k43 y1 y2 Ma Sc Tr Us = some (r0, Maz, Scz, Trz, Usz) → W p l e rmX7_read s m [.ref (ama 0), .int x1].toArray below meth c H locs 0 0 Q (F0 m 43 ls [])) → ∀ (y1 : Int32) (y2 : Int32) (Ma : ST) (Sc : ST) (Tr : ST) (Us : ST) (H : Heap) (locs : List Loc) (ls : Array Slot), va_P D vwCl ((kX7 cs ama (.ref (are 0)) (.ref (are2 0)) (.ref (are3 0)) (.ref (ach 0)) (.ref (ata 0)) (.ref (asa 0)) Ma) ++ ((kX2 cs are (.ref (af 0)) (.ref (ac 0)) (.ref (atr 0)) (.ref (ase 0)) ) ++ ((kX1 cs af  Fo) ++ ((kX3 cs ac  Sc) ++ ((kX4 cs ase (.ref (af 0)) (.ref (ac 0)) (.ref (atr 0)) Se) ++ ((kX4 cs atr (.ref (af 0)) (.ref (ac 0)) .null Tr) ++ ((kX0 cs ach (.ref (are 0)) (.ref (aus 0)) Ch) ++ ((kX4 cs aus (.ref (af 0)) (.ref (ac 0)) (.ref (atr 0)) Us) ++ ((kSA cs asa (ag0 0) (ag1 0) (ag2 0) (ag3 0)) ++ ((kX5 cs ag0 (.ref (an0 0)) G0) ++ ((kJ40 cs an0 N0) ++ ((kX5 cs ag1 (.ref (an1 0)) G1) ++ ((kJ40 cs an1 N1) ++ ((kX5 cs ag2 (.ref (an2 0)) G2) ++ ((kJ40 cs an2 N2) ++ ((kX5 cs ag3 (.ref (an3 0)) G3) ++ ((kJ40 cs an3 N3)))))))))))))))))) H → va_D A ((kX7 cs ama (.ref (are 0)) (.ref (are2 0)) (.ref (are3 0)) (.ref (ach 0)) (.ref (ata 0)) (.ref (asa 0)) Ma) ++ ((kX2 cs are (.ref (af 0)) (.ref (ac 0)) (.ref (atr 0)) (.ref (ase 0)) ) ++ ((kX1 cs af  Fo) ++ ((kX3 cs ac  Sc) ++ ((kX4 cs ase (.ref (af 0)) (.ref (ac 0)) (.ref (atr 0)) Se) ++ ((kX4 cs atr (.ref (af 0)) (.ref (ac 0)) .null Tr) ++ ((kX0 cs ach (.ref (are 0)) (.ref (aus 0)) Ch) ++ ((kX4 cs aus (.ref (af 0)) (.ref (ac 0)) (.ref (atr 0)) Us) ++ ((kSA cs asa (ag0 0) (ag1 0) (ag2 0) (ag3 0)) ++ ((kX5 cs ag0 (.ref (an0 0)) G0) ++ ((kJ40 cs an0 N0) ++ ((kX5 cs ag1 (.ref (an1 0)) G1) ++ ((kJ40 cs an1 N1) ++ ((kX5 cs ag2 (.ref (an2 0)) G2) ++ ((kJ40 cs an2 N2) ++ ((kX5 cs ag3 (.ref (an3 0)) G3) ++ ((kJ40 cs an3 N3)))))))))))))))))) → va_S A s.heap H locs → lv_has ls 3 [(0, .ref (ama 0)), (1, .int y1), (2, .int y2)] → fX7_read_43_s Fo Se Ch G0 N0 G1 N1 G2 N2 G3 N3 k43 y1 y2 Ma Sc Tr Us = some (r0, Maz, Scz, Trz, Usz) → W p l e rmX7_read s m [.ref (ama 0), .int x1].toArray below meth c H locs 0 0 Q (F0 m 43 ls []) := by
    intro k43 hk43 y1 y2 Ma Sc Tr Us H locs ls hP hD hS hl hf
    unfold fX7_read_43_s at hf
    refine lv_iload_n hx hb dX7_read_43 rfl (lv_at hl 2 rfl) ?_
    refine lv_aload_n hx hb dX7_read_44 rfl (lv_at hl 0 rfl) ?_
    refine va_get (D := D) (ci := 7) (v := .ref (asa 0)) (C := RX7) (T := TX7) (N := 8) hx hb hu inX7 hown hK.1 hP 0 rfl rfl 5 (by decide) (hu _ q305) (fun _ h9 => h9) rfl dX7_read_45 ?_
    refine lv_iload_n hx hb dX7_read_48 rfl (lv_at hl 1 rfl) ?_
    by_cases hc10 : y1 = 0
    · have hf := ip_el hc10 hf
      refine sa_lit (e := ag0 0) hx hb hK hP 30 rfl (k := 0) (by rw [hc10]; decide) rfl dX7_read_49 ?_
      refine va_get (D := D) (ci := 5) (v := .int (G0 0 1)) (C := RX5) (T := TX5) (N := 3) hx hb hu inX5 hown hK.1 hP 31 rfl rfl 1 (by decide) (hu _ q289) (fun _ h9 => h9) rfl dX7_read_50 ?_
      refine lv_icmp_ge (tgt := 93) hx hb dX7_read_53 (by decide) (fun hc11 => ?_) (fun hc11 => ?_)
      · have hf := ip_el hc11 hf
        refine lv_iconst (v := 0) hx hb dX7_read_93 (by decide) ?_
        have he := Option.some.inj hf
        obtain ⟨e0, ht0⟩ := Prod.mk.inj he
        obtain ⟨e1, ht1⟩ := Prod.mk.inj ht0
        obtain ⟨e2, ht2⟩ := Prod.mk.inj ht1
        obtain ⟨e3, e4⟩ := Prod.mk.inj ht2
        exact hri _ _ _ rfl (congrArg (fun z => some (Value.int z)) e0.symm) dX7_read_94 _ _ _ (by rw [e1, e2, e3, e4]) hP hD hS
      · have hf := in_el hc11 hf
        refine lv_aload_n hx hb dX7_read_56 rfl (lv_at hl 0 rfl) ?_
        refine va_get (D := D) (ci := 7) (v := .ref (asa 0)) (C := RX7) (T := TX7) (N := 8) hx hb hu inX7 hown hK.1 hP 0 rfl rfl 5 (by decide) (hu _ q305) (fun _ h9 => h9) rfl dX7_read_57 ?_
        refine lv_iload_n hx hb dX7_read_60 rfl (lv_at hl 1 rfl) ?_
        refine sa_lit (e := ag0 0) hx hb hK hP 30 rfl (k := 0) (by rw [hc10]; decide) rfl dX7_read_61 ?_
        refine va_get (D := D) (ci := 5) (v := .ref (an0 0)) (C := RX5) (T := TX5) (N := 3) hx hb hu inX5 hown hK.1 hP 31 rfl rfl 2 (by decide) (hu _ q291) (fun _ h9 => h9) rfl dX7_read_62 ?_
        refine lv_iload_n hx hb dX7_read_65 rfl (lv_at hl 2 rfl) ?_
        obtain ⟨hi12, hf⟩ := ck_el hf
        refine va_lald hx hb hK.1 hP 32 1 rfl rfl hi12 dX7_read_66 ?_
        refine lv_aload_n hx hb dX7_read_67 rfl (lv_at hl 0 rfl) ?_
        refine va_get (D := D) (ci := 7) (v := .ref (ach 0)) (C := RX7) (T := TX7) (N := 8) hx hb hu inX7 hown hK.1 hP 0 rfl rfl 3 (by decide) (hu _ q303) (fun _ h9 => h9) rfl dX7_read_68 ?_
        refine va_get (D := D) (ci := 0) (v := .ref (aus 0)) (C := RX0) (T := TX0) (N := 8) hx hb hu inX0 hown hK.1 hP 21 rfl rfl 1 (by decide) (hu _ q224) (fun _ h9 => h9) rfl dX7_read_71 ?_
        refine lv_iconst (v := 1) hx hb dX7_read_74 (by decide) ?_
        obtain ⟨r13, Us_14, Sc_15, Tr_16, hg17, hf⟩ := b4_el hf
        refine cc_V (w' := ((kX7 cs ama (.ref (are 0)) (.ref (are2 0)) (.ref (are3 0)) (.ref (ach 0)) (.ref (ata 0)) (.ref (asa 0)) Ma) ++ ((kX2 cs are (.ref (af 0)) (.ref (ac 0)) (.ref (atr 0)) (.ref (ase 0)) ) ++ ((kX1 cs af  Fo) ++ ((kX3 cs ac  Sc_15) ++ ((kX4 cs ase (.ref (af 0)) (.ref (ac 0)) (.ref (atr 0)) Se) ++ ((kX4 cs atr (.ref (af 0)) (.ref (ac 0)) .null Tr_16) ++ ((kX0 cs ach (.ref (are 0)) (.ref (aus 0)) Ch) ++ ((kX4 cs aus (.ref (af 0)) (.ref (ac 0)) (.ref (atr 0)) Us_14) ++ ((kSA cs asa (ag0 0) (ag1 0) (ag2 0) (ag3 0)) ++ ((kX5 cs ag0 (.ref (an0 0)) G0) ++ ((kJ40 cs an0 N0) ++ ((kX5 cs ag1 (.ref (an1 0)) G1) ++ ((kJ40 cs an1 N1) ++ ((kX5 cs ag2 (.ref (an2 0)) G2) ++ ((kJ40 cs an2 N2) ++ ((kX5 cs ag3 (.ref (an3 0)) G3) ++ ((kJ40 cs an3 N3))))))))))))))))))) (wr := ((kX7 cs ama (.ref (are 0)) (.ref (are2 0)) (.ref (are3 0)) (.ref (ach 0)) (.ref (ata 0)) (.ref (asa 0)) Ma) ++ ((kX2 cs are (.ref (af 0)) (.ref (ac 0)) (.ref (atr 0)) (.ref (ase 0)) ) ++ ((kX4 cs ase (.ref (af 0)) (.ref (ac 0)) (.ref (atr 0)) Se) ++ ((kX0 cs ach (.ref (are 0)) (.ref (aus 0)) Ch) ++ ((kSA cs asa (ag0 0) (ag1 0) (ag2 0) (ag3 0)) ++ ((kX5 cs ag0 (.ref (an0 0)) G0) ++ ((kJ40 cs an0 N0) ++ ((kX5 cs ag1 (.ref (an1 0)) G1) ++ ((kJ40 cs an1 N1) ++ ((kX5 cs ag2 (.ref (an2 0)) G2) ++ ((kJ40 cs an2 N2) ++ ((kX5 cs ag3 (.ref (an3 0)) G3) ++ ((kJ40 cs an3 N3))))))))))))))) (st1 := [.int r13, .long (N0 (Int32.toNatClampNeg y2))]) [.int 1] hx hb hml hown hu (tX4_next l D cs aus af ac atr 1 Us Fo Sc Tr r13 Us_14 Sc_15 Tr_16 hg17) q439 q58 q528 q437 q438 pdX4_next ⟨rfl, rfl, Nat.le_of_ble_eq_true rfl, Nat.le_of_ble_eq_true rfl⟩ hK hZ hP hD hS hA [26, 27, 28, 29, 3, 4, 5, 6, 7, 8, 9, 10, 11, 12, 17, 18, 19, 20] [0, 1, 2, 13, 14, 15, 16, 21, 22, 23, 24, 25, 30, 31, 32, 33, 34, 35, 36, 37, 38] [0, 1, 2, 25, 26, 27, 28, 29, 30, 31, 32, 33, 34, 3, 4, 5, 6, 35, 36, 37, 38, 7, 8, 9, 10, 11, 21, 22, 23, 24, 12, 13, 14, 15, 16, 17, 18, 19, 20] rfl rfl rfl rfl rfl rfl rfl rfl rfl rfl hl.1 rfl (Nat.le_of_ble_eq_true rfl) dX7_read_75 rfl (fun H locs hP hD hS => ?_)
        refine lv_i2l (v := (r13.toInt64)) hx hb dX7_read_78 rfl ?_
        refine W.lcmp hx hb dX7_read_79 ?_
        refine lv_if_eq (tgt := 87) hx hb dX7_read_80 (by decide) (fun hc18 => ?_) (fun hc18 => ?_)
        · have hf := ip_el hc18 hf
          obtain ⟨v19, hv19, hf⟩ := lt_el hf
          refine lv_iinc (v := v19) (lv' := [(2, .int v19), (0, .ref (ama 0)), (1, .int y1)]) hx hb dX7_read_87 hl (k := 2) rfl (by rw [hv19]; rfl) (by decide) rfl (fun ls hl => ?_)
          refine lv_goto (tgt := 43) hx hb dX7_read_90 (by decide) ?_
          exact hk43 y1 v19 Ma Sc_15 Tr_16 Us_14 _ _ _ hP hD hS (lv_sub hl [1, 2, 0] rfl) hf
        · have hf := in_el hc18 hf
          refine lv_iconst (v := 1) hx hb dX7_read_83 (by decide) ?_
          refine lv_iload_n hx hb dX7_read_84 rfl (lv_at hl 2 rfl) ?_
          refine lv_iadd hx hb dX7_read_85 ?_
          have he := Option.some.inj hf
          obtain ⟨e0, ht0⟩ := Prod.mk.inj he
          obtain ⟨e1, ht1⟩ := Prod.mk.inj ht0
          obtain ⟨e2, ht2⟩ := Prod.mk.inj ht1
          obtain ⟨e3, e4⟩ := Prod.mk.inj ht2
          exact hri _ _ _ rfl (congrArg (fun z => some (Value.int z)) e0.symm) dX7_read_86 _ _ _ (by rw [e1, e2, e3, e4]) hP hD hS
    have hf := in_el hc10 hf
    by_cases hc20 : y1 = 1
    · have hf := ip_el hc20 hf
      refine sa_lit (e := ag1 0) hx hb hK hP 30 rfl (k := 1) (by rw [hc20]; decide) rfl dX7_read_49 ?_
      refine va_get (D := D) (ci := 5) (v := .int (G1 0 1)) (C := RX5) (T := TX5) (N := 3) hx hb hu inX5 hown hK.1 hP 33 rfl rfl 1 (by decide) (hu _ q289) (fun _ h9 => h9) rfl dX7_read_50 ?_
      refine lv_icmp_ge (tgt := 93) hx hb dX7_read_53 (by decide) (fun hc21 => ?_) (fun hc21 => ?_)
      · have hf := ip_el hc21 hf
        refine lv_iconst (v := 0) hx hb dX7_read_93 (by decide) ?_
        have he := Option.some.inj hf
        obtain ⟨e0, ht0⟩ := Prod.mk.inj he
        obtain ⟨e1, ht1⟩ := Prod.mk.inj ht0
        obtain ⟨e2, ht2⟩ := Prod.mk.inj ht1
        obtain ⟨e3, e4⟩ := Prod.mk.inj ht2
        exact hri _ _ _ rfl (congrArg (fun z => some (Value.int z)) e0.symm) dX7_read_94 _ _ _ (by rw [e1, e2, e3, e4]) hP hD hS
      · have hf := in_el hc21 hf
        refine lv_aload_n hx hb dX7_read_56 rfl (lv_at hl 0 rfl) ?_
        refine va_get (D := D) (ci := 7) (v := .ref (asa 0)) (C := RX7) (T := TX7) (N := 8) hx hb hu inX7 hown hK.1 hP 0 rfl rfl 5 (by decide) (hu _ q305) (fun _ h9 => h9) rfl dX7_read_57 ?_
        refine lv_iload_n hx hb dX7_read_60 rfl (lv_at hl 1 rfl) ?_
        refine sa_lit (e := ag1 0) hx hb hK hP 30 rfl (k := 1) (by rw [hc20]; decide) rfl dX7_read_61 ?_
        refine va_get (D := D) (ci := 5) (v := .ref (an1 0)) (C := RX5) (T := TX5) (N := 3) hx hb hu inX5 hown hK.1 hP 33 rfl rfl 2 (by decide) (hu _ q291) (fun _ h9 => h9) rfl dX7_read_62 ?_
        refine lv_iload_n hx hb dX7_read_65 rfl (lv_at hl 2 rfl) ?_
        obtain ⟨hi22, hf⟩ := ck_el hf
        refine va_lald hx hb hK.1 hP 34 1 rfl rfl hi22 dX7_read_66 ?_
        refine lv_aload_n hx hb dX7_read_67 rfl (lv_at hl 0 rfl) ?_
        refine va_get (D := D) (ci := 7) (v := .ref (ach 0)) (C := RX7) (T := TX7) (N := 8) hx hb hu inX7 hown hK.1 hP 0 rfl rfl 3 (by decide) (hu _ q303) (fun _ h9 => h9) rfl dX7_read_68 ?_
        refine va_get (D := D) (ci := 0) (v := .ref (aus 0)) (C := RX0) (T := TX0) (N := 8) hx hb hu inX0 hown hK.1 hP 21 rfl rfl 1 (by decide) (hu _ q224) (fun _ h9 => h9) rfl dX7_read_71 ?_
        refine lv_iconst (v := 1) hx hb dX7_read_74 (by decide) ?_
        obtain ⟨r23, Us_24, Sc_25, Tr_26, hg27, hf⟩ := b4_el hf
        refine cc_V (w' := ((kX7 cs ama (.ref (are 0)) (.ref (are2 0)) (.ref (are3 0)) (.ref (ach 0)) (.ref (ata 0)) (.ref (asa 0)) Ma) ++ ((kX2 cs are (.ref (af 0)) (.ref (ac 0)) (.ref (atr 0)) (.ref (ase 0)) ) ++ ((kX1 cs af  Fo) ++ ((kX3 cs ac  Sc_25) ++ ((kX4 cs ase (.ref (af 0)) (.ref (ac 0)) (.ref (atr 0)) Se) ++ ((kX4 cs atr (.ref (af 0)) (.ref (ac 0)) .null Tr_26) ++ ((kX0 cs ach (.ref (are 0)) (.ref (aus 0)) Ch) ++ ((kX4 cs aus (.ref (af 0)) (.ref (ac 0)) (.ref (atr 0)) Us_24) ++ ((kSA cs asa (ag0 0) (ag1 0) (ag2 0) (ag3 0)) ++ ((kX5 cs ag0 (.ref (an0 0)) G0) ++ ((kJ40 cs an0 N0) ++ ((kX5 cs ag1 (.ref (an1 0)) G1) ++ ((kJ40 cs an1 N1) ++ ((kX5 cs ag2 (.ref (an2 0)) G2) ++ ((kJ40 cs an2 N2) ++ ((kX5 cs ag3 (.ref (an3 0)) G3) ++ ((kJ40 cs an3 N3))))))))))))))))))) (wr := ((kX7 cs ama (.ref (are 0)) (.ref (are2 0)) (.ref (are3 0)) (.ref (ach 0)) (.ref (ata 0)) (.ref (asa 0)) Ma) ++ ((kX2 cs are (.ref (af 0)) (.ref (ac 0)) (.ref (atr 0)) (.ref (ase 0)) ) ++ ((kX4 cs ase (.ref (af 0)) (.ref (ac 0)) (.ref (atr 0)) Se) ++ ((kX0 cs ach (.ref (are 0)) (.ref (aus 0)) Ch) ++ ((kSA cs asa (ag0 0) (ag1 0) (ag2 0) (ag3 0)) ++ ((kX5 cs ag0 (.ref (an0 0)) G0) ++ ((kJ40 cs an0 N0) ++ ((kX5 cs ag1 (.ref (an1 0)) G1) ++ ((kJ40 cs an1 N1) ++ ((kX5 cs ag2 (.ref (an2 0)) G2) ++ ((kJ40 cs an2 N2) ++ ((kX5 cs ag3 (.ref (an3 0)) G3) ++ ((kJ40 cs an3 N3))))))))))))))) (st1 := [.int r23, .long (N1 (Int32.toNatClampNeg y2))]) [.int 1] hx hb hml hown hu (tX4_next l D cs aus af ac atr 1 Us Fo Sc Tr r23 Us_24 Sc_25 Tr_26 hg27) q439 q58 q528 q437 q438 pdX4_next ⟨rfl, rfl, Nat.le_of_ble_eq_true rfl, Nat.le_of_ble_eq_true rfl⟩ hK hZ hP hD hS hA [26, 27, 28, 29, 3, 4, 5, 6, 7, 8, 9, 10, 11, 12, 17, 18, 19, 20] [0, 1, 2, 13, 14, 15, 16, 21, 22, 23, 24, 25, 30, 31, 32, 33, 34, 35, 36, 37, 38] [0, 1, 2, 25, 26, 27, 28, 29, 30, 31, 32, 33, 34, 3, 4, 5, 6, 35, 36, 37, 38, 7, 8, 9, 10, 11, 21, 22, 23, 24, 12, 13, 14, 15, 16, 17, 18, 19, 20] rfl rfl rfl rfl rfl rfl rfl rfl rfl rfl hl.1 rfl (Nat.le_of_ble_eq_true rfl) dX7_read_75 rfl (fun H locs hP hD hS => ?_)
        refine lv_i2l (v := (r23.toInt64)) hx hb dX7_read_78 rfl ?_
        refine W.lcmp hx hb dX7_read_79 ?_
        refine lv_if_eq (tgt := 87) hx hb dX7_read_80 (by decide) (fun hc28 => ?_) (fun hc28 => ?_)
        · have hf := ip_el hc28 hf
          obtain ⟨v29, hv29, hf⟩ := lt_el hf
          refine lv_iinc (v := v29) (lv' := [(2, .int v29), (0, .ref (ama 0)), (1, .int y1)]) hx hb dX7_read_87 hl (k := 2) rfl (by rw [hv29]; rfl) (by decide) rfl (fun ls hl => ?_)
          refine lv_goto (tgt := 43) hx hb dX7_read_90 (by decide) ?_
          exact hk43 y1 v29 Ma Sc_25 Tr_26 Us_24 _ _ _ hP hD hS (lv_sub hl [1, 2, 0] rfl) hf
        · have hf := in_el hc28 hf
          refine lv_iconst (v := 1) hx hb dX7_read_83 (by decide) ?_
          refine lv_iload_n hx hb dX7_read_84 rfl (lv_at hl 2 rfl) ?_
          refine lv_iadd hx hb dX7_read_85 ?_
          have he := Option.some.inj hf
          obtain ⟨e0, ht0⟩ := Prod.mk.inj he
          obtain ⟨e1, ht1⟩ := Prod.mk.inj ht0
          obtain ⟨e2, ht2⟩ := Prod.mk.inj ht1
          obtain ⟨e3, e4⟩ := Prod.mk.inj ht2
          exact hri _ _ _ rfl (congrArg (fun z => some (Value.int z)) e0.symm) dX7_read_86 _ _ _ (by rw [e1, e2, e3, e4]) hP hD hS
    have hf := in_el hc20 hf
    by_cases hc30 : y1 = 2
    · have hf := ip_el hc30 hf
      refine sa_lit (e := ag2 0) hx hb hK hP 30 rfl (k := 2) (by rw [hc30]; decide) rfl dX7_read_49 ?_
      refine va_get (D := D) (ci := 5) (v := .int (G2 0 1)) (C := RX5) (T := TX5) (N := 3) hx hb hu inX5 hown hK.1 hP 35 rfl rfl 1 (by decide) (hu _ q289) (fun _ h9 => h9) rfl dX7_read_50 ?_
      refine lv_icmp_ge (tgt := 93) hx hb dX7_read_53 (by decide) (fun hc31 => ?_) (fun hc31 => ?_)
      · have hf := ip_el hc31 hf
        refine lv_iconst (v := 0) hx hb dX7_read_93 (by decide) ?_
        have he := Option.some.inj hf
        obtain ⟨e0, ht0⟩ := Prod.mk.inj he
        obtain ⟨e1, ht1⟩ := Prod.mk.inj ht0
        obtain ⟨e2, ht2⟩ := Prod.mk.inj ht1
        obtain ⟨e3, e4⟩ := Prod.mk.inj ht2
        exact hri _ _ _ rfl (congrArg (fun z => some (Value.int z)) e0.symm) dX7_read_94 _ _ _ (by rw [e1, e2, e3, e4]) hP hD hS
      · have hf := in_el hc31 hf
        refine lv_aload_n hx hb dX7_read_56 rfl (lv_at hl 0 rfl) ?_
        refine va_get (D := D) (ci := 7) (v := .ref (asa 0)) (C := RX7) (T := TX7) (N := 8) hx hb hu inX7 hown hK.1 hP 0 rfl rfl 5 (by decide) (hu _ q305) (fun _ h9 => h9) rfl dX7_read_57 ?_
        refine lv_iload_n hx hb dX7_read_60 rfl (lv_at hl 1 rfl) ?_
        refine sa_lit (e := ag2 0) hx hb hK hP 30 rfl (k := 2) (by rw [hc30]; decide) rfl dX7_read_61 ?_
        refine va_get (D := D) (ci := 5) (v := .ref (an2 0)) (C := RX5) (T := TX5) (N := 3) hx hb hu inX5 hown hK.1 hP 35 rfl rfl 2 (by decide) (hu _ q291) (fun _ h9 => h9) rfl dX7_read_62 ?_
        refine lv_iload_n hx hb dX7_read_65 rfl (lv_at hl 2 rfl) ?_
        obtain ⟨hi32, hf⟩ := ck_el hf
        refine va_lald hx hb hK.1 hP 36 1 rfl rfl hi32 dX7_read_66 ?_
        refine lv_aload_n hx hb dX7_read_67 rfl (lv_at hl 0 rfl) ?_
        refine va_get (D := D) (ci := 7) (v := .ref (ach 0)) (C := RX7) (T := TX7) (N := 8) hx hb hu inX7 hown hK.1 hP 0 rfl rfl 3 (by decide) (hu _ q303) (fun _ h9 => h9) rfl dX7_read_68 ?_
        refine va_get (D := D) (ci := 0) (v := .ref (aus 0)) (C := RX0) (T := TX0) (N := 8) hx hb hu inX0 hown hK.1 hP 21 rfl rfl 1 (by decide) (hu _ q224) (fun _ h9 => h9) rfl dX7_read_71 ?_
        refine lv_iconst (v := 1) hx hb dX7_read_74 (by decide) ?_
        obtain ⟨r33, Us_34, Sc_35, Tr_36, hg37, hf⟩ := b4_el hf
        refine cc_V (w' := ((kX7 cs ama (.ref (are 0)) (.ref (are2 0)) (.ref (are3 0)) (.ref (ach 0)) (.ref (ata 0)) (.ref (asa 0)) Ma) ++ ((kX2 cs are (.ref (af 0)) (.ref (ac 0)) (.ref (atr 0)) (.ref (ase 0)) ) ++ ((kX1 cs af  Fo) ++ ((kX3 cs ac  Sc_35) ++ ((kX4 cs ase (.ref (af 0)) (.ref (ac 0)) (.ref (atr 0)) Se) ++ ((kX4 cs atr (.ref (af 0)) (.ref (ac 0)) .null Tr_36) ++ ((kX0 cs ach (.ref (are 0)) (.ref (aus 0)) Ch) ++ ((kX4 cs aus (.ref (af 0)) (.ref (ac 0)) (.ref (atr 0)) Us_34) ++ ((kSA cs asa (ag0 0) (ag1 0) (ag2 0) (ag3 0)) ++ ((kX5 cs ag0 (.ref (an0 0)) G0) ++ ((kJ40 cs an0 N0) ++ ((kX5 cs ag1 (.ref (an1 0)) G1) ++ ((kJ40 cs an1 N1) ++ ((kX5 cs ag2 (.ref (an2 0)) G2) ++ ((kJ40 cs an2 N2) ++ ((kX5 cs ag3 (.ref (an3 0)) G3) ++ ((kJ40 cs an3 N3))))))))))))))))))) (wr := ((kX7 cs ama (.ref (are 0)) (.ref (are2 0)) (.ref (are3 0)) (.ref (ach 0)) (.ref (ata 0)) (.ref (asa 0)) Ma) ++ ((kX2 cs are (.ref (af 0)) (.ref (ac 0)) (.ref (atr 0)) (.ref (ase 0)) ) ++ ((kX4 cs ase (.ref (af 0)) (.ref (ac 0)) (.ref (atr 0)) Se) ++ ((kX0 cs ach (.ref (are 0)) (.ref (aus 0)) Ch) ++ ((kSA cs asa (ag0 0) (ag1 0) (ag2 0) (ag3 0)) ++ ((kX5 cs ag0 (.ref (an0 0)) G0) ++ ((kJ40 cs an0 N0) ++ ((kX5 cs ag1 (.ref (an1 0)) G1) ++ ((kJ40 cs an1 N1) ++ ((kX5 cs ag2 (.ref (an2 0)) G2) ++ ((kJ40 cs an2 N2) ++ ((kX5 cs ag3 (.ref (an3 0)) G3) ++ ((kJ40 cs an3 N3))))))))))))))) (st1 := [.int r33, .long (N2 (Int32.toNatClampNeg y2))]) [.int 1] hx hb hml hown hu (tX4_next l D cs aus af ac atr 1 Us Fo Sc Tr r33 Us_34 Sc_35 Tr_36 hg37) q439 q58 q528 q437 q438 pdX4_next ⟨rfl, rfl, Nat.le_of_ble_eq_true rfl, Nat.le_of_ble_eq_true rfl⟩ hK hZ hP hD hS hA [26, 27, 28, 29, 3, 4, 5, 6, 7, 8, 9, 10, 11, 12, 17, 18, 19, 20] [0, 1, 2, 13, 14, 15, 16, 21, 22, 23, 24, 25, 30, 31, 32, 33, 34, 35, 36, 37, 38] [0, 1, 2, 25, 26, 27, 28, 29, 30, 31, 32, 33, 34, 3, 4, 5, 6, 35, 36, 37, 38, 7, 8, 9, 10, 11, 21, 22, 23, 24, 12, 13, 14, 15, 16, 17, 18, 19, 20] rfl rfl rfl rfl rfl rfl rfl rfl rfl rfl hl.1 rfl (Nat.le_of_ble_eq_true rfl) dX7_read_75 rfl (fun H locs hP hD hS => ?_)
        refine lv_i2l (v := (r33.toInt64)) hx hb dX7_read_78 rfl ?_
        refine W.lcmp hx hb dX7_read_79 ?_
        refine lv_if_eq (tgt := 87) hx hb dX7_read_80 (by decide) (fun hc38 => ?_) (fun hc38 => ?_)
        · have hf := ip_el hc38 hf
          obtain ⟨v39, hv39, hf⟩ := lt_el hf
          refine lv_iinc (v := v39) (lv' := [(2, .int v39), (0, .ref (ama 0)), (1, .int y1)]) hx hb dX7_read_87 hl (k := 2) rfl (by rw [hv39]; rfl) (by decide) rfl (fun ls hl => ?_)
          refine lv_goto (tgt := 43) hx hb dX7_read_90 (by decide) ?_
          exact hk43 y1 v39 Ma Sc_35 Tr_36 Us_34 _ _ _ hP hD hS (lv_sub hl [1, 2, 0] rfl) hf
        · have hf := in_el hc38 hf
          refine lv_iconst (v := 1) hx hb dX7_read_83 (by decide) ?_
          refine lv_iload_n hx hb dX7_read_84 rfl (lv_at hl 2 rfl) ?_
          refine lv_iadd hx hb dX7_read_85 ?_
          have he := Option.some.inj hf
          obtain ⟨e0, ht0⟩ := Prod.mk.inj he
          obtain ⟨e1, ht1⟩ := Prod.mk.inj ht0
          obtain ⟨e2, ht2⟩ := Prod.mk.inj ht1
          obtain ⟨e3, e4⟩ := Prod.mk.inj ht2
          exact hri _ _ _ rfl (congrArg (fun z => some (Value.int z)) e0.symm) dX7_read_86 _ _ _ (by rw [e1, e2, e3, e4]) hP hD hS
    have hf := in_el hc30 hf
    by_cases hc40 : y1 = 3
    · have hf := ip_el hc40 hf
      refine sa_lit (e := ag3 0) hx hb hK hP 30 rfl (k := 3) (by rw [hc40]; decide) rfl dX7_read_49 ?_
      refine va_get (D := D) (ci := 5) (v := .int (G3 0 1)) (C := RX5) (T := TX5) (N := 3) hx hb hu inX5 hown hK.1 hP 37 rfl rfl 1 (by decide) (hu _ q289) (fun _ h9 => h9) rfl dX7_read_50 ?_
      refine lv_icmp_ge (tgt := 93) hx hb dX7_read_53 (by decide) (fun hc41 => ?_) (fun hc41 => ?_)
      · have hf := ip_el hc41 hf
        refine lv_iconst (v := 0) hx hb dX7_read_93 (by decide) ?_
        have he := Option.some.inj hf
        obtain ⟨e0, ht0⟩ := Prod.mk.inj he
        obtain ⟨e1, ht1⟩ := Prod.mk.inj ht0
        obtain ⟨e2, ht2⟩ := Prod.mk.inj ht1
        obtain ⟨e3, e4⟩ := Prod.mk.inj ht2
        exact hri _ _ _ rfl (congrArg (fun z => some (Value.int z)) e0.symm) dX7_read_94 _ _ _ (by rw [e1, e2, e3, e4]) hP hD hS
      · have hf := in_el hc41 hf
        refine lv_aload_n hx hb dX7_read_56 rfl (lv_at hl 0 rfl) ?_
        refine va_get (D := D) (ci := 7) (v := .ref (asa 0)) (C := RX7) (T := TX7) (N := 8) hx hb hu inX7 hown hK.1 hP 0 rfl rfl 5 (by decide) (hu _ q305) (fun _ h9 => h9) rfl dX7_read_57 ?_
        refine lv_iload_n hx hb dX7_read_60 rfl (lv_at hl 1 rfl) ?_
        refine sa_lit (e := ag3 0) hx hb hK hP 30 rfl (k := 3) (by rw [hc40]; decide) rfl dX7_read_61 ?_
        refine va_get (D := D) (ci := 5) (v := .ref (an3 0)) (C := RX5) (T := TX5) (N := 3) hx hb hu inX5 hown hK.1 hP 37 rfl rfl 2 (by decide) (hu _ q291) (fun _ h9 => h9) rfl dX7_read_62 ?_
        refine lv_iload_n hx hb dX7_read_65 rfl (lv_at hl 2 rfl) ?_
        obtain ⟨hi42, hf⟩ := ck_el hf
        refine va_lald hx hb hK.1 hP 38 1 rfl rfl hi42 dX7_read_66 ?_
        refine lv_aload_n hx hb dX7_read_67 rfl (lv_at hl 0 rfl) ?_
        refine va_get (D := D) (ci := 7) (v := .ref (ach 0)) (C := RX7) (T := TX7) (N := 8) hx hb hu inX7 hown hK.1 hP 0 rfl rfl 3 (by decide) (hu _ q303) (fun _ h9 => h9) rfl dX7_read_68 ?_
        refine va_get (D := D) (ci := 0) (v := .ref (aus 0)) (C := RX0) (T := TX0) (N := 8) hx hb hu inX0 hown hK.1 hP 21 rfl rfl 1 (by decide) (hu _ q224) (fun _ h9 => h9) rfl dX7_read_71 ?_
        refine lv_iconst (v := 1) hx hb dX7_read_74 (by decide) ?_
        obtain ⟨r43, Us_44, Sc_45, Tr_46, hg47, hf⟩ := b4_el hf
        refine cc_V (w' := ((kX7 cs ama (.ref (are 0)) (.ref (are2 0)) (.ref (are3 0)) (.ref (ach 0)) (.ref (ata 0)) (.ref (asa 0)) Ma) ++ ((kX2 cs are (.ref (af 0)) (.ref (ac 0)) (.ref (atr 0)) (.ref (ase 0)) ) ++ ((kX1 cs af  Fo) ++ ((kX3 cs ac  Sc_45) ++ ((kX4 cs ase (.ref (af 0)) (.ref (ac 0)) (.ref (atr 0)) Se) ++ ((kX4 cs atr (.ref (af 0)) (.ref (ac 0)) .null Tr_46) ++ ((kX0 cs ach (.ref (are 0)) (.ref (aus 0)) Ch) ++ ((kX4 cs aus (.ref (af 0)) (.ref (ac 0)) (.ref (atr 0)) Us_44) ++ ((kSA cs asa (ag0 0) (ag1 0) (ag2 0) (ag3 0)) ++ ((kX5 cs ag0 (.ref (an0 0)) G0) ++ ((kJ40 cs an0 N0) ++ ((kX5 cs ag1 (.ref (an1 0)) G1) ++ ((kJ40 cs an1 N1) ++ ((kX5 cs ag2 (.ref (an2 0)) G2) ++ ((kJ40 cs an2 N2) ++ ((kX5 cs ag3 (.ref (an3 0)) G3) ++ ((kJ40 cs an3 N3))))))))))))))))))) (wr := ((kX7 cs ama (.ref (are 0)) (.ref (are2 0)) (.ref (are3 0)) (.ref (ach 0)) (.ref (ata 0)) (.ref (asa 0)) Ma) ++ ((kX2 cs are (.ref (af 0)) (.ref (ac 0)) (.ref (atr 0)) (.ref (ase 0)) ) ++ ((kX4 cs ase (.ref (af 0)) (.ref (ac 0)) (.ref (atr 0)) Se) ++ ((kX0 cs ach (.ref (are 0)) (.ref (aus 0)) Ch) ++ ((kSA cs asa (ag0 0) (ag1 0) (ag2 0) (ag3 0)) ++ ((kX5 cs ag0 (.ref (an0 0)) G0) ++ ((kJ40 cs an0 N0) ++ ((kX5 cs ag1 (.ref (an1 0)) G1) ++ ((kJ40 cs an1 N1) ++ ((kX5 cs ag2 (.ref (an2 0)) G2) ++ ((kJ40 cs an2 N2) ++ ((kX5 cs ag3 (.ref (an3 0)) G3) ++ ((kJ40 cs an3 N3))))))))))))))) (st1 := [.int r43, .long (N3 (Int32.toNatClampNeg y2))]) [.int 1] hx hb hml hown hu (tX4_next l D cs aus af ac atr 1 Us Fo Sc Tr r43 Us_44 Sc_45 Tr_46 hg47) q439 q58 q528 q437 q438 pdX4_next ⟨rfl, rfl, Nat.le_of_ble_eq_true rfl, Nat.le_of_ble_eq_true rfl⟩ hK hZ hP hD hS hA [26, 27, 28, 29, 3, 4, 5, 6, 7, 8, 9, 10, 11, 12, 17, 18, 19, 20] [0, 1, 2, 13, 14, 15, 16, 21, 22, 23, 24, 25, 30, 31, 32, 33, 34, 35, 36, 37, 38] [0, 1, 2, 25, 26, 27, 28, 29, 30, 31, 32, 33, 34, 3, 4, 5, 6, 35, 36, 37, 38, 7, 8, 9, 10, 11, 21, 22, 23, 24, 12, 13, 14, 15, 16, 17, 18, 19, 20] rfl rfl rfl rfl rfl rfl rfl rfl rfl rfl hl.1 rfl (Nat.le_of_ble_eq_true rfl) dX7_read_75 rfl (fun H locs hP hD hS => ?_)
        refine lv_i2l (v := (r43.toInt64)) hx hb dX7_read_78 rfl ?_
        refine W.lcmp hx hb dX7_read_79 ?_
        refine lv_if_eq (tgt := 87) hx hb dX7_read_80 (by decide) (fun hc48 => ?_) (fun hc48 => ?_)
        · have hf := ip_el hc48 hf
          obtain ⟨v49, hv49, hf⟩ := lt_el hf
          refine lv_iinc (v := v49) (lv' := [(2, .int v49), (0, .ref (ama 0)), (1, .int y1)]) hx hb dX7_read_87 hl (k := 2) rfl (by rw [hv49]; rfl) (by decide) rfl (fun ls hl => ?_)
          refine lv_goto (tgt := 43) hx hb dX7_read_90 (by decide) ?_
          exact hk43 y1 v49 Ma Sc_45 Tr_46 Us_44 _ _ _ hP hD hS (lv_sub hl [1, 2, 0] rfl) hf
        · have hf := in_el hc48 hf
          refine lv_iconst (v := 1) hx hb dX7_read_83 (by decide) ?_
          refine lv_iload_n hx hb dX7_read_84 rfl (lv_at hl 2 rfl) ?_
          refine lv_iadd hx hb dX7_read_85 ?_
          have he := Option.some.inj hf
          obtain ⟨e0, ht0⟩ := Prod.mk.inj he
          obtain ⟨e1, ht1⟩ := Prod.mk.inj ht0
          obtain ⟨e2, ht2⟩ := Prod.mk.inj ht1
          obtain ⟨e3, e4⟩ := Prod.mk.inj ht2
          exact hri _ _ _ rfl (congrArg (fun z => some (Value.int z)) e0.symm) dX7_read_86 _ _ _ (by rw [e1, e2, e3, e4]) hP hD hS
    have hf := in_el hc40 hf
    exact no_el hf
  have h43 : ∀ (n : Nat), ∀ (y1 : Int32) (y2 : Int32) (Ma : ST) (Sc : ST) (Tr : ST) (Us : ST) (H : Heap) (locs : List Loc) (ls : Array Slot), va_P D vwCl ((kX7 cs ama (.ref (are 0)) (.ref (are2 0)) (.ref (are3 0)) (.ref (ach 0)) (.ref (ata 0)) (.ref (asa 0)) Ma) ++ ((kX2 cs are (.ref (af 0)) (.ref (ac 0)) (.ref (atr 0)) (.ref (ase 0)) ) ++ ((kX1 cs af  Fo) ++ ((kX3 cs ac  Sc) ++ ((kX4 cs ase (.ref (af 0)) (.ref (ac 0)) (.ref (atr 0)) Se) ++ ((kX4 cs atr (.ref (af 0)) (.ref (ac 0)) .null Tr) ++ ((kX0 cs ach (.ref (are 0)) (.ref (aus 0)) Ch) ++ ((kX4 cs aus (.ref (af 0)) (.ref (ac 0)) (.ref (atr 0)) Us) ++ ((kSA cs asa (ag0 0) (ag1 0) (ag2 0) (ag3 0)) ++ ((kX5 cs ag0 (.ref (an0 0)) G0) ++ ((kJ40 cs an0 N0) ++ ((kX5 cs ag1 (.ref (an1 0)) G1) ++ ((kJ40 cs an1 N1) ++ ((kX5 cs ag2 (.ref (an2 0)) G2) ++ ((kJ40 cs an2 N2) ++ ((kX5 cs ag3 (.ref (an3 0)) G3) ++ ((kJ40 cs an3 N3)))))))))))))))))) H → va_D A ((kX7 cs ama (.ref (are 0)) (.ref (are2 0)) (.ref (are3 0)) (.ref (ach 0)) (.ref (ata 0)) (.ref (asa 0)) Ma) ++ ((kX2 cs are (.ref (af 0)) (.ref (ac 0)) (.ref (atr 0)) (.ref (ase 0)) ) ++ ((kX1 cs af  Fo) ++ ((kX3 cs ac  Sc) ++ ((kX4 cs ase (.ref (af 0)) (.ref (ac 0)) (.ref (atr 0)) Se) ++ ((kX4 cs atr (.ref (af 0)) (.ref (ac 0)) .null Tr) ++ ((kX0 cs ach (.ref (are 0)) (.ref (aus 0)) Ch) ++ ((kX4 cs aus (.ref (af 0)) (.ref (ac 0)) (.ref (atr 0)) Us) ++ ((kSA cs asa (ag0 0) (ag1 0) (ag2 0) (ag3 0)) ++ ((kX5 cs ag0 (.ref (an0 0)) G0) ++ ((kJ40 cs an0 N0) ++ ((kX5 cs ag1 (.ref (an1 0)) G1) ++ ((kJ40 cs an1 N1) ++ ((kX5 cs ag2 (.ref (an2 0)) G2) ++ ((kJ40 cs an2 N2) ++ ((kX5 cs ag3 (.ref (an3 0)) G3) ++ ((kJ40 cs an3 N3)))))))))))))))))) → va_S A s.heap H locs → lv_has ls 3 [(0, .ref (ama 0)), (1, .int y1), (2, .int y2)] → fX7_read_43 Fo Se Ch G0 N0 G1 N1 G2 N2 G3 N3 n y1 y2 Ma Sc Tr Us = some (r0, Maz, Scz, Trz, Usz) → W p l e rmX7_read s m [.ref (ama 0), .int x1].toArray below meth c H locs 0 0 Q (F0 m 43 ls []) := by
    intro n
    induction n with
    | zero => intro y1 y2 Ma Sc Tr Us H locs ls hP hD hS hl hf; exact no_el hf
    | succ n ih => intro y1 y2 Ma Sc Tr Us H locs ls hP hD hS hl hf; exact hs43 _ ih y1 y2 Ma Sc Tr Us _ _ _ hP hD hS hl hf
  have hl : lv_has ls0 3 [(0, .ref (ama 0)), (1, .int x1)] := hl0
  have hP := hP0
  have hD := hD0
  have hS := hS0
  unfold fX7_read at hf
  refine lv_iload_n hx hb dX7_read_0 rfl (lv_at hl 1 rfl) ?_
  obtain ⟨r1, hg2, hf⟩ := b1_el hf
  refine cc_S0 (st1 := [.int r1]) [.int x1] hx hb hml hown hu (tX7_isSheet l D cs x1 r1 hg2) q844 q54 q842 q843 pdX7_isSheet ⟨rfl, rfl, Nat.le_of_ble_eq_true rfl, Nat.le_of_ble_eq_true rfl⟩ hK hZ hP hD hS hA rfl hl.1 rfl (Nat.le_of_ble_eq_true rfl) dX7_read_1 rfl (fun H locs hP hD hS => ?_)
  refine lv_if_ne (tgt := 14) hx hb dX7_read_4 (by decide) (fun hc3 => ?_) (fun hc3 => ?_)
  · have hf := in_el hc3 hf
    refine lv_aload_n hx hb dX7_read_14 rfl (lv_at hl 0 rfl) ?_
    refine va_get (D := D) (ci := 7) (v := .ref (asa 0)) (C := RX7) (T := TX7) (N := 8) hx hb hu inX7 hown hK.1 hP 0 rfl rfl 5 (by decide) (hu _ q305) (fun _ h9 => h9) rfl dX7_read_15 ?_
    refine lv_iload_n hx hb dX7_read_18 rfl (lv_at hl 1 rfl) ?_
    by_cases hc4 : x1 = 0
    · have hf := ip_el hc4 hf
      refine sa_lit (e := ag0 0) hx hb hK hP 30 rfl (k := 0) (by rw [hc4]; decide) rfl dX7_read_19 ?_
      obtain ⟨r5, hg6, hf⟩ := b1_el hf
      refine cc_V (w' := ((kX7 cs ama (.ref (are 0)) (.ref (are2 0)) (.ref (are3 0)) (.ref (ach 0)) (.ref (ata 0)) (.ref (asa 0)) Ma) ++ ((kX2 cs are (.ref (af 0)) (.ref (ac 0)) (.ref (atr 0)) (.ref (ase 0)) ) ++ ((kX1 cs af  Fo) ++ ((kX3 cs ac  Sc) ++ ((kX4 cs ase (.ref (af 0)) (.ref (ac 0)) (.ref (atr 0)) Se) ++ ((kX4 cs atr (.ref (af 0)) (.ref (ac 0)) .null Tr) ++ ((kX0 cs ach (.ref (are 0)) (.ref (aus 0)) Ch) ++ ((kX4 cs aus (.ref (af 0)) (.ref (ac 0)) (.ref (atr 0)) Us) ++ ((kSA cs asa (ag0 0) (ag1 0) (ag2 0) (ag3 0)) ++ ((kX5 cs ag0 (.ref (an0 0)) G0) ++ ((kJ40 cs an0 N0) ++ ((kX5 cs ag1 (.ref (an1 0)) G1) ++ ((kJ40 cs an1 N1) ++ ((kX5 cs ag2 (.ref (an2 0)) G2) ++ ((kJ40 cs an2 N2) ++ ((kX5 cs ag3 (.ref (an3 0)) G3) ++ ((kJ40 cs an3 N3))))))))))))))))))) (wr := ((kX7 cs ama (.ref (are 0)) (.ref (are2 0)) (.ref (are3 0)) (.ref (ach 0)) (.ref (ata 0)) (.ref (asa 0)) Ma) ++ ((kX2 cs are (.ref (af 0)) (.ref (ac 0)) (.ref (atr 0)) (.ref (ase 0)) ) ++ ((kX1 cs af  Fo) ++ ((kX3 cs ac  Sc) ++ ((kX4 cs ase (.ref (af 0)) (.ref (ac 0)) (.ref (atr 0)) Se) ++ ((kX4 cs atr (.ref (af 0)) (.ref (ac 0)) .null Tr) ++ ((kX0 cs ach (.ref (are 0)) (.ref (aus 0)) Ch) ++ ((kX4 cs aus (.ref (af 0)) (.ref (ac 0)) (.ref (atr 0)) Us) ++ ((kSA cs asa (ag0 0) (ag1 0) (ag2 0) (ag3 0)) ++ ((kJ40 cs an0 N0) ++ ((kX5 cs ag1 (.ref (an1 0)) G1) ++ ((kJ40 cs an1 N1) ++ ((kX5 cs ag2 (.ref (an2 0)) G2) ++ ((kJ40 cs an2 N2) ++ ((kX5 cs ag3 (.ref (an3 0)) G3) ++ ((kJ40 cs an3 N3)))))))))))))))))) (st1 := [.int r5]) [] hx hb hml hown hu (tX5_isMissing l D cs ag0 an0 G0 r5 hg6) q860 q61 q857 q858 q859 pdX5_isMissing ⟨rfl, rfl, Nat.le_of_ble_eq_true rfl, Nat.le_of_ble_eq_true rfl⟩ hK hZ hP hD hS hA [31] [0, 1, 2, 3, 4, 5, 6, 7, 8, 9, 10, 11, 12, 13, 14, 15, 16, 17, 18, 19, 20, 21, 22, 23, 24, 25, 26, 27, 28, 29, 30, 32, 33, 34, 35, 36, 37, 38] [0, 1, 2, 3, 4, 5, 6, 7, 8, 9, 10, 11, 12, 13, 14, 15, 16, 17, 18, 19, 20, 21, 22, 23, 24, 25, 26, 27, 28, 29, 30, 38, 31, 32, 33, 34, 35, 36, 37] rfl rfl rfl rfl rfl rfl rfl rfl rfl rfl hl.1 rfl (Nat.le_of_ble_eq_true rfl) dX7_read_20 rfl (fun H locs hP hD hS => ?_)
      refine lv_if_eq (tgt := 34) hx hb dX7_read_23 (by decide) (fun hc7 => ?_) (fun hc7 => ?_)
      · have hf := ip_el hc7 hf
        refine lv_aload_n hx hb dX7_read_34 rfl (lv_at hl 0 rfl) ?_
        refine va_get (D := D) (ci := 7) (v := .ref (ach 0)) (C := RX7) (T := TX7) (N := 8) hx hb hu inX7 hown hK.1 hP 0 rfl rfl 3 (by decide) (hu _ q303) (fun _ h9 => h9) rfl dX7_read_35 ?_
        obtain ⟨Us_8, hg9, hf⟩ := b1_el hf
        refine cc_V (w' := ((kX7 cs ama (.ref (are 0)) (.ref (are2 0)) (.ref (are3 0)) (.ref (ach 0)) (.ref (ata 0)) (.ref (asa 0)) Ma) ++ ((kX2 cs are (.ref (af 0)) (.ref (ac 0)) (.ref (atr 0)) (.ref (ase 0)) ) ++ ((kX1 cs af  Fo) ++ ((kX3 cs ac  Sc) ++ ((kX4 cs ase (.ref (af 0)) (.ref (ac 0)) (.ref (atr 0)) Se) ++ ((kX4 cs atr (.ref (af 0)) (.ref (ac 0)) .null Tr) ++ ((kX0 cs ach (.ref (are 0)) (.ref (aus 0)) Ch) ++ ((kX4 cs aus (.ref (af 0)) (.ref (ac 0)) (.ref (atr 0)) Us_8) ++ ((kSA cs asa (ag0 0) (ag1 0) (ag2 0) (ag3 0)) ++ ((kX5 cs ag0 (.ref (an0 0)) G0) ++ ((kJ40 cs an0 N0) ++ ((kX5 cs ag1 (.ref (an1 0)) G1) ++ ((kJ40 cs an1 N1) ++ ((kX5 cs ag2 (.ref (an2 0)) G2) ++ ((kJ40 cs an2 N2) ++ ((kX5 cs ag3 (.ref (an3 0)) G3) ++ ((kJ40 cs an3 N3))))))))))))))))))) (wr := ((kX7 cs ama (.ref (are 0)) (.ref (are2 0)) (.ref (are3 0)) (.ref (ach 0)) (.ref (ata 0)) (.ref (asa 0)) Ma) ++ ((kX1 cs af  Fo) ++ ((kX3 cs ac  Sc) ++ ((kX4 cs atr (.ref (af 0)) (.ref (ac 0)) .null Tr) ++ ((kSA cs asa (ag0 0) (ag1 0) (ag2 0) (ag3 0)) ++ ((kX5 cs ag0 (.ref (an0 0)) G0) ++ ((kJ40 cs an0 N0) ++ ((kX5 cs ag1 (.ref (an1 0)) G1) ++ ((kJ40 cs an1 N1) ++ ((kX5 cs ag2 (.ref (an2 0)) G2) ++ ((kJ40 cs an2 N2) ++ ((kX5 cs ag3 (.ref (an3 0)) G3) ++ ((kJ40 cs an3 N3))))))))))))))) (st1 := []) [] hx hb hml hown hu (tX0_start l D cs ach are aus af ac atr ase Ch Se Us Us_8 hg9) q570 q59 q567 q568 q569 pdX0_start ⟨rfl, rfl, Nat.le_of_ble_eq_true rfl, Nat.le_of_ble_eq_true rfl⟩ hK hZ hP hD hS hA [21, 22, 23, 24, 25, 2, 13, 14, 15, 16, 26, 27, 28, 29] [0, 1, 3, 4, 5, 6, 7, 8, 9, 10, 11, 12, 17, 18, 19, 20, 30, 31, 32, 33, 34, 35, 36, 37, 38] [0, 1, 30, 2, 3, 4, 5, 6, 7, 8, 9, 10, 11, 31, 32, 33, 34, 12, 13, 14, 15, 25, 26, 27, 28, 29, 35, 36, 37, 38, 16, 17, 18, 19, 20, 21, 22, 23, 24] rfl rfl rfl rfl rfl rfl rfl rfl rfl rfl hl.1 rfl (Nat.le_of_ble_eq_true rfl) dX7_read_38 rfl (fun H locs hP hD hS => ?_)
        refine lv_iconst (v := 0) hx hb dX7_read_41 (by decide) ?_
        refine lv_istore_n (lv' := [(2, .int 0), (0, .ref (ama 0)), (1, .int x1)]) hx hb dX7_read_42 rfl hl (by decide) rfl (fun ls hl => ?_)
        exact h43 400 x1 0 Ma Sc Tr Us_8 _ _ _ hP hD hS (lv_sub hl [1, 2, 0] rfl) hf
      · have hf := in_el hc7 hf
        refine lv_aload_n hx hb dX7_read_26 rfl (lv_at hl 0 rfl) ?_
        refine lv_ldcw (v := (-1000000006)) hx hb hown (hu _ q861) dX7_read_27 ?_
        obtain ⟨r50, Ma_51, hg52, hf⟩ := b2_el hf
        refine cc_V (w' := ((kX7 cs ama (.ref (are 0)) (.ref (are2 0)) (.ref (are3 0)) (.ref (ach 0)) (.ref (ata 0)) (.ref (asa 0)) Ma_51) ++ ((kX2 cs are (.ref (af 0)) (.ref (ac 0)) (.ref (atr 0)) (.ref (ase 0)) ) ++ ((kX1 cs af  Fo) ++ ((kX3 cs ac  Sc) ++ ((kX4 cs ase (.ref (af 0)) (.ref (ac 0)) (.ref (atr 0)) Se) ++ ((kX4 cs atr (.ref (af 0)) (.ref (ac 0)) .null Tr) ++ ((kX0 cs ach (.ref (are 0)) (.ref (aus 0)) Ch) ++ ((kX4 cs aus (.ref (af 0)) (.ref (ac 0)) (.ref (atr 0)) Us) ++ ((kSA cs asa (ag0 0) (ag1 0) (ag2 0) (ag3 0)) ++ ((kX5 cs ag0 (.ref (an0 0)) G0) ++ ((kJ40 cs an0 N0) ++ ((kX5 cs ag1 (.ref (an1 0)) G1) ++ ((kJ40 cs an1 N1) ++ ((kX5 cs ag2 (.ref (an2 0)) G2) ++ ((kJ40 cs an2 N2) ++ ((kX5 cs ag3 (.ref (an3 0)) G3) ++ ((kJ40 cs an3 N3))))))))))))))))))) (wr := ((kX2 cs are (.ref (af 0)) (.ref (ac 0)) (.ref (atr 0)) (.ref (ase 0)) ) ++ ((kX1 cs af  Fo) ++ ((kX3 cs ac  Sc) ++ ((kX4 cs ase (.ref (af 0)) (.ref (ac 0)) (.ref (atr 0)) Se) ++ ((kX4 cs atr (.ref (af 0)) (.ref (ac 0)) .null Tr) ++ ((kX0 cs ach (.ref (are 0)) (.ref (aus 0)) Ch) ++ ((kX4 cs aus (.ref (af 0)) (.ref (ac 0)) (.ref (atr 0)) Us) ++ ((kSA cs asa (ag0 0) (ag1 0) (ag2 0) (ag3 0)) ++ ((kX5 cs ag0 (.ref (an0 0)) G0) ++ ((kJ40 cs an0 N0) ++ ((kX5 cs ag1 (.ref (an1 0)) G1) ++ ((kJ40 cs an1 N1) ++ ((kX5 cs ag2 (.ref (an2 0)) G2) ++ ((kJ40 cs an2 N2) ++ ((kX5 cs ag3 (.ref (an3 0)) G3) ++ ((kJ40 cs an3 N3)))))))))))))))))) (st1 := [.int r50]) [.int (-1000000006)] hx hb hml hown hu (tX7_finding l D cs ama are are2 are3 ach ata asa (-1000000006) Ma r50 Ma_51 hg52) q339 q54 q336 q338 q0 pdX7_finding ⟨rfl, rfl, Nat.le_of_ble_eq_true rfl, Nat.le_of_ble_eq_true rfl⟩ hK hZ hP hD hS hA [0, 1] [2, 3, 4, 5, 6, 7, 8, 9, 10, 11, 12, 13, 14, 15, 16, 17, 18, 19, 20, 21, 22, 23, 24, 25, 26, 27, 28, 29, 30, 31, 32, 33, 34, 35, 36, 37, 38] [37, 38, 0, 1, 2, 3, 4, 5, 6, 7, 8, 9, 10, 11, 12, 13, 14, 15, 16, 17, 18, 19, 20, 21, 22, 23, 24, 25, 26, 27, 28, 29, 30, 31, 32, 33, 34, 35, 36] rfl rfl rfl rfl rfl rfl rfl rfl rfl rfl hl.1 rfl (Nat.le_of_ble_eq_true rfl) dX7_read_30 rfl (fun H locs hP hD hS => ?_)
        have he := Option.some.inj hf
        obtain ⟨e0, ht0⟩ := Prod.mk.inj he
        obtain ⟨e1, ht1⟩ := Prod.mk.inj ht0
        obtain ⟨e2, ht2⟩ := Prod.mk.inj ht1
        obtain ⟨e3, e4⟩ := Prod.mk.inj ht2
        exact hri _ _ _ rfl (congrArg (fun z => some (Value.int z)) e0.symm) dX7_read_33 _ _ _ (by rw [e1, e2, e3, e4]) hP hD hS
    have hf := in_el hc4 hf
    by_cases hc53 : x1 = 1
    · have hf := ip_el hc53 hf
      refine sa_lit (e := ag1 0) hx hb hK hP 30 rfl (k := 1) (by rw [hc53]; decide) rfl dX7_read_19 ?_
      obtain ⟨r54, hg55, hf⟩ := b1_el hf
      refine cc_V (w' := ((kX7 cs ama (.ref (are 0)) (.ref (are2 0)) (.ref (are3 0)) (.ref (ach 0)) (.ref (ata 0)) (.ref (asa 0)) Ma) ++ ((kX2 cs are (.ref (af 0)) (.ref (ac 0)) (.ref (atr 0)) (.ref (ase 0)) ) ++ ((kX1 cs af  Fo) ++ ((kX3 cs ac  Sc) ++ ((kX4 cs ase (.ref (af 0)) (.ref (ac 0)) (.ref (atr 0)) Se) ++ ((kX4 cs atr (.ref (af 0)) (.ref (ac 0)) .null Tr) ++ ((kX0 cs ach (.ref (are 0)) (.ref (aus 0)) Ch) ++ ((kX4 cs aus (.ref (af 0)) (.ref (ac 0)) (.ref (atr 0)) Us) ++ ((kSA cs asa (ag0 0) (ag1 0) (ag2 0) (ag3 0)) ++ ((kX5 cs ag0 (.ref (an0 0)) G0) ++ ((kJ40 cs an0 N0) ++ ((kX5 cs ag1 (.ref (an1 0)) G1) ++ ((kJ40 cs an1 N1) ++ ((kX5 cs ag2 (.ref (an2 0)) G2) ++ ((kJ40 cs an2 N2) ++ ((kX5 cs ag3 (.ref (an3 0)) G3) ++ ((kJ40 cs an3 N3))))))))))))))))))) (wr := ((kX7 cs ama (.ref (are 0)) (.ref (are2 0)) (.ref (are3 0)) (.ref (ach 0)) (.ref (ata 0)) (.ref (asa 0)) Ma) ++ ((kX2 cs are (.ref (af 0)) (.ref (ac 0)) (.ref (atr 0)) (.ref (ase 0)) ) ++ ((kX1 cs af  Fo) ++ ((kX3 cs ac  Sc) ++ ((kX4 cs ase (.ref (af 0)) (.ref (ac 0)) (.ref (atr 0)) Se) ++ ((kX4 cs atr (.ref (af 0)) (.ref (ac 0)) .null Tr) ++ ((kX0 cs ach (.ref (are 0)) (.ref (aus 0)) Ch) ++ ((kX4 cs aus (.ref (af 0)) (.ref (ac 0)) (.ref (atr 0)) Us) ++ ((kSA cs asa (ag0 0) (ag1 0) (ag2 0) (ag3 0)) ++ ((kX5 cs ag0 (.ref (an0 0)) G0) ++ ((kJ40 cs an0 N0) ++ ((kJ40 cs an1 N1) ++ ((kX5 cs ag2 (.ref (an2 0)) G2) ++ ((kJ40 cs an2 N2) ++ ((kX5 cs ag3 (.ref (an3 0)) G3) ++ ((kJ40 cs an3 N3)))))))))))))))))) (st1 := [.int r54]) [] hx hb hml hown hu (tX5_isMissing l D cs ag1 an1 G1 r54 hg55) q860 q61 q857 q858 q859 pdX5_isMissing ⟨rfl, rfl, Nat.le_of_ble_eq_true rfl, Nat.le_of_ble_eq_true rfl⟩ hK hZ hP hD hS hA [33] [0, 1, 2, 3, 4, 5, 6, 7, 8, 9, 10, 11, 12, 13, 14, 15, 16, 17, 18, 19, 20, 21, 22, 23, 24, 25, 26, 27, 28, 29, 30, 31, 32, 34, 35, 36, 37, 38] [0, 1, 2, 3, 4, 5, 6, 7, 8, 9, 10, 11, 12, 13, 14, 15, 16, 17, 18, 19, 20, 21, 22, 23, 24, 25, 26, 27, 28, 29, 30, 31, 32, 38, 33, 34, 35, 36, 37] rfl rfl rfl rfl rfl rfl rfl rfl rfl rfl hl.1 rfl (Nat.le_of_ble_eq_true rfl) dX7_read_20 rfl (fun H locs hP hD hS => ?_)
      refine lv_if_eq (tgt := 34) hx hb dX7_read_23 (by decide) (fun hc56 => ?_) (fun hc56 => ?_)
      · have hf := ip_el hc56 hf
        refine lv_aload_n hx hb dX7_read_34 rfl (lv_at hl 0 rfl) ?_
        refine va_get (D := D) (ci := 7) (v := .ref (ach 0)) (C := RX7) (T := TX7) (N := 8) hx hb hu inX7 hown hK.1 hP 0 rfl rfl 3 (by decide) (hu _ q303) (fun _ h9 => h9) rfl dX7_read_35 ?_
        obtain ⟨Us_57, hg58, hf⟩ := b1_el hf
        refine cc_V (w' := ((kX7 cs ama (.ref (are 0)) (.ref (are2 0)) (.ref (are3 0)) (.ref (ach 0)) (.ref (ata 0)) (.ref (asa 0)) Ma) ++ ((kX2 cs are (.ref (af 0)) (.ref (ac 0)) (.ref (atr 0)) (.ref (ase 0)) ) ++ ((kX1 cs af  Fo) ++ ((kX3 cs ac  Sc) ++ ((kX4 cs ase (.ref (af 0)) (.ref (ac 0)) (.ref (atr 0)) Se) ++ ((kX4 cs atr (.ref (af 0)) (.ref (ac 0)) .null Tr) ++ ((kX0 cs ach (.ref (are 0)) (.ref (aus 0)) Ch) ++ ((kX4 cs aus (.ref (af 0)) (.ref (ac 0)) (.ref (atr 0)) Us_57) ++ ((kSA cs asa (ag0 0) (ag1 0) (ag2 0) (ag3 0)) ++ ((kX5 cs ag0 (.ref (an0 0)) G0) ++ ((kJ40 cs an0 N0) ++ ((kX5 cs ag1 (.ref (an1 0)) G1) ++ ((kJ40 cs an1 N1) ++ ((kX5 cs ag2 (.ref (an2 0)) G2) ++ ((kJ40 cs an2 N2) ++ ((kX5 cs ag3 (.ref (an3 0)) G3) ++ ((kJ40 cs an3 N3))))))))))))))))))) (wr := ((kX7 cs ama (.ref (are 0)) (.ref (are2 0)) (.ref (are3 0)) (.ref (ach 0)) (.ref (ata 0)) (.ref (asa 0)) Ma) ++ ((kX1 cs af  Fo) ++ ((kX3 cs ac  Sc) ++ ((kX4 cs atr (.ref (af 0)) (.ref (ac 0)) .null Tr) ++ ((kSA cs asa (ag0 0) (ag1 0) (ag2 0) (ag3 0)) ++ ((kX5 cs ag0 (.ref (an0 0)) G0) ++ ((kJ40 cs an0 N0) ++ ((kX5 cs ag1 (.ref (an1 0)) G1) ++ ((kJ40 cs an1 N1) ++ ((kX5 cs ag2 (.ref (an2 0)) G2) ++ ((kJ40 cs an2 N2) ++ ((kX5 cs ag3 (.ref (an3 0)) G3) ++ ((kJ40 cs an3 N3))))))))))))))) (st1 := []) [] hx hb hml hown hu (tX0_start l D cs ach are aus af ac atr ase Ch Se Us Us_57 hg58) q570 q59 q567 q568 q569 pdX0_start ⟨rfl, rfl, Nat.le_of_ble_eq_true rfl, Nat.le_of_ble_eq_true rfl⟩ hK hZ hP hD hS hA [21, 22, 23, 24, 25, 2, 13, 14, 15, 16, 26, 27, 28, 29] [0, 1, 3, 4, 5, 6, 7, 8, 9, 10, 11, 12, 17, 18, 19, 20, 30, 31, 32, 33, 34, 35, 36, 37, 38] [0, 1, 30, 2, 3, 4, 5, 6, 7, 8, 9, 10, 11, 31, 32, 33, 34, 12, 13, 14, 15, 25, 26, 27, 28, 29, 35, 36, 37, 38, 16, 17, 18, 19, 20, 21, 22, 23, 24] rfl rfl rfl rfl rfl rfl rfl rfl rfl rfl hl.1 rfl (Nat.le_of_ble_eq_true rfl) dX7_read_38 rfl (fun H locs hP hD hS => ?_)
        refine lv_iconst (v := 0) hx hb dX7_read_41 (by decide) ?_
        refine lv_istore_n (lv' := [(2, .int 0), (0, .ref (ama 0)), (1, .int x1)]) hx hb dX7_read_42 rfl hl (by decide) rfl (fun ls hl => ?_)
        exact h43 400 x1 0 Ma Sc Tr Us_57 _ _ _ hP hD hS (lv_sub hl [1, 2, 0] rfl) hf
      · have hf := in_el hc56 hf
        refine lv_aload_n hx hb dX7_read_26 rfl (lv_at hl 0 rfl) ?_
        refine lv_ldcw (v := (-1000000006)) hx hb hown (hu _ q861) dX7_read_27 ?_
        obtain ⟨r59, Ma_60, hg61, hf⟩ := b2_el hf
        refine cc_V (w' := ((kX7 cs ama (.ref (are 0)) (.ref (are2 0)) (.ref (are3 0)) (.ref (ach 0)) (.ref (ata 0)) (.ref (asa 0)) Ma_60) ++ ((kX2 cs are (.ref (af 0)) (.ref (ac 0)) (.ref (atr 0)) (.ref (ase 0)) ) ++ ((kX1 cs af  Fo) ++ ((kX3 cs ac  Sc) ++ ((kX4 cs ase (.ref (af 0)) (.ref (ac 0)) (.ref (atr 0)) Se) ++ ((kX4 cs atr (.ref (af 0)) (.ref (ac 0)) .null Tr) ++ ((kX0 cs ach (.ref (are 0)) (.ref (aus 0)) Ch) ++ ((kX4 cs aus (.ref (af 0)) (.ref (ac 0)) (.ref (atr 0)) Us) ++ ((kSA cs asa (ag0 0) (ag1 0) (ag2 0) (ag3 0)) ++ ((kX5 cs ag0 (.ref (an0 0)) G0) ++ ((kJ40 cs an0 N0) ++ ((kX5 cs ag1 (.ref (an1 0)) G1) ++ ((kJ40 cs an1 N1) ++ ((kX5 cs ag2 (.ref (an2 0)) G2) ++ ((kJ40 cs an2 N2) ++ ((kX5 cs ag3 (.ref (an3 0)) G3) ++ ((kJ40 cs an3 N3))))))))))))))))))) (wr := ((kX2 cs are (.ref (af 0)) (.ref (ac 0)) (.ref (atr 0)) (.ref (ase 0)) ) ++ ((kX1 cs af  Fo) ++ ((kX3 cs ac  Sc) ++ ((kX4 cs ase (.ref (af 0)) (.ref (ac 0)) (.ref (atr 0)) Se) ++ ((kX4 cs atr (.ref (af 0)) (.ref (ac 0)) .null Tr) ++ ((kX0 cs ach (.ref (are 0)) (.ref (aus 0)) Ch) ++ ((kX4 cs aus (.ref (af 0)) (.ref (ac 0)) (.ref (atr 0)) Us) ++ ((kSA cs asa (ag0 0) (ag1 0) (ag2 0) (ag3 0)) ++ ((kX5 cs ag0 (.ref (an0 0)) G0) ++ ((kJ40 cs an0 N0) ++ ((kX5 cs ag1 (.ref (an1 0)) G1) ++ ((kJ40 cs an1 N1) ++ ((kX5 cs ag2 (.ref (an2 0)) G2) ++ ((kJ40 cs an2 N2) ++ ((kX5 cs ag3 (.ref (an3 0)) G3) ++ ((kJ40 cs an3 N3)))))))))))))))))) (st1 := [.int r59]) [.int (-1000000006)] hx hb hml hown hu (tX7_finding l D cs ama are are2 are3 ach ata asa (-1000000006) Ma r59 Ma_60 hg61) q339 q54 q336 q338 q0 pdX7_finding ⟨rfl, rfl, Nat.le_of_ble_eq_true rfl, Nat.le_of_ble_eq_true rfl⟩ hK hZ hP hD hS hA [0, 1] [2, 3, 4, 5, 6, 7, 8, 9, 10, 11, 12, 13, 14, 15, 16, 17, 18, 19, 20, 21, 22, 23, 24, 25, 26, 27, 28, 29, 30, 31, 32, 33, 34, 35, 36, 37, 38] [37, 38, 0, 1, 2, 3, 4, 5, 6, 7, 8, 9, 10, 11, 12, 13, 14, 15, 16, 17, 18, 19, 20, 21, 22, 23, 24, 25, 26, 27, 28, 29, 30, 31, 32, 33, 34, 35, 36] rfl rfl rfl rfl rfl rfl rfl rfl rfl rfl hl.1 rfl (Nat.le_of_ble_eq_true rfl) dX7_read_30 rfl (fun H locs hP hD hS => ?_)
        have he := Option.some.inj hf
        obtain ⟨e0, ht0⟩ := Prod.mk.inj he
        obtain ⟨e1, ht1⟩ := Prod.mk.inj ht0
        obtain ⟨e2, ht2⟩ := Prod.mk.inj ht1
        obtain ⟨e3, e4⟩ := Prod.mk.inj ht2
        exact hri _ _ _ rfl (congrArg (fun z => some (Value.int z)) e0.symm) dX7_read_33 _ _ _ (by rw [e1, e2, e3, e4]) hP hD hS
    have hf := in_el hc53 hf
    by_cases hc62 : x1 = 2
    · have hf := ip_el hc62 hf
      refine sa_lit (e := ag2 0) hx hb hK hP 30 rfl (k := 2) (by rw [hc62]; decide) rfl dX7_read_19 ?_
      obtain ⟨r63, hg64, hf⟩ := b1_el hf
      refine cc_V (w' := ((kX7 cs ama (.ref (are 0)) (.ref (are2 0)) (.ref (are3 0)) (.ref (ach 0)) (.ref (ata 0)) (.ref (asa 0)) Ma) ++ ((kX2 cs are (.ref (af 0)) (.ref (ac 0)) (.ref (atr 0)) (.ref (ase 0)) ) ++ ((kX1 cs af  Fo) ++ ((kX3 cs ac  Sc) ++ ((kX4 cs ase (.ref (af 0)) (.ref (ac 0)) (.ref (atr 0)) Se) ++ ((kX4 cs atr (.ref (af 0)) (.ref (ac 0)) .null Tr) ++ ((kX0 cs ach (.ref (are 0)) (.ref (aus 0)) Ch) ++ ((kX4 cs aus (.ref (af 0)) (.ref (ac 0)) (.ref (atr 0)) Us) ++ ((kSA cs asa (ag0 0) (ag1 0) (ag2 0) (ag3 0)) ++ ((kX5 cs ag0 (.ref (an0 0)) G0) ++ ((kJ40 cs an0 N0) ++ ((kX5 cs ag1 (.ref (an1 0)) G1) ++ ((kJ40 cs an1 N1) ++ ((kX5 cs ag2 (.ref (an2 0)) G2) ++ ((kJ40 cs an2 N2) ++ ((kX5 cs ag3 (.ref (an3 0)) G3) ++ ((kJ40 cs an3 N3))))))))))))))))))) (wr := ((kX7 cs ama (.ref (are 0)) (.ref (are2 0)) (.ref (are3 0)) (.ref (ach 0)) (.ref (ata 0)) (.ref (asa 0)) Ma) ++ ((kX2 cs are (.ref (af 0)) (.ref (ac 0)) (.ref (atr 0)) (.ref (ase 0)) ) ++ ((kX1 cs af  Fo) ++ ((kX3 cs ac  Sc) ++ ((kX4 cs ase (.ref (af 0)) (.ref (ac 0)) (.ref (atr 0)) Se) ++ ((kX4 cs atr (.ref (af 0)) (.ref (ac 0)) .null Tr) ++ ((kX0 cs ach (.ref (are 0)) (.ref (aus 0)) Ch) ++ ((kX4 cs aus (.ref (af 0)) (.ref (ac 0)) (.ref (atr 0)) Us) ++ ((kSA cs asa (ag0 0) (ag1 0) (ag2 0) (ag3 0)) ++ ((kX5 cs ag0 (.ref (an0 0)) G0) ++ ((kJ40 cs an0 N0) ++ ((kX5 cs ag1 (.ref (an1 0)) G1) ++ ((kJ40 cs an1 N1) ++ ((kJ40 cs an2 N2) ++ ((kX5 cs ag3 (.ref (an3 0)) G3) ++ ((kJ40 cs an3 N3)))))))))))))))))) (st1 := [.int r63]) [] hx hb hml hown hu (tX5_isMissing l D cs ag2 an2 G2 r63 hg64) q860 q61 q857 q858 q859 pdX5_isMissing ⟨rfl, rfl, Nat.le_of_ble_eq_true rfl, Nat.le_of_ble_eq_true rfl⟩ hK hZ hP hD hS hA [35] [0, 1, 2, 3, 4, 5, 6, 7, 8, 9, 10, 11, 12, 13, 14, 15, 16, 17, 18, 19, 20, 21, 22, 23, 24, 25, 26, 27, 28, 29, 30, 31, 32, 33, 34, 36, 37, 38] [0, 1, 2, 3, 4, 5, 6, 7, 8, 9, 10, 11, 12, 13, 14, 15, 16, 17, 18, 19, 20, 21, 22, 23, 24, 25, 26, 27, 28, 29, 30, 31, 32, 33, 34, 38, 35, 36, 37] rfl rfl rfl rfl rfl rfl rfl rfl rfl rfl hl.1 rfl (Nat.le_of_ble_eq_true rfl) dX7_read_20 rfl (fun H locs hP hD hS => ?_)
      refine lv_if_eq (tgt := 34) hx hb dX7_read_23 (by decide) (fun hc65 => ?_) (fun hc65 => ?_)
      · have hf := ip_el hc65 hf
        refine lv_aload_n hx hb dX7_read_34 rfl (lv_at hl 0 rfl) ?_
        refine va_get (D := D) (ci := 7) (v := .ref (ach 0)) (C := RX7) (T := TX7) (N := 8) hx hb hu inX7 hown hK.1 hP 0 rfl rfl 3 (by decide) (hu _ q303) (fun _ h9 => h9) rfl dX7_read_35 ?_
        obtain ⟨Us_66, hg67, hf⟩ := b1_el hf
        refine cc_V (w' := ((kX7 cs ama (.ref (are 0)) (.ref (are2 0)) (.ref (are3 0)) (.ref (ach 0)) (.ref (ata 0)) (.ref (asa 0)) Ma) ++ ((kX2 cs are (.ref (af 0)) (.ref (ac 0)) (.ref (atr 0)) (.ref (ase 0)) ) ++ ((kX1 cs af  Fo) ++ ((kX3 cs ac  Sc) ++ ((kX4 cs ase (.ref (af 0)) (.ref (ac 0)) (.ref (atr 0)) Se) ++ ((kX4 cs atr (.ref (af 0)) (.ref (ac 0)) .null Tr) ++ ((kX0 cs ach (.ref (are 0)) (.ref (aus 0)) Ch) ++ ((kX4 cs aus (.ref (af 0)) (.ref (ac 0)) (.ref (atr 0)) Us_66) ++ ((kSA cs asa (ag0 0) (ag1 0) (ag2 0) (ag3 0)) ++ ((kX5 cs ag0 (.ref (an0 0)) G0) ++ ((kJ40 cs an0 N0) ++ ((kX5 cs ag1 (.ref (an1 0)) G1) ++ ((kJ40 cs an1 N1) ++ ((kX5 cs ag2 (.ref (an2 0)) G2) ++ ((kJ40 cs an2 N2) ++ ((kX5 cs ag3 (.ref (an3 0)) G3) ++ ((kJ40 cs an3 N3))))))))))))))))))) (wr := ((kX7 cs ama (.ref (are 0)) (.ref (are2 0)) (.ref (are3 0)) (.ref (ach 0)) (.ref (ata 0)) (.ref (asa 0)) Ma) ++ ((kX1 cs af  Fo) ++ ((kX3 cs ac  Sc) ++ ((kX4 cs atr (.ref (af 0)) (.ref (ac 0)) .null Tr) ++ ((kSA cs asa (ag0 0) (ag1 0) (ag2 0) (ag3 0)) ++ ((kX5 cs ag0 (.ref (an0 0)) G0) ++ ((kJ40 cs an0 N0) ++ ((kX5 cs ag1 (.ref (an1 0)) G1) ++ ((kJ40 cs an1 N1) ++ ((kX5 cs ag2 (.ref (an2 0)) G2) ++ ((kJ40 cs an2 N2) ++ ((kX5 cs ag3 (.ref (an3 0)) G3) ++ ((kJ40 cs an3 N3))))))))))))))) (st1 := []) [] hx hb hml hown hu (tX0_start l D cs ach are aus af ac atr ase Ch Se Us Us_66 hg67) q570 q59 q567 q568 q569 pdX0_start ⟨rfl, rfl, Nat.le_of_ble_eq_true rfl, Nat.le_of_ble_eq_true rfl⟩ hK hZ hP hD hS hA [21, 22, 23, 24, 25, 2, 13, 14, 15, 16, 26, 27, 28, 29] [0, 1, 3, 4, 5, 6, 7, 8, 9, 10, 11, 12, 17, 18, 19, 20, 30, 31, 32, 33, 34, 35, 36, 37, 38] [0, 1, 30, 2, 3, 4, 5, 6, 7, 8, 9, 10, 11, 31, 32, 33, 34, 12, 13, 14, 15, 25, 26, 27, 28, 29, 35, 36, 37, 38, 16, 17, 18, 19, 20, 21, 22, 23, 24] rfl rfl rfl rfl rfl rfl rfl rfl rfl rfl hl.1 rfl (Nat.le_of_ble_eq_true rfl) dX7_read_38 rfl (fun H locs hP hD hS => ?_)
        refine lv_iconst (v := 0) hx hb dX7_read_41 (by decide) ?_
        refine lv_istore_n (lv' := [(2, .int 0), (0, .ref (ama 0)), (1, .int x1)]) hx hb dX7_read_42 rfl hl (by decide) rfl (fun ls hl => ?_)
        exact h43 400 x1 0 Ma Sc Tr Us_66 _ _ _ hP hD hS (lv_sub hl [1, 2, 0] rfl) hf
      · have hf := in_el hc65 hf
        refine lv_aload_n hx hb dX7_read_26 rfl (lv_at hl 0 rfl) ?_
        refine lv_ldcw (v := (-1000000006)) hx hb hown (hu _ q861) dX7_read_27 ?_
        obtain ⟨r68, Ma_69, hg70, hf⟩ := b2_el hf
        refine cc_V (w' := ((kX7 cs ama (.ref (are 0)) (.ref (are2 0)) (.ref (are3 0)) (.ref (ach 0)) (.ref (ata 0)) (.ref (asa 0)) Ma_69) ++ ((kX2 cs are (.ref (af 0)) (.ref (ac 0)) (.ref (atr 0)) (.ref (ase 0)) ) ++ ((kX1 cs af  Fo) ++ ((kX3 cs ac  Sc) ++ ((kX4 cs ase (.ref (af 0)) (.ref (ac 0)) (.ref (atr 0)) Se) ++ ((kX4 cs atr (.ref (af 0)) (.ref (ac 0)) .null Tr) ++ ((kX0 cs ach (.ref (are 0)) (.ref (aus 0)) Ch) ++ ((kX4 cs aus (.ref (af 0)) (.ref (ac 0)) (.ref (atr 0)) Us) ++ ((kSA cs asa (ag0 0) (ag1 0) (ag2 0) (ag3 0)) ++ ((kX5 cs ag0 (.ref (an0 0)) G0) ++ ((kJ40 cs an0 N0) ++ ((kX5 cs ag1 (.ref (an1 0)) G1) ++ ((kJ40 cs an1 N1) ++ ((kX5 cs ag2 (.ref (an2 0)) G2) ++ ((kJ40 cs an2 N2) ++ ((kX5 cs ag3 (.ref (an3 0)) G3) ++ ((kJ40 cs an3 N3))))))))))))))))))) (wr := ((kX2 cs are (.ref (af 0)) (.ref (ac 0)) (.ref (atr 0)) (.ref (ase 0)) ) ++ ((kX1 cs af  Fo) ++ ((kX3 cs ac  Sc) ++ ((kX4 cs ase (.ref (af 0)) (.ref (ac 0)) (.ref (atr 0)) Se) ++ ((kX4 cs atr (.ref (af 0)) (.ref (ac 0)) .null Tr) ++ ((kX0 cs ach (.ref (are 0)) (.ref (aus 0)) Ch) ++ ((kX4 cs aus (.ref (af 0)) (.ref (ac 0)) (.ref (atr 0)) Us) ++ ((kSA cs asa (ag0 0) (ag1 0) (ag2 0) (ag3 0)) ++ ((kX5 cs ag0 (.ref (an0 0)) G0) ++ ((kJ40 cs an0 N0) ++ ((kX5 cs ag1 (.ref (an1 0)) G1) ++ ((kJ40 cs an1 N1) ++ ((kX5 cs ag2 (.ref (an2 0)) G2) ++ ((kJ40 cs an2 N2) ++ ((kX5 cs ag3 (.ref (an3 0)) G3) ++ ((kJ40 cs an3 N3)))))))))))))))))) (st1 := [.int r68]) [.int (-1000000006)] hx hb hml hown hu (tX7_finding l D cs ama are are2 are3 ach ata asa (-1000000006) Ma r68 Ma_69 hg70) q339 q54 q336 q338 q0 pdX7_finding ⟨rfl, rfl, Nat.le_of_ble_eq_true rfl, Nat.le_of_ble_eq_true rfl⟩ hK hZ hP hD hS hA [0, 1] [2, 3, 4, 5, 6, 7, 8, 9, 10, 11, 12, 13, 14, 15, 16, 17, 18, 19, 20, 21, 22, 23, 24, 25, 26, 27, 28, 29, 30, 31, 32, 33, 34, 35, 36, 37, 38] [37, 38, 0, 1, 2, 3, 4, 5, 6, 7, 8, 9, 10, 11, 12, 13, 14, 15, 16, 17, 18, 19, 20, 21, 22, 23, 24, 25, 26, 27, 28, 29, 30, 31, 32, 33, 34, 35, 36] rfl rfl rfl rfl rfl rfl rfl rfl rfl rfl hl.1 rfl (Nat.le_of_ble_eq_true rfl) dX7_read_30 rfl (fun H locs hP hD hS => ?_)
        have he := Option.some.inj hf
        obtain ⟨e0, ht0⟩ := Prod.mk.inj he
        obtain ⟨e1, ht1⟩ := Prod.mk.inj ht0
        obtain ⟨e2, ht2⟩ := Prod.mk.inj ht1
        obtain ⟨e3, e4⟩ := Prod.mk.inj ht2
        exact hri _ _ _ rfl (congrArg (fun z => some (Value.int z)) e0.symm) dX7_read_33 _ _ _ (by rw [e1, e2, e3, e4]) hP hD hS
    have hf := in_el hc62 hf
    by_cases hc71 : x1 = 3
    · have hf := ip_el hc71 hf
      refine sa_lit (e := ag3 0) hx hb hK hP 30 rfl (k := 3) (by rw [hc71]; decide) rfl dX7_read_19 ?_
      obtain ⟨r72, hg73, hf⟩ := b1_el hf
      refine cc_V (w' := ((kX7 cs ama (.ref (are 0)) (.ref (are2 0)) (.ref (are3 0)) (.ref (ach 0)) (.ref (ata 0)) (.ref (asa 0)) Ma) ++ ((kX2 cs are (.ref (af 0)) (.ref (ac 0)) (.ref (atr 0)) (.ref (ase 0)) ) ++ ((kX1 cs af  Fo) ++ ((kX3 cs ac  Sc) ++ ((kX4 cs ase (.ref (af 0)) (.ref (ac 0)) (.ref (atr 0)) Se) ++ ((kX4 cs atr (.ref (af 0)) (.ref (ac 0)) .null Tr) ++ ((kX0 cs ach (.ref (are 0)) (.ref (aus 0)) Ch) ++ ((kX4 cs aus (.ref (af 0)) (.ref (ac 0)) (.ref (atr 0)) Us) ++ ((kSA cs asa (ag0 0) (ag1 0) (ag2 0) (ag3 0)) ++ ((kX5 cs ag0 (.ref (an0 0)) G0) ++ ((kJ40 cs an0 N0) ++ ((kX5 cs ag1 (.ref (an1 0)) G1) ++ ((kJ40 cs an1 N1) ++ ((kX5 cs ag2 (.ref (an2 0)) G2) ++ ((kJ40 cs an2 N2) ++ ((kX5 cs ag3 (.ref (an3 0)) G3) ++ ((kJ40 cs an3 N3))))))))))))))))))) (wr := ((kX7 cs ama (.ref (are 0)) (.ref (are2 0)) (.ref (are3 0)) (.ref (ach 0)) (.ref (ata 0)) (.ref (asa 0)) Ma) ++ ((kX2 cs are (.ref (af 0)) (.ref (ac 0)) (.ref (atr 0)) (.ref (ase 0)) ) ++ ((kX1 cs af  Fo) ++ ((kX3 cs ac  Sc) ++ ((kX4 cs ase (.ref (af 0)) (.ref (ac 0)) (.ref (atr 0)) Se) ++ ((kX4 cs atr (.ref (af 0)) (.ref (ac 0)) .null Tr) ++ ((kX0 cs ach (.ref (are 0)) (.ref (aus 0)) Ch) ++ ((kX4 cs aus (.ref (af 0)) (.ref (ac 0)) (.ref (atr 0)) Us) ++ ((kSA cs asa (ag0 0) (ag1 0) (ag2 0) (ag3 0)) ++ ((kX5 cs ag0 (.ref (an0 0)) G0) ++ ((kJ40 cs an0 N0) ++ ((kX5 cs ag1 (.ref (an1 0)) G1) ++ ((kJ40 cs an1 N1) ++ ((kX5 cs ag2 (.ref (an2 0)) G2) ++ ((kJ40 cs an2 N2) ++ ((kJ40 cs an3 N3)))))))))))))))))) (st1 := [.int r72]) [] hx hb hml hown hu (tX5_isMissing l D cs ag3 an3 G3 r72 hg73) q860 q61 q857 q858 q859 pdX5_isMissing ⟨rfl, rfl, Nat.le_of_ble_eq_true rfl, Nat.le_of_ble_eq_true rfl⟩ hK hZ hP hD hS hA [37] [0, 1, 2, 3, 4, 5, 6, 7, 8, 9, 10, 11, 12, 13, 14, 15, 16, 17, 18, 19, 20, 21, 22, 23, 24, 25, 26, 27, 28, 29, 30, 31, 32, 33, 34, 35, 36, 38] [0, 1, 2, 3, 4, 5, 6, 7, 8, 9, 10, 11, 12, 13, 14, 15, 16, 17, 18, 19, 20, 21, 22, 23, 24, 25, 26, 27, 28, 29, 30, 31, 32, 33, 34, 35, 36, 38, 37] rfl rfl rfl rfl rfl rfl rfl rfl rfl rfl hl.1 rfl (Nat.le_of_ble_eq_true rfl) dX7_read_20 rfl (fun H locs hP hD hS => ?_)
      refine lv_if_eq (tgt := 34) hx hb dX7_read_23 (by decide) (fun hc74 => ?_) (fun hc74 => ?_)
      · have hf := ip_el hc74 hf
        refine lv_aload_n hx hb dX7_read_34 rfl (lv_at hl 0 rfl) ?_
        refine va_get (D := D) (ci := 7) (v := .ref (ach 0)) (C := RX7) (T := TX7) (N := 8) hx hb hu inX7 hown hK.1 hP 0 rfl rfl 3 (by decide) (hu _ q303) (fun _ h9 => h9) rfl dX7_read_35 ?_
        obtain ⟨Us_75, hg76, hf⟩ := b1_el hf
        refine cc_V (w' := ((kX7 cs ama (.ref (are 0)) (.ref (are2 0)) (.ref (are3 0)) (.ref (ach 0)) (.ref (ata 0)) (.ref (asa 0)) Ma) ++ ((kX2 cs are (.ref (af 0)) (.ref (ac 0)) (.ref (atr 0)) (.ref (ase 0)) ) ++ ((kX1 cs af  Fo) ++ ((kX3 cs ac  Sc) ++ ((kX4 cs ase (.ref (af 0)) (.ref (ac 0)) (.ref (atr 0)) Se) ++ ((kX4 cs atr (.ref (af 0)) (.ref (ac 0)) .null Tr) ++ ((kX0 cs ach (.ref (are 0)) (.ref (aus 0)) Ch) ++ ((kX4 cs aus (.ref (af 0)) (.ref (ac 0)) (.ref (atr 0)) Us_75) ++ ((kSA cs asa (ag0 0) (ag1 0) (ag2 0) (ag3 0)) ++ ((kX5 cs ag0 (.ref (an0 0)) G0) ++ ((kJ40 cs an0 N0) ++ ((kX5 cs ag1 (.ref (an1 0)) G1) ++ ((kJ40 cs an1 N1) ++ ((kX5 cs ag2 (.ref (an2 0)) G2) ++ ((kJ40 cs an2 N2) ++ ((kX5 cs ag3 (.ref (an3 0)) G3) ++ ((kJ40 cs an3 N3))))))))))))))))))) (wr := ((kX7 cs ama (.ref (are 0)) (.ref (are2 0)) (.ref (are3 0)) (.ref (ach 0)) (.ref (ata 0)) (.ref (asa 0)) Ma) ++ ((kX1 cs af  Fo) ++ ((kX3 cs ac  Sc) ++ ((kX4 cs atr (.ref (af 0)) (.ref (ac 0)) .null Tr) ++ ((kSA cs asa (ag0 0) (ag1 0) (ag2 0) (ag3 0)) ++ ((kX5 cs ag0 (.ref (an0 0)) G0) ++ ((kJ40 cs an0 N0) ++ ((kX5 cs ag1 (.ref (an1 0)) G1) ++ ((kJ40 cs an1 N1) ++ ((kX5 cs ag2 (.ref (an2 0)) G2) ++ ((kJ40 cs an2 N2) ++ ((kX5 cs ag3 (.ref (an3 0)) G3) ++ ((kJ40 cs an3 N3))))))))))))))) (st1 := []) [] hx hb hml hown hu (tX0_start l D cs ach are aus af ac atr ase Ch Se Us Us_75 hg76) q570 q59 q567 q568 q569 pdX0_start ⟨rfl, rfl, Nat.le_of_ble_eq_true rfl, Nat.le_of_ble_eq_true rfl⟩ hK hZ hP hD hS hA [21, 22, 23, 24, 25, 2, 13, 14, 15, 16, 26, 27, 28, 29] [0, 1, 3, 4, 5, 6, 7, 8, 9, 10, 11, 12, 17, 18, 19, 20, 30, 31, 32, 33, 34, 35, 36, 37, 38] [0, 1, 30, 2, 3, 4, 5, 6, 7, 8, 9, 10, 11, 31, 32, 33, 34, 12, 13, 14, 15, 25, 26, 27, 28, 29, 35, 36, 37, 38, 16, 17, 18, 19, 20, 21, 22, 23, 24] rfl rfl rfl rfl rfl rfl rfl rfl rfl rfl hl.1 rfl (Nat.le_of_ble_eq_true rfl) dX7_read_38 rfl (fun H locs hP hD hS => ?_)
        refine lv_iconst (v := 0) hx hb dX7_read_41 (by decide) ?_
        refine lv_istore_n (lv' := [(2, .int 0), (0, .ref (ama 0)), (1, .int x1)]) hx hb dX7_read_42 rfl hl (by decide) rfl (fun ls hl => ?_)
        exact h43 400 x1 0 Ma Sc Tr Us_75 _ _ _ hP hD hS (lv_sub hl [1, 2, 0] rfl) hf
      · have hf := in_el hc74 hf
        refine lv_aload_n hx hb dX7_read_26 rfl (lv_at hl 0 rfl) ?_
        refine lv_ldcw (v := (-1000000006)) hx hb hown (hu _ q861) dX7_read_27 ?_
        obtain ⟨r77, Ma_78, hg79, hf⟩ := b2_el hf
        refine cc_V (w' := ((kX7 cs ama (.ref (are 0)) (.ref (are2 0)) (.ref (are3 0)) (.ref (ach 0)) (.ref (ata 0)) (.ref (asa 0)) Ma_78) ++ ((kX2 cs are (.ref (af 0)) (.ref (ac 0)) (.ref (atr 0)) (.ref (ase 0)) ) ++ ((kX1 cs af  Fo) ++ ((kX3 cs ac  Sc) ++ ((kX4 cs ase (.ref (af 0)) (.ref (ac 0)) (.ref (atr 0)) Se) ++ ((kX4 cs atr (.ref (af 0)) (.ref (ac 0)) .null Tr) ++ ((kX0 cs ach (.ref (are 0)) (.ref (aus 0)) Ch) ++ ((kX4 cs aus (.ref (af 0)) (.ref (ac 0)) (.ref (atr 0)) Us) ++ ((kSA cs asa (ag0 0) (ag1 0) (ag2 0) (ag3 0)) ++ ((kX5 cs ag0 (.ref (an0 0)) G0) ++ ((kJ40 cs an0 N0) ++ ((kX5 cs ag1 (.ref (an1 0)) G1) ++ ((kJ40 cs an1 N1) ++ ((kX5 cs ag2 (.ref (an2 0)) G2) ++ ((kJ40 cs an2 N2) ++ ((kX5 cs ag3 (.ref (an3 0)) G3) ++ ((kJ40 cs an3 N3))))))))))))))))))) (wr := ((kX2 cs are (.ref (af 0)) (.ref (ac 0)) (.ref (atr 0)) (.ref (ase 0)) ) ++ ((kX1 cs af  Fo) ++ ((kX3 cs ac  Sc) ++ ((kX4 cs ase (.ref (af 0)) (.ref (ac 0)) (.ref (atr 0)) Se) ++ ((kX4 cs atr (.ref (af 0)) (.ref (ac 0)) .null Tr) ++ ((kX0 cs ach (.ref (are 0)) (.ref (aus 0)) Ch) ++ ((kX4 cs aus (.ref (af 0)) (.ref (ac 0)) (.ref (atr 0)) Us) ++ ((kSA cs asa (ag0 0) (ag1 0) (ag2 0) (ag3 0)) ++ ((kX5 cs ag0 (.ref (an0 0)) G0) ++ ((kJ40 cs an0 N0) ++ ((kX5 cs ag1 (.ref (an1 0)) G1) ++ ((kJ40 cs an1 N1) ++ ((kX5 cs ag2 (.ref (an2 0)) G2) ++ ((kJ40 cs an2 N2) ++ ((kX5 cs ag3 (.ref (an3 0)) G3) ++ ((kJ40 cs an3 N3)))))))))))))))))) (st1 := [.int r77]) [.int (-1000000006)] hx hb hml hown hu (tX7_finding l D cs ama are are2 are3 ach ata asa (-1000000006) Ma r77 Ma_78 hg79) q339 q54 q336 q338 q0 pdX7_finding ⟨rfl, rfl, Nat.le_of_ble_eq_true rfl, Nat.le_of_ble_eq_true rfl⟩ hK hZ hP hD hS hA [0, 1] [2, 3, 4, 5, 6, 7, 8, 9, 10, 11, 12, 13, 14, 15, 16, 17, 18, 19, 20, 21, 22, 23, 24, 25, 26, 27, 28, 29, 30, 31, 32, 33, 34, 35, 36, 37, 38] [37, 38, 0, 1, 2, 3, 4, 5, 6, 7, 8, 9, 10, 11, 12, 13, 14, 15, 16, 17, 18, 19, 20, 21, 22, 23, 24, 25, 26, 27, 28, 29, 30, 31, 32, 33, 34, 35, 36] rfl rfl rfl rfl rfl rfl rfl rfl rfl rfl hl.1 rfl (Nat.le_of_ble_eq_true rfl) dX7_read_30 rfl (fun H locs hP hD hS => ?_)
        have he := Option.some.inj hf
        obtain ⟨e0, ht0⟩ := Prod.mk.inj he
        obtain ⟨e1, ht1⟩ := Prod.mk.inj ht0
        obtain ⟨e2, ht2⟩ := Prod.mk.inj ht1
        obtain ⟨e3, e4⟩ := Prod.mk.inj ht2
        exact hri _ _ _ rfl (congrArg (fun z => some (Value.int z)) e0.symm) dX7_read_33 _ _ _ (by rw [e1, e2, e3, e4]) hP hD hS
    have hf := in_el hc71 hf
    exact no_el hf
  · have hf := ip_el hc3 hf
    refine lv_aload_n hx hb dX7_read_7 rfl (lv_at hl 0 rfl) ?_
    refine lv_ldc (v := (-1000000001)) hx hb hown (hu _ q335) dX7_read_8 ?_
    obtain ⟨r80, Ma_81, hg82, hf⟩ := b2_el hf
    refine cc_V (w' := ((kX7 cs ama (.ref (are 0)) (.ref (are2 0)) (.ref (are3 0)) (.ref (ach 0)) (.ref (ata 0)) (.ref (asa 0)) Ma_81) ++ ((kX2 cs are (.ref (af 0)) (.ref (ac 0)) (.ref (atr 0)) (.ref (ase 0)) ) ++ ((kX1 cs af  Fo) ++ ((kX3 cs ac  Sc) ++ ((kX4 cs ase (.ref (af 0)) (.ref (ac 0)) (.ref (atr 0)) Se) ++ ((kX4 cs atr (.ref (af 0)) (.ref (ac 0)) .null Tr) ++ ((kX0 cs ach (.ref (are 0)) (.ref (aus 0)) Ch) ++ ((kX4 cs aus (.ref (af 0)) (.ref (ac 0)) (.ref (atr 0)) Us) ++ ((kSA cs asa (ag0 0) (ag1 0) (ag2 0) (ag3 0)) ++ ((kX5 cs ag0 (.ref (an0 0)) G0) ++ ((kJ40 cs an0 N0) ++ ((kX5 cs ag1 (.ref (an1 0)) G1) ++ ((kJ40 cs an1 N1) ++ ((kX5 cs ag2 (.ref (an2 0)) G2) ++ ((kJ40 cs an2 N2) ++ ((kX5 cs ag3 (.ref (an3 0)) G3) ++ ((kJ40 cs an3 N3))))))))))))))))))) (wr := ((kX2 cs are (.ref (af 0)) (.ref (ac 0)) (.ref (atr 0)) (.ref (ase 0)) ) ++ ((kX1 cs af  Fo) ++ ((kX3 cs ac  Sc) ++ ((kX4 cs ase (.ref (af 0)) (.ref (ac 0)) (.ref (atr 0)) Se) ++ ((kX4 cs atr (.ref (af 0)) (.ref (ac 0)) .null Tr) ++ ((kX0 cs ach (.ref (are 0)) (.ref (aus 0)) Ch) ++ ((kX4 cs aus (.ref (af 0)) (.ref (ac 0)) (.ref (atr 0)) Us) ++ ((kSA cs asa (ag0 0) (ag1 0) (ag2 0) (ag3 0)) ++ ((kX5 cs ag0 (.ref (an0 0)) G0) ++ ((kJ40 cs an0 N0) ++ ((kX5 cs ag1 (.ref (an1 0)) G1) ++ ((kJ40 cs an1 N1) ++ ((kX5 cs ag2 (.ref (an2 0)) G2) ++ ((kJ40 cs an2 N2) ++ ((kX5 cs ag3 (.ref (an3 0)) G3) ++ ((kJ40 cs an3 N3)))))))))))))))))) (st1 := [.int r80]) [.int (-1000000001)] hx hb hml hown hu (tX7_finding l D cs ama are are2 are3 ach ata asa (-1000000001) Ma r80 Ma_81 hg82) q339 q54 q336 q338 q0 pdX7_finding ⟨rfl, rfl, Nat.le_of_ble_eq_true rfl, Nat.le_of_ble_eq_true rfl⟩ hK hZ hP hD hS hA [0, 1] [2, 3, 4, 5, 6, 7, 8, 9, 10, 11, 12, 13, 14, 15, 16, 17, 18, 19, 20, 21, 22, 23, 24, 25, 26, 27, 28, 29, 30, 31, 32, 33, 34, 35, 36, 37, 38] [37, 38, 0, 1, 2, 3, 4, 5, 6, 7, 8, 9, 10, 11, 12, 13, 14, 15, 16, 17, 18, 19, 20, 21, 22, 23, 24, 25, 26, 27, 28, 29, 30, 31, 32, 33, 34, 35, 36] rfl rfl rfl rfl rfl rfl rfl rfl rfl rfl hl.1 rfl (Nat.le_of_ble_eq_true rfl) dX7_read_10 rfl (fun H locs hP hD hS => ?_)
    have he := Option.some.inj hf
    obtain ⟨e0, ht0⟩ := Prod.mk.inj he
    obtain ⟨e1, ht1⟩ := Prod.mk.inj ht0
    obtain ⟨e2, ht2⟩ := Prod.mk.inj ht1
    obtain ⟨e3, e4⟩ := Prod.mk.inj ht2
    exact hri _ _ _ rfl (congrArg (fun z => some (Value.int z)) e0.symm) dX7_read_13 _ _ _ (by rw [e1, e2, e3, e4]) hP hD hS
