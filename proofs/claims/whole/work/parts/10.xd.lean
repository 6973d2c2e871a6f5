def fX7_finding (x1 : Int32) (Ma : ST) : Option (Int32 × ST) :=
  dc_lt ((-1000000001) - x1) (fun v1 => (if v1 < 0 then some (x1, Ma) else (if 7 ≤ v1 then some (x1, Ma) else dc_ck v1 7 (dc_ck v1 7 (dc_lt (sti Ma 7 (Int32.toNatClampNeg v1) ((Ma 7 (Int32.toNatClampNeg v1)) + 1)) (fun Ma_6 => some (x1, Ma_6)))))))
abbrev rmX7_finding : Room := { frames := 0, cells := 0, slots := 0, locals := 0 }
set_option maxRecDepth 100000 in
set_option maxHeartbeats 4000000 in
theorem tX7_finding (l : Launch) (D : va_G) (cs : Nat → ClassId) (x : Nat → Nat) (g : Nat → Nat) (g2 : Nat → Nat) (g3 : Nat → Nat) (h : Nat → Nat) (t : Nat → Nat) (sa : Nat → Nat) (x1 : Int32) (Ma : ST) (r0 : Int32) (Maz : ST) (hf : fX7_finding x1 Ma = some (r0, Maz)) : CG l yX7_finding (wsm yX7_finding cX7_finding 3 (some .int)) rmX7_finding D cs [.ref (x 0), .int x1] (some (.int r0)) (kX7 cs x (.ref (g 0)) (.ref (g2 0)) (.ref (g3 0)) (.ref (h 0)) (.ref (t 0)) (.ref (sa 0)) Ma) (kX7 cs x (.ref (g 0)) (.ref (g2 0)) (.ref (g3 0)) (.ref (h 0)) (.ref (t 0)) (.ref (sa 0)) Maz) := by
  refine CG.intro (by decide) (Nat.le_of_ble_eq_true rfl) ?_
  intro p e s m below meth c A Q hx hb hml hown hu hK hZ hP0 hD0 hS0 hA hri hrz hrl hrv hra ls0 hl0
  have hl : lv_has ls0 3 [(0, .ref (x 0)), (1, .int x1)] := hl0
  have hP := hP0
  have hD := hD0
  have hS := hS0
  unfold fX7_finding at hf
  refine lv_ldc (v := (-1000000001)) hx hb hown (hu _ q335) dX7_finding_0 ?_
  refine lv_iload_n hx hb dX7_finding_2 rfl (lv_at hl 1 rfl) ?_
  refine lv_isub hx hb dX7_finding_3 ?_
  obtain ⟨v1, hv1, hf⟩ := lt_el hf
  refine lv_tope hv1 ?_
  refine lv_istore_n (lv' := [(2, .int v1), (0, .ref (x 0)), (1, .int x1)]) hx hb dX7_finding_4 rfl hl (by decide) rfl (fun ls hl => ?_)
  refine lv_iload_n hx hb dX7_finding_5 rfl (lv_at hl 0 rfl) ?_
  refine lv_if_lt (tgt := 25) hx hb dX7_finding_6 (by decide) (fun hc2 => ?_) (fun hc2 => ?_)
  · have hf := ip_el hc2 hf
    refine lv_iload_n hx hb dX7_finding_25 rfl (lv_at hl 2 rfl) ?_
    have he := Option.some.inj hf
    obtain ⟨e0, e1⟩ := Prod.mk.inj he
    exact hri _ _ _ rfl (congrArg (fun z => some (Value.int z)) e0.symm) dX7_finding_26 _ _ _ (by rw [e1]) hP hD hS
  · have hf := in_el hc2 hf
    refine lv_iload_n hx hb dX7_finding_9 rfl (lv_at hl 0 rfl) ?_
    refine lv_bipush (v := 7) hx hb dX7_finding_10 (by decide) ?_
    refine lv_icmp_ge (tgt := 25) hx hb dX7_finding_12 (by decide) (fun hc3 => ?_) (fun hc3 => ?_)
    · have hf := ip_el hc3 hf
      refine lv_iload_n hx hb dX7_finding_25 rfl (lv_at hl 2 rfl) ?_
      have he := Option.some.inj hf
      obtain ⟨e0, e1⟩ := Prod.mk.inj he
      exact hri _ _ _ rfl (congrArg (fun z => some (Value.int z)) e0.symm) dX7_finding_26 _ _ _ (by rw [e1]) hP hD hS
    · have hf := in_el hc3 hf
      refine lv_aload_n hx hb dX7_finding_15 rfl (lv_at hl 1 rfl) ?_
      refine va_get (D := D) (ci := 7) (v := .ref (x 7)) (C := RX7) (T := TX7) (N := 8) hx hb hu inX7 hown hK.1 hP 0 rfl rfl 6 (by decide) (hu _ q306) (fun _ h9 => h9) rfl dX7_finding_16 ?_
      refine lv_iload_n hx hb dX7_finding_19 rfl (lv_at hl 0 rfl) ?_
      refine lv_dup2_11 hx hb dX7_finding_20 rfl rfl ?_
      obtain ⟨hi4, hf⟩ := ck_el hf
      refine va_iald hx hb hK.1 hP 1 0 rfl rfl hi4 dX7_finding_21 ?_
      refine lv_iconst (v := 1) hx hb dX7_finding_22 (by decide) ?_
      refine lv_iadd hx hb dX7_finding_23 ?_
      obtain ⟨hi5, hf⟩ := ck_el hf
      obtain ⟨Ma_6, hMa_6, hf⟩ := lt_el hf
      refine va_iast hx hb hK.1 hP hD hS 1 0 rfl rfl hi5 dX7_finding_24 (fun H locs hP hD hS => ?_)
      have hP : va_P D vwCl (kX7 cs x (.ref (g 0)) (.ref (g2 0)) (.ref (g3 0)) (.ref (h 0)) (.ref (t 0)) (.ref (sa 0)) Ma_6) H := by rw [hMa_6]; exact hP
      have hD : va_D A (kX7 cs x (.ref (g 0)) (.ref (g2 0)) (.ref (g3 0)) (.ref (h 0)) (.ref (t 0)) (.ref (sa 0)) Ma_6) := by rw [hMa_6]; exact hD
      refine lv_iload_n hx hb dX7_finding_25 rfl (lv_at hl 2 rfl) ?_
      have he := Option.some.inj hf
      obtain ⟨e0, e1⟩ := Prod.mk.inj he
      exact hri _ _ _ rfl (congrArg (fun z => some (Value.int z)) e0.symm) dX7_finding_26 _ _ _ (by rw [e1]) hP hD hS

def fX7_isOne (x1 : Int32) (Ma : ST) (Fo : ST) : Option Int32 :=
  dc_b1 (fX7_within x1 0 ((Fo 0 0) - 1)) (fun r1 => dc_bl r1 (some r1))
abbrev rmX7_isOne : Room := { frames := 1, cells := 0, slots := 0, locals := 22 }
set_option maxRecDepth 100000 in
set_option maxHeartbeats 4000000 in
theorem tX7_isOne (l : Launch) (D : va_G) (cs : Nat → ClassId) (x : Nat → Nat) (g : Nat → Nat) (g2 : Nat → Nat) (g3 : Nat → Nat) (h : Nat → Nat) (t : Nat → Nat) (sa : Nat → Nat) (b : Nat → Nat) (c : Nat → Nat) (d : Nat → Nat) (a : Nat → Nat) (x1 : Int32) (Ma : ST) (Fo : ST) (r0 : Int32) (hf : fX7_isOne x1 Ma Fo = some r0) : CG l yX7_isOne (wsm yX7_isOne cX7_isOne 2 (some .boolean)) rmX7_isOne D cs [.ref (x 0), .int x1] (some (.int r0)) ((kX7 cs x (.ref (g 0)) (.ref (g2 0)) (.ref (g3 0)) (.ref (h 0)) (.ref (t 0)) (.ref (sa 0)) Ma) ++ (kX2 cs g (.ref (b 0)) (.ref (c 0)) (.ref (d 0)) (.ref (a 0)) ) ++ (kX1 cs b  Fo)) ((kX7 cs x (.ref (g 0)) (.ref (g2 0)) (.ref (g3 0)) (.ref (h 0)) (.ref (t 0)) (.ref (sa 0)) Ma) ++ (kX2 cs g (.ref (b 0)) (.ref (c 0)) (.ref (d 0)) (.ref (a 0)) ) ++ (kX1 cs b  Fo)) := by
  refine CG.intro (by decide) (Nat.le_of_ble_eq_true rfl) ?_
  intro p e s m below meth c A Q hx hb hml hown hu hK hZ hP0 hD0 hS0 hA hri hrz hrl hrv hra ls0 hl0
  have hl : lv_has ls0 2 [(0, .ref (x 0)), (1, .int x1)] := hl0
  have hP := hP0
  have hD := hD0
  have hS := hS0
  unfold fX7_isOne at hf
  refine lv_iload_n hx hb dX7_isOne_0 rfl (lv_at hl 1 rfl) ?_
  refine lv_iconst (v := 0) hx hb dX7_isOne_1 (by decide) ?_
  refine lv_aload_n hx hb dX7_isOne_2 rfl (lv_at hl 0 rfl) ?_
  refine va_get (D := D) (ci := 7) (v := .ref (g 0)) (C := RX7) (T := TX7) (N := 8) hx hb hu inX7 hown hK.1 hP 0 rfl rfl 0 (by decide) (hu _ q300) (fun _ h9 => h9) rfl dX7_isOne_3 ?_
  refine va_get (D := D) (ci := 2) (v := .ref (b 0)) (C := RX2) (T := TX2) (N := 4) hx hb hu inX2 hown hK.1 hP 2 rfl rfl 0 (by decide) (hu _ q196) (fun _ h9 => h9) rfl dX7_isOne_6 ?_
  refine va_get (D := D) (ci := 1) (v := .int (Fo 0 0)) (C := RX1) (T := TX1) (N := 9) hx hb hu inX1 hown hK.1 hP 3 rfl rfl 0 (by decide) (hu _ q93) (fun _ h9 => h9) rfl dX7_isOne_9 ?_
  refine lv_iconst (v := 1) hx hb dX7_isOne_12 (by decide) ?_
  refine lv_isub hx hb dX7_isOne_13 ?_
  obtain ⟨r1, hg2, hf⟩ := b1_el hf
  refine cc_S0 (st1 := [.int r1]) [.int x1, .int 0, .int ((Fo 0 0) - 1)] hx hb hml hown hu (tX7_within l D cs x1 0 ((Fo 0 0) - 1) r1 hg2) q331 q54 q329 q330 pdX7_within ⟨rfl, rfl, Nat.le_of_ble_eq_true rfl, Nat.le_of_ble_eq_true rfl⟩ hK hZ hP hD hS hA rfl hl.1 rfl (Nat.le_of_ble_eq_true rfl) dX7_isOne_14 rfl (fun H locs hP hD hS => ?_)
  obtain ⟨hbl, hf⟩ := bl_el hf
  have he := Option.some.inj hf
  have e0 := he
  exact hrz _ _ _ .boolean rfl (bl_nar hbl) (congrArg (fun z => some (Value.int z)) e0.symm) dX7_isOne_17 _ _ _ rfl hP hD hS

def fX7_areTwo (x1 : Int32) (x2 : Int32) (Ma : ST) (Fo : ST) : Option Int32 :=
  dc_b1 (fX7_isOne x1 Ma Fo) (fun r1 => (if r1 = 0 then some 0 else dc_b1 (fX7_isOne x2 Ma Fo) (fun r4 => (if r4 = 0 then some 0 else (if x1 = x2 then some 0 else some 1)))))
abbrev rmX7_areTwo : Room := { frames := 2, cells := 0, slots := 0, locals := 43 }
set_option maxRecDepth 100000 in
set_option maxHeartbeats 4000000 in
theorem tX7_areTwo (l : Launch) (D : va_G) (cs : Nat → ClassId) (x : Nat → Nat) (g : Nat → Nat) (g2 : Nat → Nat) (g3 : Nat → Nat) (h : Nat → Nat) (t : Nat → Nat) (sa : Nat → Nat) (b : Nat → Nat) (c : Nat → Nat) (d : Nat → Nat) (a : Nat → Nat) (x1 : Int32) (x2 : Int32) (Ma : ST) (Fo : ST) (r0 : Int32) (hf : fX7_areTwo x1 x2 Ma Fo = some r0) : CG l yX7_areTwo (wsm yX7_areTwo cX7_areTwo 3 (some .boolean)) rmX7_areTwo D cs [.ref (x 0), .int x1, .int x2] (some (.int r0)) ((kX7 cs x (.ref (g 0)) (.ref (g2 0)) (.ref (g3 0)) (.ref (h 0)) (.ref (t 0)) (.ref (sa 0)) Ma) ++ (kX2 cs g (.ref (b 0)) (.ref (c 0)) (.ref (d 0)) (.ref (a 0)) ) ++ (kX1 cs b  Fo)) ((kX7 cs x (.ref (g 0)) (.ref (g2 0)) (.ref (g3 0)) (.ref (h 0)) (.ref (t 0)) (.ref (sa 0)) Ma) ++ (kX2 cs g (.ref (b 0)) (.ref (c 0)) (.ref (d 0)) (.ref (a 0)) ) ++ (kX1 cs b  Fo)) := by
  refine CG.intro (by decide) (Nat.le_of_ble_eq_true rfl) ?_
  intro p e s m below meth c A Q hx hb hml hown hu hK hZ hP0 hD0 hS0 hA hri hrz hrl hrv hra ls0 hl0
  have hl : lv_has ls0 3 [(0, .ref (x 0)), (1, .int x1), (2, .int x2)] := hl0
  have hP := hP0
  have hD := hD0
  have hS := hS0
  unfold fX7_areTwo at hf
  refine lv_aload_n hx hb dX7_areTwo_0 rfl (lv_at hl 0 rfl) ?_
  refine lv_iload_n hx hb dX7_areTwo_1 rfl (lv_at hl 1 rfl) ?_
  obtain ⟨r1, hg2, hf⟩ := b1_el hf
  refine cc_V1 (w' := ((kX7 cs x (.ref (g 0)) (.ref (g2 0)) (.ref (g3 0)) (.ref (h 0)) (.ref (t 0)) (.ref (sa 0)) Ma) ++ (kX2 cs g (.ref (b 0)) (.ref (c 0)) (.ref (d 0)) (.ref (a 0)) ) ++ (kX1 cs b  Fo))) (st1 := [.int r1]) [.int x1] hx hb hml hown hu (tX7_isOne l D cs x g g2 g3 h t sa b c d a x1 Ma Fo r1 hg2) q352 q54 q349 q351 q1 pdX7_isOne ⟨rfl, rfl, Nat.le_of_ble_eq_true rfl, Nat.le_of_ble_eq_true rfl⟩ hK hZ hP hD hS hA rfl rfl rfl rfl hl.1 rfl (Nat.le_of_ble_eq_true rfl) dX7_areTwo_2 rfl (fun H locs hP hD hS => ?_)
  refine lv_if_eq (tgt := 25) hx hb dX7_areTwo_5 (by decide) (fun hc3 => ?_) (fun hc3 => ?_)
  · have hf := ip_el hc3 hf
    refine lv_iconst (v := 0) hx hb dX7_areTwo_25 (by decide) ?_
    have he := Option.some.inj hf
    have e0 := he
    exact hrz _ _ _ .boolean rfl rfl (congrArg (fun z => some (Value.int z)) e0.symm) dX7_areTwo_26 _ _ _ rfl hP hD hS
  · have hf := in_el hc3 hf
    refine lv_aload_n hx hb dX7_areTwo_8 rfl (lv_at hl 0 rfl) ?_
    refine lv_iload_n hx hb dX7_areTwo_9 rfl (lv_at hl 2 rfl) ?_
    obtain ⟨r4, hg5, hf⟩ := b1_el hf
    refine cc_V1 (w' := ((kX7 cs x (.ref (g 0)) (.ref (g2 0)) (.ref (g3 0)) (.ref (h 0)) (.ref (t 0)) (.ref (sa 0)) Ma) ++ (kX2 cs g (.ref (b 0)) (.ref (c 0)) (.ref (d 0)) (.ref (a 0)) ) ++ (kX1 cs b  Fo))) (st1 := [.int r4]) [.int x2] hx hb hml hown hu (tX7_isOne l D cs x g g2 g3 h t sa b c d a x2 Ma Fo r4 hg5) q352 q54 q349 q351 q1 pdX7_isOne ⟨rfl, rfl, Nat.le_of_ble_eq_true rfl, Nat.le_of_ble_eq_true rfl⟩ hK hZ hP hD hS hA rfl rfl rfl rfl hl.1 rfl (Nat.le_of_ble_eq_true rfl) dX7_areTwo_10 rfl (fun H locs hP hD hS => ?_)
    refine lv_if_eq (tgt := 25) hx hb dX7_areTwo_13 (by decide) (fun hc6 => ?_) (fun hc6 => ?_)
    · have hf := ip_el hc6 hf
      refine lv_iconst (v := 0) hx hb dX7_areTwo_25 (by decide) ?_
      have he := Option.some.inj hf
      have e0 := he
      exact hrz _ _ _ .boolean rfl rfl (congrArg (fun z => some (Value.int z)) e0.symm) dX7_areTwo_26 _ _ _ rfl hP hD hS
    · have hf := in_el hc6 hf
      refine lv_iload_n hx hb dX7_areTwo_16 rfl (lv_at hl 1 rfl) ?_
      refine lv_iload_n hx hb dX7_areTwo_17 rfl (lv_at hl 2 rfl) ?_
      refine lv_icmp_eq (tgt := 25) hx hb dX7_areTwo_18 (by decide) (fun hc7 => ?_) (fun hc7 => ?_)
      · have hf := ip_el hc7 hf
        refine lv_iconst (v := 0) hx hb dX7_areTwo_25 (by decide) ?_
        have he := Option.some.inj hf
        have e0 := he
        exact hrz _ _ _ .boolean rfl rfl (congrArg (fun z => some (Value.int z)) e0.symm) dX7_areTwo_26 _ _ _ rfl hP hD hS
      · have hf := in_el hc7 hf
        refine lv_iconst (v := 1) hx hb dX7_areTwo_21 (by decide) ?_
        refine lv_goto (tgt := 26) hx hb dX7_areTwo_22 (by decide) ?_
        have he := Option.some.inj hf
        have e0 := he
        exact hrz _ _ _ .boolean rfl rfl (congrArg (fun z => some (Value.int z)) e0.symm) dX7_areTwo_26 _ _ _ rfl hP hD hS

def fX7_isPlace (x1 : Int32) (Ma : ST) (Se : ST) : Option Int32 :=
  dc_b1 (fX7_within x1 0 ((Se 4 0) - 1)) (fun r1 => dc_bl r1 (some r1))
abbrev rmX7_isPlace : Room := { frames := 1, cells := 0, slots := 0, locals := 22 }
set_option maxRecDepth 100000 in
set_option maxHeartbeats 4000000 in
theorem tX7_isPlace (l : Launch) (D : va_G) (cs : Nat → ClassId) (x : Nat → Nat) (g : Nat → Nat) (g2 : Nat → Nat) (g3 : Nat → Nat) (h : Nat → Nat) (t : Nat → Nat) (sa : Nat → Nat) (b : Nat → Nat) (c : Nat → Nat) (d : Nat → Nat) (a : Nat → Nat) (x1 : Int32) (Ma : ST) (Se : ST) (r0 : Int32) (hf : fX7_isPlace x1 Ma Se = some r0) : CG l yX7_isPlace (wsm yX7_isPlace cX7_isPlace 2 (some .boolean)) rmX7_isPlace D cs [.ref (x 0), .int x1] (some (.int r0)) ((kX7 cs x (.ref (g 0)) (.ref (g2 0)) (.ref (g3 0)) (.ref (h 0)) (.ref (t 0)) (.ref (sa 0)) Ma) ++ (kX2 cs g (.ref (b 0)) (.ref (c 0)) (.ref (d 0)) (.ref (a 0)) ) ++ (kX4 cs a (.ref (b 0)) (.ref (c 0)) (.ref (d 0)) Se)) ((kX7 cs x (.ref (g 0)) (.ref (g2 0)) (.ref (g3 0)) (.ref (h 0)) (.ref (t 0)) (.ref (sa 0)) Ma) ++ (kX2 cs g (.ref (b 0)) (.ref (c 0)) (.ref (d 0)) (.ref (a 0)) ) ++ (kX4 cs a (.ref (b 0)) (.ref (c 0)) (.ref (d 0)) Se)) := by
  refine CG.intro (by decide) (Nat.le_of_ble_eq_true rfl) ?_
  intro p e s m below meth c A Q hx hb hml hown hu hK hZ hP0 hD0 hS0 hA hri hrz hrl hrv hra ls0 hl0
  have hl : lv_has ls0 2 [(0, .ref (x 0)), (1, .int x1)] := hl0
  have hP := hP0
  have hD := hD0
  have hS := hS0
  unfold fX7_isPlace at hf
  refine lv_iload_n hx hb dX7_isPlace_0 rfl (lv_at hl 1 rfl) ?_
  refine lv_iconst (v := 0) hx hb dX7_isPlace_1 (by decide) ?_
  refine lv_aload_n hx hb dX7_isPlace_2 rfl (lv_at hl 0 rfl) ?_
  refine va_get (D := D) (ci := 7) (v := .ref (g 0)) (C := RX7) (T := TX7) (N := 8) hx hb hu inX7 hown hK.1 hP 0 rfl rfl 0 (by decide) (hu _ q300) (fun _ h9 => h9) rfl dX7_isPlace_3 ?_
  refine va_get (D := D) (ci := 2) (v := .ref (a 0)) (C := RX2) (T := TX2) (N := 4) hx hb hu inX2 hown hK.1 hP 2 rfl rfl 3 (by decide) (hu _ q204) (fun _ h9 => h9) rfl dX7_isPlace_6 ?_
  refine va_get (D := D) (ci := 4) (v := .ref (a 4)) (C := RX4) (T := TX4) (N := 10) hx hb hu inX4 hown hK.1 hP 3 rfl rfl 3 (by decide) (hu _ q162) (fun _ h9 => h9) rfl dX7_isPlace_9 ?_
  refine lv_iconst (v := 0) hx hb dX7_isPlace_12 (by decide) ?_
  refine ia_lit hx hb hK hP 4 0 rfl (by decide) dX7_isPlace_13 ?_
  refine lv_iconst (v := 1) hx hb dX7_isPlace_14 (by decide) ?_
  refine lv_isub hx hb dX7_isPlace_15 ?_
  obtain ⟨r1, hg2, hf⟩ := b1_el hf
  refine cc_S0 (st1 := [.int r1]) [.int x1, .int 0, .int ((Se 4 0) - 1)] hx hb hml hown hu (tX7_within l D cs x1 0 ((Se 4 0) - 1) r1 hg2) q331 q54 q329 q330 pdX7_within ⟨rfl, rfl, Nat.le_of_ble_eq_true rfl, Nat.le_of_ble_eq_true rfl⟩ hK hZ hP hD hS hA rfl hl.1 rfl (Nat.le_of_ble_eq_true rfl) dX7_isPlace_16 rfl (fun H locs hP hD hS => ?_)
  obtain ⟨hbl, hf⟩ := bl_el hf
  have he := Option.some.inj hf
  have e0 := he
  exact hrz _ _ _ .boolean rfl (bl_nar hbl) (congrArg (fun z => some (Value.int z)) e0.symm) dX7_isPlace_19 _ _ _ rfl hP hD hS

def fX7_mayStandInLine_34 (Ma : ST) (Fo : ST) (Se : ST) (y1 : Int32) (s0 : Int32) : Option Int32 :=
  dc_b1 (fX1_isAlive y1 Fo) (fun r2 => (if r2 = 0 then some 0 else dc_b1 (fX4_placeOf y1 Se) (fun r5 => (if 0 ≤ r5 then some 0 else (if s0 = 0 then some 1 else some 0)))))
def fX7_mayStandInLine (x1 : Int32) (Ma : ST) (Fo : ST) (Se : ST) : Option Int32 :=
  (if x1 = (Se 0 6) then (if (Se 4 2) = 0 then fX7_mayStandInLine_34 Ma Fo Se x1 1 else fX7_mayStandInLine_34 Ma Fo Se x1 0) else fX7_mayStandInLine_34 Ma Fo Se x1 0)
abbrev rmX7_mayStandInLine : Room := { frames := 2, cells := 0, slots := 0, locals := 42 }
set_option maxRecDepth 100000 in
set_option maxHeartbeats 4000000 in
theorem tX7_mayStandInLine (l : Launch) (D : va_G) (cs : Nat → ClassId) (x : Nat → Nat) (g : Nat → Nat) (g2 : Nat → Nat) (g3 : Nat → Nat) (h : Nat → Nat) (t : Nat → Nat) (sa : Nat → Nat) (b : Nat → Nat) (c : Nat → Nat) (d : Nat → Nat) (a : Nat → Nat) (x1 : Int32) (Ma : ST) (Fo : ST) (Se : ST) (r0 : Int32) (hf : fX7_mayStandInLine x1 Ma Fo Se = some r0) : CG l yX7_mayStandInLine (wsm yX7_mayStandInLine cX7_mayStandInLine 3 (some .boolean)) rmX7_mayStandInLine D cs [.ref (x 0), .int x1] (some (.int r0)) ((kX7 cs x (.ref (g 0)) (.ref (g2 0)) (.ref (g3 0)) (.ref (h 0)) (.ref (t 0)) (.ref (sa 0)) Ma) ++ (kX2 cs g (.ref (b 0)) (.ref (c 0)) (.ref (d 0)) (.ref (a 0)) ) ++ (kX1 cs b  Fo) ++ (kX4 cs a (.ref (b 0)) (.ref (c 0)) (.ref (d 0)) Se)) ((kX7 cs x (.ref (g 0)) (.ref (g2 0)) (.ref (g3 0)) (.ref (h 0)) (.ref (t 0)) (.ref (sa 0)) Ma) ++ (kX2 cs g (.ref (b 0)) (.ref (c 0)) (.ref (d 0)) (.ref (a 0)) ) ++ (kX1 cs b  Fo) ++ (kX4 cs a (.ref (b 0)) (.ref (c 0)) (.ref (d 0)) Se)) := by
  refine CG.intro (by decide) (Nat.le_of_ble_eq_true rfl) ?_
  intro p e s m below meth c A Q hx hb hml hown hu hK hZ hP0 hD0 hS0 hA hri hrz hrl hrv hra ls0 hl0
  have h34 : ∀ (y1 : Int32) (s0 : Int32) (H : Heap) (locs : List Loc) (ls : Array Slot), va_P D vwCl ((kX7 cs x (.ref (g 0)) (.ref (g2 0)) (.ref (g3 0)) (.ref (h 0)) (.ref (t 0)) (.ref (sa 0)) Ma) ++ (kX2 cs g (.ref (b 0)) (.ref (c 0)) (.ref (d 0)) (.ref (a 0)) ) ++ (kX1 cs b  Fo) ++ (kX4 cs a (.ref (b 0)) (.ref (c 0)) (.ref (d 0)) Se)) H → va_D A ((kX7 cs x (.ref (g 0)) (.ref (g2 0)) (.ref (g3 0)) (.ref (h 0)) (.ref (t 0)) (.ref (sa 0)) Ma) ++ (kX2 cs g (.ref (b 0)) (.ref (c 0)) (.ref (d 0)) (.ref (a 0)) ) ++ (kX1 cs b  Fo) ++ (kX4 cs a (.ref (b 0)) (.ref (c 0)) (.ref (d 0)) Se)) → va_S A s.heap H locs → lv_has ls 3 [(0, .ref (x 0)), (1, .int y1)] → fX7_mayStandInLine_34 Ma Fo Se y1 s0 = some r0 → W p l e rmX7_mayStandInLine s m [.ref (x 0), .int x1].toArray below meth c H locs 0 0 Q (F0 m 34 ls [.int s0]) := by
    intro y1 s0 H locs ls hP hD hS hl hf
    unfold fX7_mayStandInLine_34 at hf
    refine lv_istore_n (lv' := [(2, .int s0), (0, .ref (x 0)), (1, .int y1)]) hx hb dX7_mayStandInLine_34 rfl hl (by decide) rfl (fun ls hl => ?_)
    refine lv_aload_n hx hb dX7_mayStandInLine_35 rfl (lv_at hl 1 rfl) ?_
    refine va_get (D := D) (ci := 7) (v := .ref (g 0)) (C := RX7) (T := TX7) (N := 8) hx hb hu inX7 hown hK.1 hP 0 rfl rfl 0 (by decide) (hu _ q300) (fun _ h9 => h9) rfl dX7_mayStandInLine_36 ?_
    refine va_get (D := D) (ci := 2) (v := .ref (b 0)) (C := RX2) (T := TX2) (N := 4) hx hb hu inX2 hown hK.1 hP 2 rfl rfl 0 (by decide) (hu _ q196) (fun _ h9 => h9) rfl dX7_mayStandInLine_39 ?_
    refine lv_iload_n hx hb dX7_mayStandInLine_42 rfl (lv_at hl 2 rfl) ?_
    obtain ⟨r2, hg3, hf⟩ := b1_el hf
    refine cc_V (w' := ((kX7 cs x (.ref (g 0)) (.ref (g2 0)) (.ref (g3 0)) (.ref (h 0)) (.ref (t 0)) (.ref (sa 0)) Ma) ++ (kX2 cs g (.ref (b 0)) (.ref (c 0)) (.ref (d 0)) (.ref (a 0)) ) ++ (kX1 cs b  Fo) ++ (kX4 cs a (.ref (b 0)) (.ref (c 0)) (.ref (d 0)) Se))) (wr := ((kX7 cs x (.ref (g 0)) (.ref (g2 0)) (.ref (g3 0)) (.ref (h 0)) (.ref (t 0)) (.ref (sa 0)) Ma) ++ (kX2 cs g (.ref (b 0)) (.ref (c 0)) (.ref (d 0)) (.ref (a 0)) ) ++ (kX4 cs a (.ref (b 0)) (.ref (c 0)) (.ref (d 0)) Se))) (st1 := [.int r2]) [.int y1] hx hb hml hown hu (tX1_isAlive l D cs b y1 Fo r2 hg3) q356 q56 q353 q354 q355 pdX1_isAlive ⟨rfl, rfl, Nat.le_of_ble_eq_true rfl, Nat.le_of_ble_eq_true rfl⟩ hK hZ hP hD hS hA [3, 4, 5, 6, 7, 8, 9] [0, 1, 2, 10, 11, 12, 13] [0, 1, 2, 7, 8, 9, 10, 11, 12, 13, 3, 4, 5, 6] rfl rfl rfl rfl rfl rfl rfl rfl rfl rfl hl.1 rfl (Nat.le_of_ble_eq_true rfl) dX7_mayStandInLine_43 rfl (fun H locs hP hD hS => ?_)
    refine lv_if_eq (tgt := 71) hx hb dX7_mayStandInLine_46 (by decide) (fun hc4 => ?_) (fun hc4 => ?_)
    · have hf := ip_el hc4 hf
      refine lv_iconst (v := 0) hx hb dX7_mayStandInLine_71 (by decide) ?_
      have he := Option.some.inj hf
      have e0 := he
      exact hrz _ _ _ .boolean rfl rfl (congrArg (fun z => some (Value.int z)) e0.symm) dX7_mayStandInLine_72 _ _ _ rfl hP hD hS
    · have hf := in_el hc4 hf
      refine lv_aload_n hx hb dX7_mayStandInLine_49 rfl (lv_at hl 1 rfl) ?_
      refine va_get (D := D) (ci := 7) (v := .ref (g 0)) (C := RX7) (T := TX7) (N := 8) hx hb hu inX7 hown hK.1 hP 0 rfl rfl 0 (by decide) (hu _ q300) (fun _ h9 => h9) rfl dX7_mayStandInLine_50 ?_
      refine va_get (D := D) (ci := 2) (v := .ref (a 0)) (C := RX2) (T := TX2) (N := 4) hx hb hu inX2 hown hK.1 hP 2 rfl rfl 3 (by decide) (hu _ q204) (fun _ h9 => h9) rfl dX7_mayStandInLine_53 ?_
      refine lv_iload_n hx hb dX7_mayStandInLine_56 rfl (lv_at hl 2 rfl) ?_
      obtain ⟨r5, hg6, hf⟩ := b1_el hf
      refine cc_V (w' := ((kX7 cs x (.ref (g 0)) (.ref (g2 0)) (.ref (g3 0)) (.ref (h 0)) (.ref (t 0)) (.ref (sa 0)) Ma) ++ (kX2 cs g (.ref (b 0)) (.ref (c 0)) (.ref (d 0)) (.ref (a 0)) ) ++ (kX1 cs b  Fo) ++ (kX4 cs a (.ref (b 0)) (.ref (c 0)) (.ref (d 0)) Se))) (wr := ((kX7 cs x (.ref (g 0)) (.ref (g2 0)) (.ref (g3 0)) (.ref (h 0)) (.ref (t 0)) (.ref (sa 0)) Ma) ++ (kX2 cs g (.ref (b 0)) (.ref (c 0)) (.ref (d 0)) (.ref (a 0)) ) ++ (kX1 cs b  Fo))) (st1 := [.int r5]) [.int y1] hx hb hml hown hu (tX4_placeOf l D cs a (.ref (b 0)) (.ref (c 0)) (.ref (d 0)) y1 Se r5 hg6) q367 q58 q364 q365 q366 pdX4_placeOf ⟨rfl, rfl, Nat.le_of_ble_eq_true rfl, Nat.le_of_ble_eq_true rfl⟩ hK hZ hP hD hS hA [10, 11, 12, 13] [0, 1, 2, 3, 4, 5, 6, 7, 8, 9] [0, 1, 2, 3, 4, 5, 6, 7, 8, 9, 10, 11, 12, 13] rfl rfl rfl rfl rfl rfl rfl rfl rfl rfl hl.1 rfl (Nat.le_of_ble_eq_true rfl) dX7_mayStandInLine_57 rfl (fun H locs hP hD hS => ?_)
      refine lv_if_ge (tgt := 71) hx hb dX7_mayStandInLine_60 (by decide) (fun hc7 => ?_) (fun hc7 => ?_)
      · have hf := ip_el hc7 hf
        refine lv_iconst (v := 0) hx hb dX7_mayStandInLine_71 (by decide) ?_
        have he := Option.some.inj hf
        have e0 := he
        exact hrz _ _ _ .boolean rfl rfl (congrArg (fun z => some (Value.int z)) e0.symm) dX7_mayStandInLine_72 _ _ _ rfl hP hD hS
      · have hf := in_el hc7 hf
        refine lv_iload_n hx hb dX7_mayStandInLine_63 rfl (lv_at hl 0 rfl) ?_
        refine lv_if_ne (tgt := 71) hx hb dX7_mayStandInLine_64 (by decide) (fun hc8 => ?_) (fun hc8 => ?_)
        · have hf := in_el hc8 hf
          refine lv_iconst (v := 0) hx hb dX7_mayStandInLine_71 (by decide) ?_
          have he := Option.some.inj hf
          have e0 := he
          exact hrz _ _ _ .boolean rfl rfl (congrArg (fun z => some (Value.int z)) e0.symm) dX7_mayStandInLine_72 _ _ _ rfl hP hD hS
        · have hf := ip_el hc8 hf
          refine lv_iconst (v := 1) hx hb dX7_mayStandInLine_67 (by decide) ?_
          refine lv_goto (tgt := 72) hx hb dX7_mayStandInLine_68 (by decide) ?_
          have he := Option.some.inj hf
          have e0 := he
          exact hrz _ _ _ .boolean rfl rfl (congrArg (fun z => some (Value.int z)) e0.symm) dX7_mayStandInLine_72 _ _ _ rfl hP hD hS
  have hl : lv_has ls0 3 [(0, .ref (x 0)), (1, .int x1)] := hl0
  have hP := hP0
  have hD := hD0
  have hS := hS0
  unfold fX7_mayStandInLine at hf
  refine lv_iload_n hx hb dX7_mayStandInLine_0 rfl (lv_at hl 1 rfl) ?_
  refine lv_aload_n hx hb dX7_mayStandInLine_1 rfl (lv_at hl 0 rfl) ?_
  refine va_get (D := D) (ci := 7) (v := .ref (g 0)) (C := RX7) (T := TX7) (N := 8) hx hb hu inX7 hown hK.1 hP 0 rfl rfl 0 (by decide) (hu _ q300) (fun _ h9 => h9) rfl dX7_mayStandInLine_2 ?_
  refine va_get (D := D) (ci := 2) (v := .ref (a 0)) (C := RX2) (T := TX2) (N := 4) hx hb hu inX2 hown hK.1 hP 2 rfl rfl 3 (by decide) (hu _ q204) (fun _ h9 => h9) rfl dX7_mayStandInLine_5 ?_
  refine va_get (D := D) (ci := 4) (v := .int (Se 0 6)) (C := RX4) (T := TX4) (N := 10) hx hb hu inX4 hown hK.1 hP 10 rfl rfl 6 (by decide) (hu _ q168) (fun _ h9 => h9) rfl dX7_mayStandInLine_8 ?_
  refine lv_icmp_ne (tgt := 33) hx hb dX7_mayStandInLine_11 (by decide) (fun hc1 => ?_) (fun hc1 => ?_)
  · have hf := in_el hc1 hf
    refine lv_iconst (v := 0) hx hb dX7_mayStandInLine_33 (by decide) ?_
    exact h34 x1 0 _ _ _ hP hD hS (lv_sub hl [0, 1] rfl) hf
  · have hf := ip_el hc1 hf
    refine lv_aload_n hx hb dX7_mayStandInLine_14 rfl (lv_at hl 0 rfl) ?_
    refine va_get (D := D) (ci := 7) (v := .ref (g 0)) (C := RX7) (T := TX7) (N := 8) hx hb hu inX7 hown hK.1 hP 0 rfl rfl 0 (by decide) (hu _ q300) (fun _ h9 => h9) rfl dX7_mayStandInLine_15 ?_
    refine va_get (D := D) (ci := 2) (v := .ref (a 0)) (C := RX2) (T := TX2) (N := 4) hx hb hu inX2 hown hK.1 hP 2 rfl rfl 3 (by decide) (hu _ q204) (fun _ h9 => h9) rfl dX7_mayStandInLine_18 ?_
    refine va_get (D := D) (ci := 4) (v := .ref (a 4)) (C := RX4) (T := TX4) (N := 10) hx hb hu inX4 hown hK.1 hP 10 rfl rfl 3 (by decide) (hu _ q162) (fun _ h9 => h9) rfl dX7_mayStandInLine_21 ?_
    refine lv_iconst (v := 2) hx hb dX7_mayStandInLine_24 (by decide) ?_
    refine ia_lit hx hb hK hP 11 2 rfl (by decide) dX7_mayStandInLine_25 ?_
    refine lv_if_ne (tgt := 33) hx hb dX7_mayStandInLine_26 (by decide) (fun hc9 => ?_) (fun hc9 => ?_)
    · have hf := in_el hc9 hf
      refine lv_iconst (v := 0) hx hb dX7_mayStandInLine_33 (by decide) ?_
      exact h34 x1 0 _ _ _ hP hD hS (lv_sub hl [0, 1] rfl) hf
    · have hf := ip_el hc9 hf
      refine lv_iconst (v := 1) hx hb dX7_mayStandInLine_29 (by decide) ?_
      refine lv_goto (tgt := 34) hx hb dX7_mayStandInLine_30 (by decide) ?_
      exact h34 x1 1 _ _ _ hP hD hS (lv_sub hl [0, 1] rfl) hf

def fX7_person_28 (Ma : ST) (Fo : ST) : Option (Int32 × ST × ST) :=
  dc_b2 (fX7_finding (-1000000001) Ma) (fun r4 Ma_5 => some (r4, Ma_5, Fo))
def fX7_person (x1 : Int32) (x2 : Int32) (x3 : Int32) (Ma : ST) (Fo : ST) : Option (Int32 × ST × ST) :=
  dc_b1 (fX7_within x1 0 6) (fun r1 => (if r1 = 0 then fX7_person_28 Ma Fo else dc_b1 (fX7_within x2 20 99) (fun r7 => (if r7 = 0 then fX7_person_28 Ma Fo else dc_b1 (fX7_isSort x3) (fun r10 => (if r10 = 0 then fX7_person_28 Ma Fo else (if (Fo 0 0) < 10 then dc_b2 (fX1_join x1 x2 x3 Fo) (fun r14 Fo_15 => some (r14, Ma, Fo_15)) else dc_b2 (fX7_finding (-1000000002) Ma) (fun r17 Ma_18 => some (r17, Ma_18, Fo)))))))))
abbrev rmX7_person : Room := { frames := 2, cells := 0, slots := 0, locals := 42 }
set_option maxRecDepth 100000 in
set_option maxHeartbeats 4000000 in
theorem tX7_person (l : Launch) (D : va_G) (cs : Nat → ClassId) (x : Nat → Nat) (g : Nat → Nat) (g2 : Nat → Nat) (g3 : Nat → Nat) (h : Nat → Nat) (t : Nat → Nat) (sa : Nat → Nat) (b : Nat → Nat) (c : Nat → Nat) (d : Nat → Nat) (a : Nat → Nat) (x1 : Int32) (x2 : Int32) (x3 : Int32) (Ma : ST) (Fo : ST) (r0 : Int32) (Maz : ST) (Foz : ST) (hf : fX7_person x1 x2 x3 Ma Fo = some (r0, Maz, Foz)) : CG l yX7_person (wsm yX7_person cX7_person 4 (some .int)) rmX7_person D cs [.ref (x 0), .int x1, .int x2, .int x3] (some (.int r0)) ((kX7 cs x (.ref (g 0)) (.ref (g2 0)) (.ref (g3 0)) (.ref (h 0)) (.ref (t 0)) (.ref (sa 0)) Ma) ++ (kX2 cs g (.ref (b 0)) (.ref (c 0)) (.ref (d 0)) (.ref (a 0)) ) ++ (kX1 cs b  Fo)) ((kX7 cs x (.ref (g 0)) (.ref (g2 0)) (.ref (g3 0)) (.ref (h 0)) (.ref (t 0)) (.ref (sa 0)) Maz) ++ (kX2 cs g (.ref (b 0)) (.ref (c 0)) (.ref (d 0)) (.ref (a 0)) ) ++ (kX1 cs b  Foz)) := by
  refine CG.intro (by decide) (Nat.le_of_ble_eq_true rfl) ?_
  intro p e s m below meth c A Q hx hb hml hown hu hK hZ hP0 hD0 hS0 hA hri hrz hrl hrv hra ls0 hl0
  have h28 : ∀ (Ma : ST) (Fo : ST) (H : Heap) (locs : List Loc) (ls : Array Slot), va_P D vwCl ((kX7 cs x (.ref (g 0)) (.ref (g2 0)) (.ref (g3 0)) (.ref (h 0)) (.ref (t 0)) (.ref (sa 0)) Ma) ++ (kX2 cs g (.ref (b 0)) (.ref (c 0)) (.ref (d 0)) (.ref (a 0)) ) ++ (kX1 cs b  Fo)) H → va_D A ((kX7 cs x (.ref (g 0)) (.ref (g2 0)) (.ref (g3 0)) (.ref (h 0)) (.ref (t 0)) (.ref (sa 0)) Ma) ++ (kX2 cs g (.ref (b 0)) (.ref (c 0)) (.ref (d 0)) (.ref (a 0)) ) ++ (kX1 cs b  Fo)) → va_S A s.heap H locs → lv_has ls 4 [(0, .ref (x 0))] → fX7_person_28 Ma Fo = some (r0, Maz, Foz) → W p l e rmX7_person s m [.ref (x 0), .int x1, .int x2, .int x3].toArray below meth c H locs 0 0 Q (F0 m 28 ls []) := by
    intro Ma Fo H locs ls hP hD hS hl hf
    unfold fX7_person_28 at hf
    refine lv_aload_n hx hb dX7_person_28 rfl (lv_at hl 0 rfl) ?_
    refine lv_ldc (v := (-1000000001)) hx hb hown (hu _ q335) dX7_person_29 ?_
    obtain ⟨r4, Ma_5, hg6, hf⟩ := b2_el hf
    refine cc_V (w' := ((kX7 cs x (.ref (g 0)) (.ref (g2 0)) (.ref (g3 0)) (.ref (h 0)) (.ref (t 0)) (.ref (sa 0)) Ma_5) ++ (kX2 cs g (.ref (b 0)) (.ref (c 0)) (.ref (d 0)) (.ref (a 0)) ) ++ (kX1 cs b  Fo))) (wr := ((kX2 cs g (.ref (b 0)) (.ref (c 0)) (.ref (d 0)) (.ref (a 0)) ) ++ (kX1 cs b  Fo))) (st1 := [.int r4]) [.int (-1000000001)] hx hb hml hown hu (tX7_finding l D cs x g g2 g3 h t sa (-1000000001) Ma r4 Ma_5 hg6) q339 q54 q336 q338 q0 pdX7_finding ⟨rfl, rfl, Nat.le_of_ble_eq_true rfl, Nat.le_of_ble_eq_true rfl⟩ hK hZ hP hD hS hA [0, 1] [2, 3, 4, 5, 6, 7, 8, 9] [8, 9, 0, 1, 2, 3, 4, 5, 6, 7] rfl rfl rfl rfl rfl rfl rfl rfl rfl rfl hl.1 rfl (Nat.le_of_ble_eq_true rfl) dX7_person_31 rfl (fun H locs hP hD hS => ?_)
    have he := Option.some.inj hf
    obtain ⟨e0, ht0⟩ := Prod.mk.inj he
    obtain ⟨e1, e2⟩ := Prod.mk.inj ht0
    exact hri _ _ _ rfl (congrArg (fun z => some (Value.int z)) e0.symm) dX7_person_34 _ _ _ (by rw [e1, e2]) hP hD hS
  have hl : lv_has ls0 4 [(0, .ref (x 0)), (1, .int x1), (2, .int x2), (3, .int x3)] := hl0
  have hP := hP0
  have hD := hD0
  have hS := hS0
  unfold fX7_person at hf
  refine lv_iload_n hx hb dX7_person_0 rfl (lv_at hl 1 rfl) ?_
  refine lv_iconst (v := 0) hx hb dX7_person_1 (by decide) ?_
  refine lv_bipush (v := 6) hx hb dX7_person_2 (by decide) ?_
  obtain ⟨r1, hg2, hf⟩ := b1_el hf
  refine cc_S0 (st1 := [.int r1]) [.int x1, .int 0, .int 6] hx hb hml hown hu (tX7_within l D cs x1 0 6 r1 hg2) q331 q54 q329 q330 pdX7_within ⟨rfl, rfl, Nat.le_of_ble_eq_true rfl, Nat.le_of_ble_eq_true rfl⟩ hK hZ hP hD hS hA rfl hl.1 rfl (Nat.le_of_ble_eq_true rfl) dX7_person_4 rfl (fun H locs hP hD hS => ?_)
  refine lv_if_eq (tgt := 28) hx hb dX7_person_7 (by decide) (fun hc3 => ?_) (fun hc3 => ?_)
  · have hf := ip_el hc3 hf
    exact h28 Ma Fo _ _ _ hP hD hS (lv_sub hl [0] rfl) hf
  · have hf := in_el hc3 hf
    refine lv_iload_n hx hb dX7_person_10 rfl (lv_at hl 2 rfl) ?_
    refine lv_bipush (v := 20) hx hb dX7_person_11 (by decide) ?_
    refine lv_bipush (v := 99) hx hb dX7_person_13 (by decide) ?_
    obtain ⟨r7, hg8, hf⟩ := b1_el hf
    refine cc_S0 (st1 := [.int r7]) [.int x2, .int 20, .int 99] hx hb hml hown hu (tX7_within l D cs x2 20 99 r7 hg8) q331 q54 q329 q330 pdX7_within ⟨rfl, rfl, Nat.le_of_ble_eq_true rfl, Nat.le_of_ble_eq_true rfl⟩ hK hZ hP hD hS hA rfl hl.1 rfl (Nat.le_of_ble_eq_true rfl) dX7_person_15 rfl (fun H locs hP hD hS => ?_)
    refine lv_if_eq (tgt := 28) hx hb dX7_person_18 (by decide) (fun hc9 => ?_) (fun hc9 => ?_)
    · have hf := ip_el hc9 hf
      exact h28 Ma Fo _ _ _ hP hD hS (lv_sub hl [0] rfl) hf
    · have hf := in_el hc9 hf
      refine lv_iload_n hx hb dX7_person_21 rfl (lv_at hl 3 rfl) ?_
      obtain ⟨r10, hg11, hf⟩ := b1_el hf
      refine cc_S0 (st1 := [.int r10]) [.int x3] hx hb hml hown hu (tX7_isSort l D cs x3 r10 hg11) q334 q54 q332 q333 pdX7_isSort ⟨rfl, rfl, Nat.le_of_ble_eq_true rfl, Nat.le_of_ble_eq_true rfl⟩ hK hZ hP hD hS hA rfl hl.1 rfl (Nat.le_of_ble_eq_true rfl) dX7_person_22 rfl (fun H locs hP hD hS => ?_)
      refine lv_if_ne (tgt := 35) hx hb dX7_person_25 (by decide) (fun hc12 => ?_) (fun hc12 => ?_)
      · have hf := in_el hc12 hf
        refine lv_aload_n hx hb dX7_person_35 rfl (lv_at hl 0 rfl) ?_
        refine va_get (D := D) (ci := 7) (v := .ref (g 0)) (C := RX7) (T := TX7) (N := 8) hx hb hu inX7 hown hK.1 hP 0 rfl rfl 0 (by decide) (hu _ q300) (fun _ h9 => h9) rfl dX7_person_36 ?_
        refine va_get (D := D) (ci := 2) (v := .ref (b 0)) (C := RX2) (T := TX2) (N := 4) hx hb hu inX2 hown hK.1 hP 2 rfl rfl 0 (by decide) (hu _ q196) (fun _ h9 => h9) rfl dX7_person_39 ?_
        refine va_get (D := D) (ci := 1) (v := .int (Fo 0 0)) (C := RX1) (T := TX1) (N := 9) hx hb hu inX1 hown hK.1 hP 3 rfl rfl 0 (by decide) (hu _ q93) (fun _ h9 => h9) rfl dX7_person_42 ?_
        refine lv_bipush (v := 10) hx hb dX7_person_45 (by decide) ?_
        refine lv_icmp_lt (tgt := 57) hx hb dX7_person_47 (by decide) (fun hc13 => ?_) (fun hc13 => ?_)
        · have hf := ip_el hc13 hf
          refine lv_aload_n hx hb dX7_person_57 rfl (lv_at hl 0 rfl) ?_
          refine va_get (D := D) (ci := 7) (v := .ref (g 0)) (C := RX7) (T := TX7) (N := 8) hx hb hu inX7 hown hK.1 hP 0 rfl rfl 0 (by decide) (hu _ q300) (fun _ h9 => h9) rfl dX7_person_58 ?_
          refine va_get (D := D) (ci := 2) (v := .ref (b 0)) (C := RX2) (T := TX2) (N := 4) hx hb hu inX2 hown hK.1 hP 2 rfl rfl 0 (by decide) (hu _ q196) (fun _ h9 => h9) rfl dX7_person_61 ?_
          refine lv_iload_n hx hb dX7_person_64 rfl (lv_at hl 1 rfl) ?_
          refine lv_iload_n hx hb dX7_person_65 rfl (lv_at hl 2 rfl) ?_
          refine lv_iload_n hx hb dX7_person_66 rfl (lv_at hl 3 rfl) ?_
          obtain ⟨r14, Fo_15, hg16, hf⟩ := b2_el hf
          refine cc_V (w' := ((kX7 cs x (.ref (g 0)) (.ref (g2 0)) (.ref (g3 0)) (.ref (h 0)) (.ref (t 0)) (.ref (sa 0)) Ma) ++ (kX2 cs g (.ref (b 0)) (.ref (c 0)) (.ref (d 0)) (.ref (a 0)) ) ++ (kX1 cs b  Fo_15))) (wr := ((kX7 cs x (.ref (g 0)) (.ref (g2 0)) (.ref (g3 0)) (.ref (h 0)) (.ref (t 0)) (.ref (sa 0)) Ma) ++ (kX2 cs g (.ref (b 0)) (.ref (c 0)) (.ref (d 0)) (.ref (a 0)) ))) (st1 := [.int r14]) [.int x1, .int x2, .int x3] hx hb hml hown hu (tX1_join l D cs b x1 x2 x3 Fo r14 Fo_15 hg16) q344 q56 q341 q342 q343 pdX1_join ⟨rfl, rfl, Nat.le_of_ble_eq_true rfl, Nat.le_of_ble_eq_true rfl⟩ hK hZ hP hD hS hA [3, 4, 5, 6, 7, 8, 9] [0, 1, 2] [0, 1, 2, 3, 4, 5, 6, 7, 8, 9] rfl rfl rfl rfl rfl rfl rfl rfl rfl rfl hl.1 rfl (Nat.le_of_ble_eq_true rfl) dX7_person_67 rfl (fun H locs hP hD hS => ?_)
          have he := Option.some.inj hf
          obtain ⟨e0, ht0⟩ := Prod.mk.inj he
          obtain ⟨e1, e2⟩ := Prod.mk.inj ht0
          exact hri _ _ _ rfl (congrArg (fun z => some (Value.int z)) e0.symm) dX7_person_70 _ _ _ (by rw [e1, e2]) hP hD hS
        · have hf := in_el hc13 hf
          refine lv_aload_n hx hb dX7_person_50 rfl (lv_at hl 0 rfl) ?_
          refine lv_ldc (v := (-1000000002)) hx hb hown (hu _ q340) dX7_person_51 ?_
          obtain ⟨r17, Ma_18, hg19, hf⟩ := b2_el hf
          refine cc_V (w' := ((kX7 cs x (.ref (g 0)) (.ref (g2 0)) (.ref (g3 0)) (.ref (h 0)) (.ref (t 0)) (.ref (sa 0)) Ma_18) ++ (kX2 cs g (.ref (b 0)) (.ref (c 0)) (.ref (d 0)) (.ref (a 0)) ) ++ (kX1 cs b  Fo))) (wr := ((kX2 cs g (.ref (b 0)) (.ref (c 0)) (.ref (d 0)) (.ref (a 0)) ) ++ (kX1 cs b  Fo))) (st1 := [.int r17]) [.int (-1000000002)] hx hb hml hown hu (tX7_finding l D cs x g g2 g3 h t sa (-1000000002) Ma r17 Ma_18 hg19) q339 q54 q336 q338 q0 pdX7_finding ⟨rfl, rfl, Nat.le_of_ble_eq_true rfl, Nat.le_of_ble_eq_true rfl⟩ hK hZ hP hD hS hA [0, 1] [2, 3, 4, 5, 6, 7, 8, 9] [8, 9, 0, 1, 2, 3, 4, 5, 6, 7] rfl rfl rfl rfl rfl rfl rfl rfl rfl rfl hl.1 rfl (Nat.le_of_ble_eq_true rfl) dX7_person_53 rfl (fun H locs hP hD hS => ?_)
          have he := Option.some.inj hf
          obtain ⟨e0, ht0⟩ := Prod.mk.inj he
          obtain ⟨e1, e2⟩ := Prod.mk.inj ht0
          exact hri _ _ _ rfl (congrArg (fun z => some (Value.int z)) e0.symm) dX7_person_56 _ _ _ (by rw [e1, e2]) hP hD hS
      · have hf := ip_el hc12 hf
        exact h28 Ma Fo _ _ _ hP hD hS (lv_sub hl [0] rfl) hf

def fX7_of_18 (Fo : ST) (Se : ST) (Ma : ST) (Sc : ST) (Tr : ST) : Option (Int32 × ST × ST × ST) :=
  dc_b2 (fX7_finding (-1000000001) Ma) (fun r4 Ma_5 => some (r4, Ma_5, Sc, Tr))
def fX7_of (x1 : Int32) (x2 : Int32) (Ma : ST) (Fo : ST) (Sc : ST) (Se : ST) (Tr : ST) : Option (Int32 × ST × ST × ST) :=
  dc_b1 (fX7_isOne x1 Ma Fo) (fun r1 => (if r1 = 0 then fX7_of_18 Fo Se Ma Sc Tr else dc_b1 (fX7_within x2 0 7) (fun r7 => (if r7 = 0 then fX7_of_18 Fo Se Ma Sc Tr else (if x2 = 4 then dc_ck x1 10 (some ((Se 6 (Int32.toNatClampNeg x1)), Ma, Sc, Tr)) else if x2 = 5 then dc_b1 (fX1_isAlive x1 Fo) (fun r13 => (if r13 = 0 then some (1, Ma, Sc, Tr) else some (0, Ma, Sc, Tr))) else if x2 = 6 then dc_b1 (fX4_placeOf x1 Se) (fun r17 => some (r17, Ma, Sc, Tr)) else if x2 = 7 then dc_b3 (fX4_choice x1 1 Se Fo Sc Tr) (fun r20 Sc_21 Tr_22 => some (r20, Ma, Sc_21, Tr_22)) else dc_b1 (fX1_trait x2 Fo) (fun r24 => dc_ck x1 10 (some ((Fo r24 (Int32.toNatClampNeg x1)), Ma, Sc, Tr))))))))
abbrev rmX7_of : Room := { frames := 9, cells := 0, slots := 0, locals := 232 }
set_option maxRecDepth 100000 in
set_option maxHeartbeats 4000000 in
theorem tX7_of (l : Launch) (D : va_G) (cs : Nat → ClassId) (x : Nat → Nat) (g : Nat → Nat) (g2 : Nat → Nat) (g3 : Nat → Nat) (h : Nat → Nat) (t : Nat → Nat) (sa : Nat → Nat) (b : Nat → Nat) (c : Nat → Nat) (d : Nat → Nat) (a : Nat → Nat) (x1 : Int32) (x2 : Int32) (Ma : ST) (Fo : ST) (Sc : ST) (Se : ST) (Tr : ST) (r0 : Int32) (Maz : ST) (Scz : ST) (Trz : ST) (hf : fX7_of x1 x2 Ma Fo Sc Se Tr = some (r0, Maz, Scz, Trz)) : CG l yX7_of (wsm yX7_of cX7_of 3 (some .int)) rmX7_of D cs [.ref (x 0), .int x1, .int x2] (some (.int r0)) ((kX7 cs x (.ref (g 0)) (.ref (g2 0)) (.ref (g3 0)) (.ref (h 0)) (.ref (t 0)) (.ref (sa 0)) Ma) ++ (kX2 cs g (.ref (b 0)) (.ref (c 0)) (.ref (d 0)) (.ref (a 0)) ) ++ (kX1 cs b  Fo) ++ (kX3 cs c  Sc) ++ (kX4 cs a (.ref (b 0)) (.ref (c 0)) (.ref (d 0)) Se) ++ (kX4 cs d (.ref (b 0)) (.ref (c 0)) .null Tr)) ((kX7 cs x (.ref (g 0)) (.ref (g2 0)) (.ref (g3 0)) (.ref (h 0)) (.ref (t 0)) (.ref (sa 0)) Maz) ++ (kX2 cs g (.ref (b 0)) (.ref (c 0)) (.ref (d 0)) (.ref (a 0)) ) ++ (kX1 cs b  Fo) ++ (kX3 cs c  Scz) ++ (kX4 cs a (.ref (b 0)) (.ref (c 0)) (.ref (d 0)) Se) ++ (kX4 cs d (.ref (b 0)) (.ref (c 0)) .null Trz)) := by
  refine CG.intro (by decide) (Nat.le_of_ble_eq_true rfl) ?_
  intro p e s m below meth c A Q hx hb hml hown hu hK hZ hP0 hD0 hS0 hA hri hrz hrl hrv hra ls0 hl0
  have h18 : ∀ (Ma : ST) (Sc : ST) (Tr : ST) (H : Heap) (locs : List Loc) (ls : Array Slot), va_P D vwCl ((kX7 cs x (.ref (g 0)) (.ref (g2 0)) (.ref (g3 0)) (.ref (h 0)) (.ref (t 0)) (.ref (sa 0)) Ma) ++ (kX2 cs g (.ref (b 0)) (.ref (c 0)) (.ref (d 0)) (.ref (a 0)) ) ++ (kX1 cs b  Fo) ++ (kX3 cs c  Sc) ++ (kX4 cs a (.ref (b 0)) (.ref (c 0)) (.ref (d 0)) Se) ++ (kX4 cs d (.ref (b 0)) (.ref (c 0)) .null Tr)) H → va_D A ((kX7 cs x (.ref (g 0)) (.ref (g2 0)) (.ref (g3 0)) (.ref (h 0)) (.ref (t 0)) (.ref (sa 0)) Ma) ++ (kX2 cs g (.ref (b 0)) (.ref (c 0)) (.ref (d 0)) (.ref (a 0)) ) ++ (kX1 cs b  Fo) ++ (kX3 cs c  Sc) ++ (kX4 cs a (.ref (b 0)) (.ref (c 0)) (.ref (d 0)) Se) ++ (kX4 cs d (.ref (b 0)) (.ref (c 0)) .null Tr)) → va_S A s.heap H locs → lv_has ls 3 [(0, .ref (x 0))] → fX7_of_18 Fo Se Ma Sc Tr = some (r0, Maz, Scz, Trz) → W p l e rmX7_of s m [.ref (x 0), .int x1, .int x2].toArray below meth c H locs 0 0 Q (F0 m 18 ls []) := by
    intro Ma Sc Tr H locs ls hP hD hS hl hf
    unfold fX7_of_18 at hf
    refine lv_aload_n hx hb dX7_of_18 rfl (lv_at hl 0 rfl) ?_
    refine lv_ldc (v := (-1000000001)) hx hb hown (hu _ q335) dX7_of_19 ?_
    obtain ⟨r4, Ma_5, hg6, hf⟩ := b2_el hf
    refine cc_V (w' := ((kX7 cs x (.ref (g 0)) (.ref (g2 0)) (.ref (g3 0)) (.ref (h 0)) (.ref (t 0)) (.ref (sa 0)) Ma_5) ++ (kX2 cs g (.ref (b 0)) (.ref (c 0)) (.ref (d 0)) (.ref (a 0)) ) ++ (kX1 cs b  Fo) ++ (kX3 cs c  Sc) ++ (kX4 cs a (.ref (b 0)) (.ref (c 0)) (.ref (d 0)) Se) ++ (kX4 cs d (.ref (b 0)) (.ref (c 0)) .null Tr))) (wr := ((kX2 cs g (.ref (b 0)) (.ref (c 0)) (.ref (d 0)) (.ref (a 0)) ) ++ (kX1 cs b  Fo) ++ (kX3 cs c  Sc) ++ (kX4 cs a (.ref (b 0)) (.ref (c 0)) (.ref (d 0)) Se) ++ (kX4 cs d (.ref (b 0)) (.ref (c 0)) .null Tr))) (st1 := [.int r4]) [.int (-1000000001)] hx hb hml hown hu (tX7_finding l D cs x g g2 g3 h t sa (-1000000001) Ma r4 Ma_5 hg6) q339 q54 q336 q338 q0 pdX7_finding ⟨rfl, rfl, Nat.le_of_ble_eq_true rfl, Nat.le_of_ble_eq_true rfl⟩ hK hZ hP hD hS hA [0, 1] [2, 3, 4, 5, 6, 7, 8, 9, 10, 11, 12, 13, 14, 15, 16, 17, 18, 19, 20] [19, 20, 0, 1, 2, 3, 4, 5, 6, 7, 8, 9, 10, 11, 12, 13, 14, 15, 16, 17, 18] rfl rfl rfl rfl rfl rfl rfl rfl rfl rfl hl.1 rfl (Nat.le_of_ble_eq_true rfl) dX7_of_21 rfl (fun H locs hP hD hS => ?_)
    have he := Option.some.inj hf
    obtain ⟨e0, ht0⟩ := Prod.mk.inj he
    obtain ⟨e1, ht1⟩ := Prod.mk.inj ht0
    obtain ⟨e2, e3⟩ := Prod.mk.inj ht1
    exact hri _ _ _ rfl (congrArg (fun z => some (Value.int z)) e0.symm) dX7_of_24 _ _ _ (by rw [e1, e2, e3]) hP hD hS
  have hl : lv_has ls0 3 [(0, .ref (x 0)), (1, .int x1), (2, .int x2)] := hl0
  have hP := hP0
  have hD := hD0
  have hS := hS0
  unfold fX7_of at hf
  refine lv_aload_n hx hb dX7_of_0 rfl (lv_at hl 0 rfl) ?_
  refine lv_iload_n hx hb dX7_of_1 rfl (lv_at hl 1 rfl) ?_
  obtain ⟨r1, hg2, hf⟩ := b1_el hf
  refine cc_V (w' := ((kX7 cs x (.ref (g 0)) (.ref (g2 0)) (.ref (g3 0)) (.ref (h 0)) (.ref (t 0)) (.ref (sa 0)) Ma) ++ (kX2 cs g (.ref (b 0)) (.ref (c 0)) (.ref (d 0)) (.ref (a 0)) ) ++ (kX1 cs b  Fo) ++ (kX3 cs c  Sc) ++ (kX4 cs a (.ref (b 0)) (.ref (c 0)) (.ref (d 0)) Se) ++ (kX4 cs d (.ref (b 0)) (.ref (c 0)) .null Tr))) (wr := ((kX3 cs c  Sc) ++ (kX4 cs a (.ref (b 0)) (.ref (c 0)) (.ref (d 0)) Se) ++ (kX4 cs d (.ref (b 0)) (.ref (c 0)) .null Tr))) (st1 := [.int r1]) [.int x1] hx hb hml hown hu (tX7_isOne l D cs x g g2 g3 h t sa b c d a x1 Ma Fo r1 hg2) q352 q54 q349 q351 q1 pdX7_isOne ⟨rfl, rfl, Nat.le_of_ble_eq_true rfl, Nat.le_of_ble_eq_true rfl⟩ hK hZ hP hD hS hA [0, 1, 2, 3, 4, 5, 6, 7, 8, 9] [10, 11, 12, 13, 14, 15, 16, 17, 18, 19, 20] [11, 12, 13, 14, 15, 16, 17, 18, 19, 20, 0, 1, 2, 3, 4, 5, 6, 7, 8, 9, 10] rfl rfl rfl rfl rfl rfl rfl rfl rfl rfl hl.1 rfl (Nat.le_of_ble_eq_true rfl) dX7_of_2 rfl (fun H locs hP hD hS => ?_)
  refine lv_if_eq (tgt := 18) hx hb dX7_of_5 (by decide) (fun hc3 => ?_) (fun hc3 => ?_)
  · have hf := ip_el hc3 hf
    exact h18 Ma Sc Tr _ _ _ hP hD hS (lv_sub hl [0] rfl) hf
  · have hf := in_el hc3 hf
    refine lv_iload_n hx hb dX7_of_8 rfl (lv_at hl 2 rfl) ?_
    refine lv_iconst (v := 0) hx hb dX7_of_9 (by decide) ?_
    refine lv_bipush (v := 7) hx hb dX7_of_10 (by decide) ?_
    obtain ⟨r7, hg8, hf⟩ := b1_el hf
    refine cc_S0 (st1 := [.int r7]) [.int x2, .int 0, .int 7] hx hb hml hown hu (tX7_within l D cs x2 0 7 r7 hg8) q331 q54 q329 q330 pdX7_within ⟨rfl, rfl, Nat.le_of_ble_eq_true rfl, Nat.le_of_ble_eq_true rfl⟩ hK hZ hP hD hS hA rfl hl.1 rfl (Nat.le_of_ble_eq_true rfl) dX7_of_12 rfl (fun H locs hP hD hS => ?_)
    refine lv_if_ne (tgt := 25) hx hb dX7_of_15 (by decide) (fun hc9 => ?_) (fun hc9 => ?_)
    · have hf := in_el hc9 hf
      refine lv_iload_n hx hb dX7_of_25 rfl (lv_at hl 2 rfl) ?_
      by_cases hc10 : x2 = 4
      · have hf := ip_el hc10 hf
        refine lv_tableIn (off := 30) (tgt := 56) hx hb dX7_of_26 (by rw [hc10]; decide) (by rw [hc10]; decide) (by rw [hc10]; decide) (by decide) ?_
        refine lv_aload_n hx hb dX7_of_56 rfl (lv_at hl 0 rfl) ?_
        refine va_get (D := D) (ci := 7) (v := .ref (g 0)) (C := RX7) (T := TX7) (N := 8) hx hb hu inX7 hown hK.1 hP 0 rfl rfl 0 (by decide) (hu _ q300) (fun _ h9 => h9) rfl dX7_of_57 ?_
        refine va_get (D := D) (ci := 2) (v := .ref (a 0)) (C := RX2) (T := TX2) (N := 4) hx hb hu inX2 hown hK.1 hP 2 rfl rfl 3 (by decide) (hu _ q204) (fun _ h9 => h9) rfl dX7_of_60 ?_
        refine va_get (D := D) (ci := 4) (v := .ref (a 6)) (C := RX4) (T := TX4) (N := 10) hx hb hu inX4 hown hK.1 hP 13 rfl rfl 5 (by decide) (hu _ q166) (fun _ h9 => h9) rfl dX7_of_63 ?_
        refine lv_iload_n hx hb dX7_of_66 rfl (lv_at hl 1 rfl) ?_
        obtain ⟨hi11, hf⟩ := ck_el hf
        refine va_iald hx hb hK.1 hP 16 0 rfl rfl hi11 dX7_of_67 ?_
        have he := Option.some.inj hf
        obtain ⟨e0, ht0⟩ := Prod.mk.inj he
        obtain ⟨e1, ht1⟩ := Prod.mk.inj ht0
        obtain ⟨e2, e3⟩ := Prod.mk.inj ht1
        exact hri _ _ _ rfl (congrArg (fun z => some (Value.int z)) e0.symm) dX7_of_68 _ _ _ (by rw [e1, e2, e3]) hP hD hS
      have hf := in_el hc10 hf
      by_cases hc12 : x2 = 5
      · have hf := ip_el hc12 hf
        refine lv_tableIn (off := 43) (tgt := 69) hx hb dX7_of_26 (by rw [hc12]; decide) (by rw [hc12]; decide) (by rw [hc12]; decide) (by decide) ?_
        refine lv_aload_n hx hb dX7_of_69 rfl (lv_at hl 0 rfl) ?_
        refine va_get (D := D) (ci := 7) (v := .ref (g 0)) (C := RX7) (T := TX7) (N := 8) hx hb hu inX7 hown hK.1 hP 0 rfl rfl 0 (by decide) (hu _ q300) (fun _ h9 => h9) rfl dX7_of_70 ?_
        refine va_get (D := D) (ci := 2) (v := .ref (b 0)) (C := RX2) (T := TX2) (N := 4) hx hb hu inX2 hown hK.1 hP 2 rfl rfl 0 (by decide) (hu _ q196) (fun _ h9 => h9) rfl dX7_of_73 ?_
        refine lv_iload_n hx hb dX7_of_76 rfl (lv_at hl 1 rfl) ?_
        obtain ⟨r13, hg14, hf⟩ := b1_el hf
        refine cc_V (w' := ((kX7 cs x (.ref (g 0)) (.ref (g2 0)) (.ref (g3 0)) (.ref (h 0)) (.ref (t 0)) (.ref (sa 0)) Ma) ++ (kX2 cs g (.ref (b 0)) (.ref (c 0)) (.ref (d 0)) (.ref (a 0)) ) ++ (kX1 cs b  Fo) ++ (kX3 cs c  Sc) ++ (kX4 cs a (.ref (b 0)) (.ref (c 0)) (.ref (d 0)) Se) ++ (kX4 cs d (.ref (b 0)) (.ref (c 0)) .null Tr))) (wr := ((kX7 cs x (.ref (g 0)) (.ref (g2 0)) (.ref (g3 0)) (.ref (h 0)) (.ref (t 0)) (.ref (sa 0)) Ma) ++ (kX2 cs g (.ref (b 0)) (.ref (c 0)) (.ref (d 0)) (.ref (a 0)) ) ++ (kX3 cs c  Sc) ++ (kX4 cs a (.ref (b 0)) (.ref (c 0)) (.ref (d 0)) Se) ++ (kX4 cs d (.ref (b 0)) (.ref (c 0)) .null Tr))) (st1 := [.int r13]) [.int x1] hx hb hml hown hu (tX1_isAlive l D cs b x1 Fo r13 hg14) q356 q56 q353 q354 q355 pdX1_isAlive ⟨rfl, rfl, Nat.le_of_ble_eq_true rfl, Nat.le_of_ble_eq_true rfl⟩ hK hZ hP hD hS hA [3, 4, 5, 6, 7, 8, 9] [0, 1, 2, 10, 11, 12, 13, 14, 15, 16, 17, 18, 19, 20] [0, 1, 2, 14, 15, 16, 17, 18, 19, 20, 3, 4, 5, 6, 7, 8, 9, 10, 11, 12, 13] rfl rfl rfl rfl rfl rfl rfl rfl rfl rfl hl.1 rfl (Nat.le_of_ble_eq_true rfl) dX7_of_77 rfl (fun H locs hP hD hS => ?_)
        refine lv_if_eq (tgt := 87) hx hb dX7_of_80 (by decide) (fun hc15 => ?_) (fun hc15 => ?_)
        · have hf := ip_el hc15 hf
          refine lv_iconst (v := 1) hx hb dX7_of_87 (by decide) ?_
          have he := Option.some.inj hf
          obtain ⟨e0, ht0⟩ := Prod.mk.inj he
          obtain ⟨e1, ht1⟩ := Prod.mk.inj ht0
          obtain ⟨e2, e3⟩ := Prod.mk.inj ht1
          exact hri _ _ _ rfl (congrArg (fun z => some (Value.int z)) e0.symm) dX7_of_88 _ _ _ (by rw [e1, e2, e3]) hP hD hS
        · have hf := in_el hc15 hf
          refine lv_iconst (v := 0) hx hb dX7_of_83 (by decide) ?_
          refine lv_goto (tgt := 88) hx hb dX7_of_84 (by decide) ?_
          have he := Option.some.inj hf
          obtain ⟨e0, ht0⟩ := Prod.mk.inj he
          obtain ⟨e1, ht1⟩ := Prod.mk.inj ht0
          obtain ⟨e2, e3⟩ := Prod.mk.inj ht1
          exact hri _ _ _ rfl (congrArg (fun z => some (Value.int z)) e0.symm) dX7_of_88 _ _ _ (by rw [e1, e2, e3]) hP hD hS
      have hf := in_el hc12 hf
      by_cases hc16 : x2 = 6
      · have hf := ip_el hc16 hf
        refine lv_tableIn (off := 63) (tgt := 89) hx hb dX7_of_26 (by rw [hc16]; decide) (by rw [hc16]; decide) (by rw [hc16]; decide) (by decide) ?_
        refine lv_aload_n hx hb dX7_of_89 rfl (lv_at hl 0 rfl) ?_
        refine va_get (D := D) (ci := 7) (v := .ref (g 0)) (C := RX7) (T := TX7) (N := 8) hx hb hu inX7 hown hK.1 hP 0 rfl rfl 0 (by decide) (hu _ q300) (fun _ h9 => h9) rfl dX7_of_90 ?_
        refine va_get (D := D) (ci := 2) (v := .ref (a 0)) (C := RX2) (T := TX2) (N := 4) hx hb hu inX2 hown hK.1 hP 2 rfl rfl 3 (by decide) (hu _ q204) (fun _ h9 => h9) rfl dX7_of_93 ?_
        refine lv_iload_n hx hb dX7_of_96 rfl (lv_at hl 1 rfl) ?_
        obtain ⟨r17, hg18, hf⟩ := b1_el hf
        refine cc_V (w' := ((kX7 cs x (.ref (g 0)) (.ref (g2 0)) (.ref (g3 0)) (.ref (h 0)) (.ref (t 0)) (.ref (sa 0)) Ma) ++ (kX2 cs g (.ref (b 0)) (.ref (c 0)) (.ref (d 0)) (.ref (a 0)) ) ++ (kX1 cs b  Fo) ++ (kX3 cs c  Sc) ++ (kX4 cs a (.ref (b 0)) (.ref (c 0)) (.ref (d 0)) Se) ++ (kX4 cs d (.ref (b 0)) (.ref (c 0)) .null Tr))) (wr := ((kX7 cs x (.ref (g 0)) (.ref (g2 0)) (.ref (g3 0)) (.ref (h 0)) (.ref (t 0)) (.ref (sa 0)) Ma) ++ (kX2 cs g (.ref (b 0)) (.ref (c 0)) (.ref (d 0)) (.ref (a 0)) ) ++ (kX1 cs b  Fo) ++ (kX3 cs c  Sc) ++ (kX4 cs d (.ref (b 0)) (.ref (c 0)) .null Tr))) (st1 := [.int r17]) [.int x1] hx hb hml hown hu (tX4_placeOf l D cs a (.ref (b 0)) (.ref (c 0)) (.ref (d 0)) x1 Se r17 hg18) q367 q58 q364 q365 q366 pdX4_placeOf ⟨rfl, rfl, Nat.le_of_ble_eq_true rfl, Nat.le_of_ble_eq_true rfl⟩ hK hZ hP hD hS hA [13, 14, 15, 16] [0, 1, 2, 3, 4, 5, 6, 7, 8, 9, 10, 11, 12, 17, 18, 19, 20] [0, 1, 2, 3, 4, 5, 6, 7, 8, 9, 10, 11, 12, 17, 18, 19, 20, 13, 14, 15, 16] rfl rfl rfl rfl rfl rfl rfl rfl rfl rfl hl.1 rfl (Nat.le_of_ble_eq_true rfl) dX7_of_97 rfl (fun H locs hP hD hS => ?_)
        have he := Option.some.inj hf
        obtain ⟨e0, ht0⟩ := Prod.mk.inj he
        obtain ⟨e1, ht1⟩ := Prod.mk.inj ht0
        obtain ⟨e2, e3⟩ := Prod.mk.inj ht1
        exact hri _ _ _ rfl (congrArg (fun z => some (Value.int z)) e0.symm) dX7_of_100 _ _ _ (by rw [e1, e2, e3]) hP hD hS
      have hf := in_el hc16 hf
      by_cases hc19 : x2 = 7
      · have hf := ip_el hc19 hf
        refine lv_tableIn (off := 75) (tgt := 101) hx hb dX7_of_26 (by rw [hc19]; decide) (by rw [hc19]; decide) (by rw [hc19]; decide) (by decide) ?_
        refine lv_aload_n hx hb dX7_of_101 rfl (lv_at hl 0 rfl) ?_
        refine va_get (D := D) (ci := 7) (v := .ref (g 0)) (C := RX7) (T := TX7) (N := 8) hx hb hu inX7 hown hK.1 hP 0 rfl rfl 0 (by decide) (hu _ q300) (fun _ h9 => h9) rfl dX7_of_102 ?_
        refine va_get (D := D) (ci := 2) (v := .ref (a 0)) (C := RX2) (T := TX2) (N := 4) hx hb hu inX2 hown hK.1 hP 2 rfl rfl 3 (by decide) (hu _ q204) (fun _ h9 => h9) rfl dX7_of_105 ?_
        refine lv_iload_n hx hb dX7_of_108 rfl (lv_at hl 1 rfl) ?_
        refine lv_iconst (v := 1) hx hb dX7_of_109 (by decide) ?_
        obtain ⟨r20, Sc_21, Tr_22, hg23, hf⟩ := b3_el hf
        refine cc_V (w' := ((kX7 cs x (.ref (g 0)) (.ref (g2 0)) (.ref (g3 0)) (.ref (h 0)) (.ref (t 0)) (.ref (sa 0)) Ma) ++ (kX2 cs g (.ref (b 0)) (.ref (c 0)) (.ref (d 0)) (.ref (a 0)) ) ++ (kX1 cs b  Fo) ++ (kX3 cs c  Sc_21) ++ (kX4 cs a (.ref (b 0)) (.ref (c 0)) (.ref (d 0)) Se) ++ (kX4 cs d (.ref (b 0)) (.ref (c 0)) .null Tr_22))) (wr := ((kX7 cs x (.ref (g 0)) (.ref (g2 0)) (.ref (g3 0)) (.ref (h 0)) (.ref (t 0)) (.ref (sa 0)) Ma) ++ (kX2 cs g (.ref (b 0)) (.ref (c 0)) (.ref (d 0)) (.ref (a 0)) ))) (st1 := [.int r20]) [.int x1, .int 1] hx hb hml hown hu (tX4_choice l D cs a b c d x1 1 Se Fo Sc Tr r20 Sc_21 Tr_22 hg23) q371 q58 q368 q369 q370 pdX4_choice ⟨rfl, rfl, Nat.le_of_ble_eq_true rfl, Nat.le_of_ble_eq_true rfl⟩ hK hZ hP hD hS hA [13, 14, 15, 16, 3, 4, 5, 6, 7, 8, 9, 10, 11, 12, 17, 18, 19, 20] [0, 1, 2] [0, 1, 2, 7, 8, 9, 10, 11, 12, 13, 14, 15, 16, 3, 4, 5, 6, 17, 18, 19, 20] rfl rfl rfl rfl rfl rfl rfl rfl rfl rfl hl.1 rfl (Nat.le_of_ble_eq_true rfl) dX7_of_110 rfl (fun H locs hP hD hS => ?_)
        have he := Option.some.inj hf
        obtain ⟨e0, ht0⟩ := Prod.mk.inj he
        obtain ⟨e1, ht1⟩ := Prod.mk.inj ht0
        obtain ⟨e2, e3⟩ := Prod.mk.inj ht1
        exact hri _ _ _ rfl (congrArg (fun z => some (Value.int z)) e0.symm) dX7_of_113 _ _ _ (by rw [e1, e2, e3]) hP hD hS
      have hf := in_el hc19 hf
      have nhc10 := sw_ne (a := 4) hc10 (by decide)
      have nhc12 := sw_ne (a := 5) hc12 (by decide)
      have nhc16 := sw_ne (a := 6) hc16 (by decide)
      have nhc19 := sw_ne (a := 7) hc19 (by decide)
      refine lv_tableOut (tgt := 114) hx hb dX7_of_26 (by omega) (by decide) ?_
      refine lv_aload_n hx hb dX7_of_114 rfl (lv_at hl 0 rfl) ?_
      refine va_get (D := D) (ci := 7) (v := .ref (g 0)) (C := RX7) (T := TX7) (N := 8) hx hb hu inX7 hown hK.1 hP 0 rfl rfl 0 (by decide) (hu _ q300) (fun _ h9 => h9) rfl dX7_of_115 ?_
      refine va_get (D := D) (ci := 2) (v := .ref (b 0)) (C := RX2) (T := TX2) (N := 4) hx hb hu inX2 hown hK.1 hP 2 rfl rfl 0 (by decide) (hu _ q196) (fun _ h9 => h9) rfl dX7_of_118 ?_
      refine lv_iload_n hx hb dX7_of_121 rfl (lv_at hl 2 rfl) ?_
      obtain ⟨r24, hg25, hf⟩ := b1_el hf
      refine cc_V (w' := ((kX7 cs x (.ref (g 0)) (.ref (g2 0)) (.ref (g3 0)) (.ref (h 0)) (.ref (t 0)) (.ref (sa 0)) Ma) ++ (kX2 cs g (.ref (b 0)) (.ref (c 0)) (.ref (d 0)) (.ref (a 0)) ) ++ (kX1 cs b  Fo) ++ (kX3 cs c  Sc) ++ (kX4 cs a (.ref (b 0)) (.ref (c 0)) (.ref (d 0)) Se) ++ (kX4 cs d (.ref (b 0)) (.ref (c 0)) .null Tr))) (wr := ((kX7 cs x (.ref (g 0)) (.ref (g2 0)) (.ref (g3 0)) (.ref (h 0)) (.ref (t 0)) (.ref (sa 0)) Ma) ++ (kX2 cs g (.ref (b 0)) (.ref (c 0)) (.ref (d 0)) (.ref (a 0)) ) ++ (kX3 cs c  Sc) ++ (kX4 cs a (.ref (b 0)) (.ref (c 0)) (.ref (d 0)) Se) ++ (kX4 cs d (.ref (b 0)) (.ref (c 0)) .null Tr))) (st1 := [.ref (b r24)]) [.int x2] hx hb hml hown hu (tX1_trait l D cs b x2 Fo r24 hg25) q448 q56 q445 q446 q447 pdX1_trait ⟨rfl, rfl, Nat.le_of_ble_eq_true rfl, Nat.le_of_ble_eq_true rfl⟩ hK hZ hP hD hS hA [3, 4, 5, 6, 7, 8, 9] [0, 1, 2, 10, 11, 12, 13, 14, 15, 16, 17, 18, 19, 20] [0, 1, 2, 14, 15, 16, 17, 18, 19, 20, 3, 4, 5, 6, 7, 8, 9, 10, 11, 12, 13] rfl rfl rfl rfl rfl rfl rfl rfl rfl rfl hl.1 rfl (Nat.le_of_ble_eq_true rfl) dX7_of_122 rfl (fun H locs hP hD hS => ?_)
      refine lv_iload_n hx hb dX7_of_125 rfl (lv_at hl 1 rfl) ?_
      obtain ⟨hi26, hf⟩ := ck_el hf
      refine va_iald (f := Fo r24) (n := 10) (cA := cs 0) hx hb hK.1 hP (3 + (r24 - 1)) 0 (by rcases tr_cases hg25 with h9 | h9 | h9 | h9 <;> (subst h9; rfl)) rfl hi26 dX7_of_126 ?_
      have he := Option.some.inj hf
      obtain ⟨e0, ht0⟩ := Prod.mk.inj he
      obtain ⟨e1, ht1⟩ := Prod.mk.inj ht0
      obtain ⟨e2, e3⟩ := Prod.mk.inj ht1
      exact hri _ _ _ rfl (congrArg (fun z => some (Value.int z)) e0.symm) dX7_of_127 _ _ _ (by rw [e1, e2, e3]) hP hD hS
    · have hf := ip_el hc9 hf
      exact h18 Ma Sc Tr _ _ _ hP hD hS (lv_sub hl [0] rfl) hf

def fX7_set_16 (Ma : ST) (Fo : ST) : Option (Int32 × ST × ST) :=
  dc_b2 (fX7_finding (-1000000001) Ma) (fun r4 Ma_5 => some (r4, Ma_5, Fo))
def fX7_set (x1 : Int32) (x2 : Int32) (x3 : Int32) (Ma : ST) (Fo : ST) : Option (Int32 × ST × ST) :=
  dc_b1 (fX7_isOne x1 Ma Fo) (fun r1 => (if r1 = 0 then fX7_set_16 Ma Fo else dc_b1 (fX7_isTrait x2 x3) (fun r7 => (if r7 = 0 then fX7_set_16 Ma Fo else dc_b1 (fX1_trait x2 Fo) (fun r10 => dc_ck x1 10 (dc_lt (Fo r10 (Int32.toNatClampNeg x1)) (fun v13 => dc_ck x1 10 (dc_lt (sti Fo r10 (Int32.toNatClampNeg x1) x3) (fun Fo_15 => some (v13, Ma, Fo_15))))))))))
abbrev rmX7_set : Room := { frames := 3, cells := 0, slots := 0, locals := 63 }
set_option maxRecDepth 100000 in
set_option maxHeartbeats 4000000 in
theorem tX7_set (l : Launch) (D : va_G) (cs : Nat → ClassId) (x : Nat → Nat) (g : Nat → Nat) (g2 : Nat → Nat) (g3 : Nat → Nat) (h : Nat → Nat) (t : Nat → Nat) (sa : Nat → Nat) (b : Nat → Nat) (c : Nat → Nat) (d : Nat → Nat) (a : Nat → Nat) (x1 : Int32) (x2 : Int32) (x3 : Int32) (Ma : ST) (Fo : ST) (r0 : Int32) (Maz : ST) (Foz : ST) (hf : fX7_set x1 x2 x3 Ma Fo = some (r0, Maz, Foz)) : CG l yX7_set (wsm yX7_set cX7_set 6 (some .int)) rmX7_set D cs [.ref (x 0), .int x1, .int x2, .int x3] (some (.int r0)) ((kX7 cs x (.ref (g 0)) (.ref (g2 0)) (.ref (g3 0)) (.ref (h 0)) (.ref (t 0)) (.ref (sa 0)) Ma) ++ (kX2 cs g (.ref (b 0)) (.ref (c 0)) (.ref (d 0)) (.ref (a 0)) ) ++ (kX1 cs b  Fo)) ((kX7 cs x (.ref (g 0)) (.ref (g2 0)) (.ref (g3 0)) (.ref (h 0)) (.ref (t 0)) (.ref (sa 0)) Maz) ++ (kX2 cs g (.ref (b 0)) (.ref (c 0)) (.ref (d 0)) (.ref (a 0)) ) ++ (kX1 cs b  Foz)) := by
  refine CG.intro (by decide) (Nat.le_of_ble_eq_true rfl) ?_
  intro p e s m below meth c A Q hx hb hml hown hu hK hZ hP0 hD0 hS0 hA hri hrz hrl hrv hra ls0 hl0
  have h16 : ∀ (Ma : ST) (Fo : ST) (H : Heap) (locs : List Loc) (ls : Array Slot), va_P D vwCl ((kX7 cs x (.ref (g 0)) (.ref (g2 0)) (.ref (g3 0)) (.ref (h 0)) (.ref (t 0)) (.ref (sa 0)) Ma) ++ (kX2 cs g (.ref (b 0)) (.ref (c 0)) (.ref (d 0)) (.ref (a 0)) ) ++ (kX1 cs b  Fo)) H → va_D A ((kX7 cs x (.ref (g 0)) (.ref (g2 0)) (.ref (g3 0)) (.ref (h 0)) (.ref (t 0)) (.ref (sa 0)) Ma) ++ (kX2 cs g (.ref (b 0)) (.ref (c 0)) (.ref (d 0)) (.ref (a 0)) ) ++ (kX1 cs b  Fo)) → va_S A s.heap H locs → lv_has ls 6 [(0, .ref (x 0))] → fX7_set_16 Ma Fo = some (r0, Maz, Foz) → W p l e rmX7_set s m [.ref (x 0), .int x1, .int x2, .int x3].toArray below meth c H locs 0 0 Q (F0 m 16 ls []) := by
    intro Ma Fo H locs ls hP hD hS hl hf
    unfold fX7_set_16 at hf
    refine lv_aload_n hx hb dX7_set_16 rfl (lv_at hl 0 rfl) ?_
    refine lv_ldc (v := (-1000000001)) hx hb hown (hu _ q335) dX7_set_17 ?_
    obtain ⟨r4, Ma_5, hg6, hf⟩ := b2_el hf
    refine cc_V (w' := ((kX7 cs x (.ref (g 0)) (.ref (g2 0)) (.ref (g3 0)) (.ref (h 0)) (.ref (t 0)) (.ref (sa 0)) Ma_5) ++ (kX2 cs g (.ref (b 0)) (.ref (c 0)) (.ref (d 0)) (.ref (a 0)) ) ++ (kX1 cs b  Fo))) (wr := ((kX2 cs g (.ref (b 0)) (.ref (c 0)) (.ref (d 0)) (.ref (a 0)) ) ++ (kX1 cs b  Fo))) (st1 := [.int r4]) [.int (-1000000001)] hx hb hml hown hu (tX7_finding l D cs x g g2 g3 h t sa (-1000000001) Ma r4 Ma_5 hg6) q339 q54 q336 q338 q0 pdX7_finding ⟨rfl, rfl, Nat.le_of_ble_eq_true rfl, Nat.le_of_ble_eq_true rfl⟩ hK hZ hP hD hS hA [0, 1] [2, 3, 4, 5, 6, 7, 8, 9] [8, 9, 0, 1, 2, 3, 4, 5, 6, 7] rfl rfl rfl rfl rfl rfl rfl rfl rfl rfl hl.1 rfl (Nat.le_of_ble_eq_true rfl) dX7_set_19 rfl (fun H locs hP hD hS => ?_)
    have he := Option.some.inj hf
    obtain ⟨e0, ht0⟩ := Prod.mk.inj he
    obtain ⟨e1, e2⟩ := Prod.mk.inj ht0
    exact hri _ _ _ rfl (congrArg (fun z => some (Value.int z)) e0.symm) dX7_set_22 _ _ _ (by rw [e1, e2]) hP hD hS
  have hl : lv_has ls0 6 [(0, .ref (x 0)), (1, .int x1), (2, .int x2), (3, .int x3)] := hl0
  have hP := hP0
  have hD := hD0
  have hS := hS0
  unfold fX7_set at hf
  refine lv_aload_n hx hb dX7_set_0 rfl (lv_at hl 0 rfl) ?_
  refine lv_iload_n hx hb dX7_set_1 rfl (lv_at hl 1 rfl) ?_
  obtain ⟨r1, hg2, hf⟩ := b1_el hf
  refine cc_V1 (w' := ((kX7 cs x (.ref (g 0)) (.ref (g2 0)) (.ref (g3 0)) (.ref (h 0)) (.ref (t 0)) (.ref (sa 0)) Ma) ++ (kX2 cs g (.ref (b 0)) (.ref (c 0)) (.ref (d 0)) (.ref (a 0)) ) ++ (kX1 cs b  Fo))) (st1 := [.int r1]) [.int x1] hx hb hml hown hu (tX7_isOne l D cs x g g2 g3 h t sa b c d a x1 Ma Fo r1 hg2) q352 q54 q349 q351 q1 pdX7_isOne ⟨rfl, rfl, Nat.le_of_ble_eq_true rfl, Nat.le_of_ble_eq_true rfl⟩ hK hZ hP hD hS hA rfl rfl rfl rfl hl.1 rfl (Nat.le_of_ble_eq_true rfl) dX7_set_2 rfl (fun H locs hP hD hS => ?_)
  refine lv_if_eq (tgt := 16) hx hb dX7_set_5 (by decide) (fun hc3 => ?_) (fun hc3 => ?_)
  · have hf := ip_el hc3 hf
    exact h16 Ma Fo _ _ _ hP hD hS (lv_sub hl [0] rfl) hf
  · have hf := in_el hc3 hf
    refine lv_iload_n hx hb dX7_set_8 rfl (lv_at hl 2 rfl) ?_
    refine lv_iload_n hx hb dX7_set_9 rfl (lv_at hl 3 rfl) ?_
    obtain ⟨r7, hg8, hf⟩ := b1_el hf
    refine cc_S0 (st1 := [.int r7]) [.int x2, .int x3] hx hb hml hown hu (tX7_isTrait l D cs x2 x3 r7 hg8) q455 q54 q453 q454 pdX7_isTrait ⟨rfl, rfl, Nat.le_of_ble_eq_true rfl, Nat.le_of_ble_eq_true rfl⟩ hK hZ hP hD hS hA rfl hl.1 rfl (Nat.le_of_ble_eq_true rfl) dX7_set_10 rfl (fun H locs hP hD hS => ?_)
    refine lv_if_ne (tgt := 23) hx hb dX7_set_13 (by decide) (fun hc9 => ?_) (fun hc9 => ?_)
    · have hf := in_el hc9 hf
      refine lv_aload_n hx hb dX7_set_23 rfl (lv_at hl 0 rfl) ?_
      refine va_get (D := D) (ci := 7) (v := .ref (g 0)) (C := RX7) (T := TX7) (N := 8) hx hb hu inX7 hown hK.1 hP 0 rfl rfl 0 (by decide) (hu _ q300) (fun _ h9 => h9) rfl dX7_set_24 ?_
      refine va_get (D := D) (ci := 2) (v := .ref (b 0)) (C := RX2) (T := TX2) (N := 4) hx hb hu inX2 hown hK.1 hP 2 rfl rfl 0 (by decide) (hu _ q196) (fun _ h9 => h9) rfl dX7_set_27 ?_
      refine lv_iload_n hx hb dX7_set_30 rfl (lv_at hl 2 rfl) ?_
      obtain ⟨r10, hg11, hf⟩ := b1_el hf
      refine cc_V (w' := ((kX7 cs x (.ref (g 0)) (.ref (g2 0)) (.ref (g3 0)) (.ref (h 0)) (.ref (t 0)) (.ref (sa 0)) Ma) ++ (kX2 cs g (.ref (b 0)) (.ref (c 0)) (.ref (d 0)) (.ref (a 0)) ) ++ (kX1 cs b  Fo))) (wr := ((kX7 cs x (.ref (g 0)) (.ref (g2 0)) (.ref (g3 0)) (.ref (h 0)) (.ref (t 0)) (.ref (sa 0)) Ma) ++ (kX2 cs g (.ref (b 0)) (.ref (c 0)) (.ref (d 0)) (.ref (a 0)) ))) (st1 := [.ref (b r10)]) [.int x2] hx hb hml hown hu (tX1_trait l D cs b x2 Fo r10 hg11) q448 q56 q445 q446 q447 pdX1_trait ⟨rfl, rfl, Nat.le_of_ble_eq_true rfl, Nat.le_of_ble_eq_true rfl⟩ hK hZ hP hD hS hA [3, 4, 5, 6, 7, 8, 9] [0, 1, 2] [0, 1, 2, 3, 4, 5, 6, 7, 8, 9] rfl rfl rfl rfl rfl rfl rfl rfl rfl rfl hl.1 rfl (Nat.le_of_ble_eq_true rfl) dX7_set_31 rfl (fun H locs hP hD hS => ?_)
      refine lv_astore (lv' := [(4, .ref (b r10)), (0, .ref (x 0)), (1, .int x1), (2, .int x2), (3, .int x3)]) hx hb dX7_set_34 hl (by decide) rfl (fun ls hl => ?_)
      refine lv_aload hx hb dX7_set_36 (lv_at hl 0 rfl) ?_
      refine lv_iload_n hx hb dX7_set_38 rfl (lv_at hl 2 rfl) ?_
      obtain ⟨hi12, hf⟩ := ck_el hf
      refine va_iald (f := Fo r10) (n := 10) (cA := cs 0) hx hb hK.1 hP (3 + (r10 - 1)) 0 (by rcases tr_cases hg11 with h9 | h9 | h9 | h9 <;> (subst h9; rfl)) rfl hi12 dX7_set_39 ?_
      obtain ⟨v13, hv13, hf⟩ := lt_el hf
      refine lv_tope hv13 ?_
      refine lv_istore (lv' := [(5, .int v13), (4, .ref (b r10)), (0, .ref (x 0)), (1, .int x1), (2, .int x2), (3, .int x3)]) hx hb dX7_set_40 hl (by decide) rfl (fun ls hl => ?_)
      refine lv_aload hx hb dX7_set_42 (lv_at hl 1 rfl) ?_
      refine lv_iload_n hx hb dX7_set_44 rfl (lv_at hl 3 rfl) ?_
      refine lv_iload_n hx hb dX7_set_45 rfl (lv_at hl 5 rfl) ?_
      obtain ⟨hi14, hf⟩ := ck_el hf
      obtain ⟨Fo_15, hFo_15, hf⟩ := lt_el hf
      refine va_iast (f := Fo r10) (n := 10) (cA := cs 0) hx hb hK.1 hP hD hS (3 + (r10 - 1)) 0 (by rcases tr_cases hg11 with h9 | h9 | h9 | h9 <;> (subst h9; rfl)) rfl hi14 dX7_set_46 (fun H locs hP hD hS => ?_)
      have hW9 : ((kX7 cs x (.ref (g 0)) (.ref (g2 0)) (.ref (g3 0)) (.ref (h 0)) (.ref (t 0)) (.ref (sa 0)) Ma) ++ (kX2 cs g (.ref (b 0)) (.ref (c 0)) (.ref (d 0)) (.ref (a 0)) ) ++ (kX1 cs b  Fo)).set (3 + (r10 - 1)) (b r10, .inl (cs 0, 10, .inl (upd (Fo r10) (Int32.toNatClampNeg x1) x3))) = ((kX7 cs x (.ref (g 0)) (.ref (g2 0)) (.ref (g3 0)) (.ref (h 0)) (.ref (t 0)) (.ref (sa 0)) Ma) ++ (kX2 cs g (.ref (b 0)) (.ref (c 0)) (.ref (d 0)) (.ref (a 0)) ) ++ (kX1 cs b  Fo_15)) := by
        rcases tr_cases hg11 with h9 | h9 | h9 | h9 <;> (subst h9; rw [hFo_15]; rfl)
      rw [hW9] at hP hD
      refine lv_iload hx hb dX7_set_47 (lv_at hl 0 rfl) ?_
      have he := Option.some.inj hf
      obtain ⟨e0, ht0⟩ := Prod.mk.inj he
      obtain ⟨e1, e2⟩ := Prod.mk.inj ht0
      exact hri _ _ _ rfl (congrArg (fun z => some (Value.int z)) e0.symm) dX7_set_49 _ _ _ (by rw [e1, e2]) hP hD hS
    · have hf := ip_el hc9 hf
      exact h16 Ma Fo _ _ _ hP hD hS (lv_sub hl [0] rfl) hf

def fX7_as_18 (Fo : ST) (Se : ST) (Ma : ST) : Option (Int32 × ST) :=
  dc_b2 (fX7_finding (-1000000001) Ma) (fun r4 Ma_5 => some (r4, Ma_5))
def fX7_as (x1 : Int32) (x2 : Int32) (Ma : ST) (Fo : ST) (Se : ST) : Option (Int32 × ST) :=
  dc_b1 (fX7_isOne x1 Ma Fo) (fun r1 => (if r1 = 0 then fX7_as_18 Fo Se Ma else dc_b1 (fX7_within x2 0 6) (fun r7 => (if r7 = 0 then fX7_as_18 Fo Se Ma else dc_ck x1 10 (dc_b1 (fX7_isUnder (Fo 2 (Int32.toNatClampNeg x1)) x2) (fun r11 => (if r11 = 0 then dc_b2 (fX7_finding (-1000000003) Ma) (fun r15 Ma_16 => some (r15, Ma_16)) else dc_ck x1 10 (some ((Se 6 (Int32.toNatClampNeg x1)), Ma)))))))))
abbrev rmX7_as : Room := { frames := 2, cells := 0, slots := 0, locals := 43 }
set_option maxRecDepth 100000 in
set_option maxHeartbeats 4000000 in
theorem tX7_as (l : Launch) (D : va_G) (cs : Nat → ClassId) (x : Nat → Nat) (g : Nat → Nat) (g2 : Nat → Nat) (g3 : Nat → Nat) (h : Nat → Nat) (t : Nat → Nat) (sa : Nat → Nat) (b : Nat → Nat) (c : Nat → Nat) (d : Nat → Nat) (a : Nat → Nat) (x1 : Int32) (x2 : Int32) (Ma : ST) (Fo : ST) (Se : ST) (r0 : Int32) (Maz : ST) (hf : fX7_as x1 x2 Ma Fo Se = some (r0, Maz)) : CG l yX7_as (wsm yX7_as cX7_as 3 (some .int)) rmX7_as D cs [.ref (x 0), .int x1, .int x2] (some (.int r0)) ((kX7 cs x (.ref (g 0)) (.ref (g2 0)) (.ref (g3 0)) (.ref (h 0)) (.ref (t 0)) (.ref (sa 0)) Ma) ++ (kX2 cs g (.ref (b 0)) (.ref (c 0)) (.ref (d 0)) (.ref (a 0)) ) ++ (kX1 cs b  Fo) ++ (kX4 cs a (.ref (b 0)) (.ref (c 0)) (.ref (d 0)) Se)) ((kX7 cs x (.ref (g 0)) (.ref (g2 0)) (.ref (g3 0)) (.ref (h 0)) (.ref (t 0)) (.ref (sa 0)) Maz) ++ (kX2 cs g (.ref (b 0)) (.ref (c 0)) (.ref (d 0)) (.ref (a 0)) ) ++ (kX1 cs b  Fo) ++ (kX4 cs a (.ref (b 0)) (.ref (c 0)) (.ref (d 0)) Se)) := by
  refine CG.intro (by decide) (Nat.le_of_ble_eq_true rfl) ?_
  intro p e s m below meth c A Q hx hb hml hown hu hK hZ hP0 hD0 hS0 hA hri hrz hrl hrv hra ls0 hl0
  have h18 : ∀ (Ma : ST) (H : Heap) (locs : List Loc) (ls : Array Slot), va_P D vwCl ((kX7 cs x (.ref (g 0)) (.ref (g2 0)) (.ref (g3 0)) (.ref (h 0)) (.ref (t 0)) (.ref (sa 0)) Ma) ++ (kX2 cs g (.ref (b 0)) (.ref (c 0)) (.ref (d 0)) (.ref (a 0)) ) ++ (kX1 cs b  Fo) ++ (kX4 cs a (.ref (b 0)) (.ref (c 0)) (.ref (d 0)) Se)) H → va_D A ((kX7 cs x (.ref (g 0)) (.ref (g2 0)) (.ref (g3 0)) (.ref (h 0)) (.ref (t 0)) (.ref (sa 0)) Ma) ++ (kX2 cs g (.ref (b 0)) (.ref (c 0)) (.ref (d 0)) (.ref (a 0)) ) ++ (kX1 cs b  Fo) ++ (kX4 cs a (.ref (b 0)) (.ref (c 0)) (.ref (d 0)) Se)) → va_S A s.heap H locs → lv_has ls 3 [(0, .ref (x 0))] → fX7_as_18 Fo Se Ma = some (r0, Maz) → W p l e rmX7_as s m [.ref (x 0), .int x1, .int x2].toArray below meth c H locs 0 0 Q (F0 m 18 ls []) := by
    intro Ma H locs ls hP hD hS hl hf
    unfold fX7_as_18 at hf
    refine lv_aload_n hx hb dX7_as_18 rfl (lv_at hl 0 rfl) ?_
    refine lv_ldc (v := (-1000000001)) hx hb hown (hu _ q335) dX7_as_19 ?_
    obtain ⟨r4, Ma_5, hg6, hf⟩ := b2_el hf
    refine cc_V (w' := ((kX7 cs x (.ref (g 0)) (.ref (g2 0)) (.ref (g3 0)) (.ref (h 0)) (.ref (t 0)) (.ref (sa 0)) Ma_5) ++ (kX2 cs g (.ref (b 0)) (.ref (c 0)) (.ref (d 0)) (.ref (a 0)) ) ++ (kX1 cs b  Fo) ++ (kX4 cs a (.ref (b 0)) (.ref (c 0)) (.ref (d 0)) Se))) (wr := ((kX2 cs g (.ref (b 0)) (.ref (c 0)) (.ref (d 0)) (.ref (a 0)) ) ++ (kX1 cs b  Fo) ++ (kX4 cs a (.ref (b 0)) (.ref (c 0)) (.ref (d 0)) Se))) (st1 := [.int r4]) [.int (-1000000001)] hx hb hml hown hu (tX7_finding l D cs x g g2 g3 h t sa (-1000000001) Ma r4 Ma_5 hg6) q339 q54 q336 q338 q0 pdX7_finding ⟨rfl, rfl, Nat.le_of_ble_eq_true rfl, Nat.le_of_ble_eq_true rfl⟩ hK hZ hP hD hS hA [0, 1] [2, 3, 4, 5, 6, 7, 8, 9, 10, 11, 12, 13] [12, 13, 0, 1, 2, 3, 4, 5, 6, 7, 8, 9, 10, 11] rfl rfl rfl rfl rfl rfl rfl rfl rfl rfl hl.1 rfl (Nat.le_of_ble_eq_true rfl) dX7_as_21 rfl (fun H locs hP hD hS => ?_)
    have he := Option.some.inj hf
    obtain ⟨e0, e1⟩ := Prod.mk.inj he
    exact hri _ _ _ rfl (congrArg (fun z => some (Value.int z)) e0.symm) dX7_as_24 _ _ _ (by rw [e1]) hP hD hS
  have hl : lv_has ls0 3 [(0, .ref (x 0)), (1, .int x1), (2, .int x2)] := hl0
  have hP := hP0
  have hD := hD0
  have hS := hS0
  unfold fX7_as at hf
  refine lv_aload_n hx hb dX7_as_0 rfl (lv_at hl 0 rfl) ?_
  refine lv_iload_n hx hb dX7_as_1 rfl (lv_at hl 1 rfl) ?_
  obtain ⟨r1, hg2, hf⟩ := b1_el hf
  refine cc_V (w' := ((kX7 cs x (.ref (g 0)) (.ref (g2 0)) (.ref (g3 0)) (.ref (h 0)) (.ref (t 0)) (.ref (sa 0)) Ma) ++ (kX2 cs g (.ref (b 0)) (.ref (c 0)) (.ref (d 0)) (.ref (a 0)) ) ++ (kX1 cs b  Fo) ++ (kX4 cs a (.ref (b 0)) (.ref (c 0)) (.ref (d 0)) Se))) (wr := (kX4 cs a (.ref (b 0)) (.ref (c 0)) (.ref (d 0)) Se)) (st1 := [.int r1]) [.int x1] hx hb hml hown hu (tX7_isOne l D cs x g g2 g3 h t sa b c d a x1 Ma Fo r1 hg2) q352 q54 q349 q351 q1 pdX7_isOne ⟨rfl, rfl, Nat.le_of_ble_eq_true rfl, Nat.le_of_ble_eq_true rfl⟩ hK hZ hP hD hS hA [0, 1, 2, 3, 4, 5, 6, 7, 8, 9] [10, 11, 12, 13] [4, 5, 6, 7, 8, 9, 10, 11, 12, 13, 0, 1, 2, 3] rfl rfl rfl rfl rfl rfl rfl rfl rfl rfl hl.1 rfl (Nat.le_of_ble_eq_true rfl) dX7_as_2 rfl (fun H locs hP hD hS => ?_)
  refine lv_if_eq (tgt := 18) hx hb dX7_as_5 (by decide) (fun hc3 => ?_) (fun hc3 => ?_)
  · have hf := ip_el hc3 hf
    exact h18 Ma _ _ _ hP hD hS (lv_sub hl [0] rfl) hf
  · have hf := in_el hc3 hf
    refine lv_iload_n hx hb dX7_as_8 rfl (lv_at hl 2 rfl) ?_
    refine lv_iconst (v := 0) hx hb dX7_as_9 (by decide) ?_
    refine lv_bipush (v := 6) hx hb dX7_as_10 (by decide) ?_
    obtain ⟨r7, hg8, hf⟩ := b1_el hf
    refine cc_S0 (st1 := [.int r7]) [.int x2, .int 0, .int 6] hx hb hml hown hu (tX7_within l D cs x2 0 6 r7 hg8) q331 q54 q329 q330 pdX7_within ⟨rfl, rfl, Nat.le_of_ble_eq_true rfl, Nat.le_of_ble_eq_true rfl⟩ hK hZ hP hD hS hA rfl hl.1 rfl (Nat.le_of_ble_eq_true rfl) dX7_as_12 rfl (fun H locs hP hD hS => ?_)
    refine lv_if_ne (tgt := 25) hx hb dX7_as_15 (by decide) (fun hc9 => ?_) (fun hc9 => ?_)
    · have hf := in_el hc9 hf
      refine lv_aload_n hx hb dX7_as_25 rfl (lv_at hl 0 rfl) ?_
      refine va_get (D := D) (ci := 7) (v := .ref (g 0)) (C := RX7) (T := TX7) (N := 8) hx hb hu inX7 hown hK.1 hP 0 rfl rfl 0 (by decide) (hu _ q300) (fun _ h9 => h9) rfl dX7_as_26 ?_
      refine va_get (D := D) (ci := 2) (v := .ref (b 0)) (C := RX2) (T := TX2) (N := 4) hx hb hu inX2 hown hK.1 hP 2 rfl rfl 0 (by decide) (hu _ q196) (fun _ h9 => h9) rfl dX7_as_29 ?_
      refine va_get (D := D) (ci := 1) (v := .ref (b 2)) (C := RX1) (T := TX1) (N := 9) hx hb hu inX1 hown hK.1 hP 3 rfl rfl 1 (by decide) (hu _ q96) (fun _ h9 => h9) rfl dX7_as_32 ?_
      refine lv_iload_n hx hb dX7_as_35 rfl (lv_at hl 1 rfl) ?_
      obtain ⟨hi10, hf⟩ := ck_el hf
      refine va_iald hx hb hK.1 hP 4 0 rfl rfl hi10 dX7_as_36 ?_
      refine lv_iload_n hx hb dX7_as_37 rfl (lv_at hl 2 rfl) ?_
      obtain ⟨r11, hg12, hf⟩ := b1_el hf
      refine cc_S0 (st1 := [.int r11]) [.int (Fo 2 (Int32.toNatClampNeg x1)), .int x2] hx hb hml hown hu (tX7_isUnder l D cs (Fo 2 (Int32.toNatClampNeg x1)) x2 r11 hg12) q462 q54 q460 q461 pdX7_isUnder ⟨rfl, rfl, Nat.le_of_ble_eq_true rfl, Nat.le_of_ble_eq_true rfl⟩ hK hZ hP hD hS hA rfl hl.1 rfl (Nat.le_of_ble_eq_true rfl) dX7_as_38 rfl (fun H locs hP hD hS => ?_)
      refine lv_if_ne (tgt := 51) hx hb dX7_as_41 (by decide) (fun hc13 => ?_) (fun hc13 => ?_)
      · have hf := in_el hc13 hf
        refine lv_aload_n hx hb dX7_as_51 rfl (lv_at hl 0 rfl) ?_
        refine va_get (D := D) (ci := 7) (v := .ref (g 0)) (C := RX7) (T := TX7) (N := 8) hx hb hu inX7 hown hK.1 hP 0 rfl rfl 0 (by decide) (hu _ q300) (fun _ h9 => h9) rfl dX7_as_52 ?_
        refine va_get (D := D) (ci := 2) (v := .ref (a 0)) (C := RX2) (T := TX2) (N := 4) hx hb hu inX2 hown hK.1 hP 2 rfl rfl 3 (by decide) (hu _ q204) (fun _ h9 => h9) rfl dX7_as_55 ?_
        refine va_get (D := D) (ci := 4) (v := .ref (a 6)) (C := RX4) (T := TX4) (N := 10) hx hb hu inX4 hown hK.1 hP 10 rfl rfl 5 (by decide) (hu _ q166) (fun _ h9 => h9) rfl dX7_as_58 ?_
        refine lv_iload_n hx hb dX7_as_61 rfl (lv_at hl 1 rfl) ?_
        obtain ⟨hi14, hf⟩ := ck_el hf
        refine va_iald hx hb hK.1 hP 13 0 rfl rfl hi14 dX7_as_62 ?_
        have he := Option.some.inj hf
        obtain ⟨e0, e1⟩ := Prod.mk.inj he
        exact hri _ _ _ rfl (congrArg (fun z => some (Value.int z)) e0.symm) dX7_as_63 _ _ _ (by rw [e1]) hP hD hS
      · have hf := ip_el hc13 hf
        refine lv_aload_n hx hb dX7_as_44 rfl (lv_at hl 0 rfl) ?_
        refine lv_ldc (v := (-1000000003)) hx hb hown (hu _ q465) dX7_as_45 ?_
        obtain ⟨r15, Ma_16, hg17, hf⟩ := b2_el hf
        refine cc_V (w' := ((kX7 cs x (.ref (g 0)) (.ref (g2 0)) (.ref (g3 0)) (.ref (h 0)) (.ref (t 0)) (.ref (sa 0)) Ma_16) ++ (kX2 cs g (.ref (b 0)) (.ref (c 0)) (.ref (d 0)) (.ref (a 0)) ) ++ (kX1 cs b  Fo) ++ (kX4 cs a (.ref (b 0)) (.ref (c 0)) (.ref (d 0)) Se))) (wr := ((kX2 cs g (.ref (b 0)) (.ref (c 0)) (.ref (d 0)) (.ref (a 0)) ) ++ (kX1 cs b  Fo) ++ (kX4 cs a (.ref (b 0)) (.ref (c 0)) (.ref (d 0)) Se))) (st1 := [.int r15]) [.int (-1000000003)] hx hb hml hown hu (tX7_finding l D cs x g g2 g3 h t sa (-1000000003) Ma r15 Ma_16 hg17) q339 q54 q336 q338 q0 pdX7_finding ⟨rfl, rfl, Nat.le_of_ble_eq_true rfl, Nat.le_of_ble_eq_true rfl⟩ hK hZ hP hD hS hA [0, 1] [2, 3, 4, 5, 6, 7, 8, 9, 10, 11, 12, 13] [12, 13, 0, 1, 2, 3, 4, 5, 6, 7, 8, 9, 10, 11] rfl rfl rfl rfl rfl rfl rfl rfl rfl rfl hl.1 rfl (Nat.le_of_ble_eq_true rfl) dX7_as_47 rfl (fun H locs hP hD hS => ?_)
        have he := Option.some.inj hf
        obtain ⟨e0, e1⟩ := Prod.mk.inj he
        exact hri _ _ _ rfl (congrArg (fun z => some (Value.int z)) e0.symm) dX7_as_50 _ _ _ (by rw [e1]) hP hD hS
    · have hf := ip_el hc9 hf
      exact h18 Ma _ _ _ hP hD hS (lv_sub hl [0] rfl) hf

def fX7_likes_20 (Ma : ST) (Fo : ST) : Option (Int32 × ST × ST) :=
  dc_b2 (fX7_finding (-1000000001) Ma) (fun r4 Ma_5 => some (r4, Ma_5, Fo))
def fX7_likes (x1 : Int32) (x2 : Int32) (x3 : Int32) (Ma : ST) (Fo : ST) : Option (Int32 × ST × ST) :=
  dc_b1 (fX7_areTwo x1 x2 Ma Fo) (fun r1 => (if r1 = 0 then fX7_likes_20 Ma Fo else dc_b1 (fX7_within x3 (-9) 9) (fun r7 => (if r7 = 0 then fX7_likes_20 Ma Fo else dc_lt ((x1 * 10) + x2) (fun v10 => dc_ck v10 100 (dc_lt (Fo 7 (Int32.toNatClampNeg v10)) (fun v12 => dc_ck v10 100 (dc_lt (sti Fo 7 (Int32.toNatClampNeg v10) x3) (fun Fo_14 => some (v12, Ma, Fo_14))))))))))
abbrev rmX7_likes : Room := { frames := 3, cells := 0, slots := 0, locals := 65 }
set_option maxRecDepth 100000 in
set_option maxHeartbeats 4000000 in
theorem tX7_likes (l : Launch) (D : va_G) (cs : Nat → ClassId) (x : Nat → Nat) (g : Nat → Nat) (g2 : Nat → Nat) (g3 : Nat → Nat) (h : Nat → Nat) (t : Nat → Nat) (sa : Nat → Nat) (b : Nat → Nat) (c : Nat → Nat) (d : Nat → Nat) (a : Nat → Nat) (x1 : Int32) (x2 : Int32) (x3 : Int32) (Ma : ST) (Fo : ST) (r0 : Int32) (Maz : ST) (Foz : ST) (hf : fX7_likes x1 x2 x3 Ma Fo = some (r0, Maz, Foz)) : CG l yX7_likes (wsm yX7_likes cX7_likes 6 (some .int)) rmX7_likes D cs [.ref (x 0), .int x1, .int x2, .int x3] (some (.int r0)) ((kX7 cs x (.ref (g 0)) (.ref (g2 0)) (.ref (g3 0)) (.ref (h 0)) (.ref (t 0)) (.ref (sa 0)) Ma) ++ (kX2 cs g (.ref (b 0)) (.ref (c 0)) (.ref (d 0)) (.ref (a 0)) ) ++ (kX1 cs b  Fo)) ((kX7 cs x (.ref (g 0)) (.ref (g2 0)) (.ref (g3 0)) (.ref (h 0)) (.ref (t 0)) (.ref (sa 0)) Maz) ++ (kX2 cs g (.ref (b 0)) (.ref (c 0)) (.ref (d 0)) (.ref (a 0)) ) ++ (kX1 cs b  Foz)) := by
  refine CG.intro (by decide) (Nat.le_of_ble_eq_true rfl) ?_
  intro p e s m below meth c A Q hx hb hml hown hu hK hZ hP0 hD0 hS0 hA hri hrz hrl hrv hra ls0 hl0
  have h20 : ∀ (Ma : ST) (Fo : ST) (H : Heap) (locs : List Loc) (ls : Array Slot), va_P D vwCl ((kX7 cs x (.ref (g 0)) (.ref (g2 0)) (.ref (g3 0)) (.ref (h 0)) (.ref (t 0)) (.ref (sa 0)) Ma) ++ (kX2 cs g (.ref (b 0)) (.ref (c 0)) (.ref (d 0)) (.ref (a 0)) ) ++ (kX1 cs b  Fo)) H → va_D A ((kX7 cs x (.ref (g 0)) (.ref (g2 0)) (.ref (g3 0)) (.ref (h 0)) (.ref (t 0)) (.ref (sa 0)) Ma) ++ (kX2 cs g (.ref (b 0)) (.ref (c 0)) (.ref (d 0)) (.ref (a 0)) ) ++ (kX1 cs b  Fo)) → va_S A s.heap H locs → lv_has ls 6 [(0, .ref (x 0))] → fX7_likes_20 Ma Fo = some (r0, Maz, Foz) → W p l e rmX7_likes s m [.ref (x 0), .int x1, .int x2, .int x3].toArray below meth c H locs 0 0 Q (F0 m 20 ls []) := by
    intro Ma Fo H locs ls hP hD hS hl hf
    unfold fX7_likes_20 at hf
    refine lv_aload_n hx hb dX7_likes_20 rfl (lv_at hl 0 rfl) ?_
    refine lv_ldc (v := (-1000000001)) hx hb hown (hu _ q335) dX7_likes_21 ?_
    obtain ⟨r4, Ma_5, hg6, hf⟩ := b2_el hf
    refine cc_V (w' := ((kX7 cs x (.ref (g 0)) (.ref (g2 0)) (.ref (g3 0)) (.ref (h 0)) (.ref (t 0)) (.ref (sa 0)) Ma_5) ++ (kX2 cs g (.ref (b 0)) (.ref (c 0)) (.ref (d 0)) (.ref (a 0)) ) ++ (kX1 cs b  Fo))) (wr := ((kX2 cs g (.ref (b 0)) (.ref (c 0)) (.ref (d 0)) (.ref (a 0)) ) ++ (kX1 cs b  Fo))) (st1 := [.int r4]) [.int (-1000000001)] hx hb hml hown hu (tX7_finding l D cs x g g2 g3 h t sa (-1000000001) Ma r4 Ma_5 hg6) q339 q54 q336 q338 q0 pdX7_finding ⟨rfl, rfl, Nat.le_of_ble_eq_true rfl, Nat.le_of_ble_eq_true rfl⟩ hK hZ hP hD hS hA [0, 1] [2, 3, 4, 5, 6, 7, 8, 9] [8, 9, 0, 1, 2, 3, 4, 5, 6, 7] rfl rfl rfl rfl rfl rfl rfl rfl rfl rfl hl.1 rfl (Nat.le_of_ble_eq_true rfl) dX7_likes_23 rfl (fun H locs hP hD hS => ?_)
    have he := Option.some.inj hf
    obtain ⟨e0, ht0⟩ := Prod.mk.inj he
    obtain ⟨e1, e2⟩ := Prod.mk.inj ht0
    exact hri _ _ _ rfl (congrArg (fun z => some (Value.int z)) e0.symm) dX7_likes_26 _ _ _ (by rw [e1, e2]) hP hD hS
  have hl : lv_has ls0 6 [(0, .ref (x 0)), (1, .int x1), (2, .int x2), (3, .int x3)] := hl0
  have hP := hP0
  have hD := hD0
  have hS := hS0
  unfold fX7_likes at hf
  refine lv_aload_n hx hb dX7_likes_0 rfl (lv_at hl 0 rfl) ?_
  refine lv_iload_n hx hb dX7_likes_1 rfl (lv_at hl 1 rfl) ?_
  refine lv_iload_n hx hb dX7_likes_2 rfl (lv_at hl 2 rfl) ?_
  obtain ⟨r1, hg2, hf⟩ := b1_el hf
  refine cc_V1 (w' := ((kX7 cs x (.ref (g 0)) (.ref (g2 0)) (.ref (g3 0)) (.ref (h 0)) (.ref (t 0)) (.ref (sa 0)) Ma) ++ (kX2 cs g (.ref (b 0)) (.ref (c 0)) (.ref (d 0)) (.ref (a 0)) ) ++ (kX1 cs b  Fo))) (st1 := [.int r1]) [.int x1, .int x2] hx hb hml hown hu (tX7_areTwo l D cs x g g2 g3 h t sa b c d a x1 x2 Ma Fo r1 hg2) q473 q54 q470 q472 q5 pdX7_areTwo ⟨rfl, rfl, Nat.le_of_ble_eq_true rfl, Nat.le_of_ble_eq_true rfl⟩ hK hZ hP hD hS hA rfl rfl rfl rfl hl.1 rfl (Nat.le_of_ble_eq_true rfl) dX7_likes_3 rfl (fun H locs hP hD hS => ?_)
  refine lv_if_eq (tgt := 20) hx hb dX7_likes_6 (by decide) (fun hc3 => ?_) (fun hc3 => ?_)
  · have hf := ip_el hc3 hf
    exact h20 Ma Fo _ _ _ hP hD hS (lv_sub hl [0] rfl) hf
  · have hf := in_el hc3 hf
    refine lv_iload_n hx hb dX7_likes_9 rfl (lv_at hl 3 rfl) ?_
    refine lv_bipush (v := (-9)) hx hb dX7_likes_10 (by decide) ?_
    refine lv_bipush (v := 9) hx hb dX7_likes_12 (by decide) ?_
    obtain ⟨r7, hg8, hf⟩ := b1_el hf
    refine cc_S0 (st1 := [.int r7]) [.int x3, .int (-9), .int 9] hx hb hml hown hu (tX7_within l D cs x3 (-9) 9 r7 hg8) q331 q54 q329 q330 pdX7_within ⟨rfl, rfl, Nat.le_of_ble_eq_true rfl, Nat.le_of_ble_eq_true rfl⟩ hK hZ hP hD hS hA rfl hl.1 rfl (Nat.le_of_ble_eq_true rfl) dX7_likes_14 rfl (fun H locs hP hD hS => ?_)
    refine lv_if_ne (tgt := 27) hx hb dX7_likes_17 (by decide) (fun hc9 => ?_) (fun hc9 => ?_)
    · have hf := in_el hc9 hf
      refine lv_iload_n hx hb dX7_likes_27 rfl (lv_at hl 1 rfl) ?_
      refine lv_bipush (v := 10) hx hb dX7_likes_28 (by decide) ?_
      refine lv_imul hx hb dX7_likes_30 ?_
      refine lv_iload_n hx hb dX7_likes_31 rfl (lv_at hl 2 rfl) ?_
      refine lv_iadd hx hb dX7_likes_32 ?_
      obtain ⟨v10, hv10, hf⟩ := lt_el hf
      refine lv_tope hv10 ?_
      refine lv_istore (lv' := [(4, .int v10), (0, .ref (x 0)), (1, .int x1), (2, .int x2), (3, .int x3)]) hx hb dX7_likes_33 hl (by decide) rfl (fun ls hl => ?_)
      refine lv_aload_n hx hb dX7_likes_35 rfl (lv_at hl 1 rfl) ?_
      refine va_get (D := D) (ci := 7) (v := .ref (g 0)) (C := RX7) (T := TX7) (N := 8) hx hb hu inX7 hown hK.1 hP 0 rfl rfl 0 (by decide) (hu _ q300) (fun _ h9 => h9) rfl dX7_likes_36 ?_
      refine va_get (D := D) (ci := 2) (v := .ref (b 0)) (C := RX2) (T := TX2) (N := 4) hx hb hu inX2 hown hK.1 hP 2 rfl rfl 0 (by decide) (hu _ q196) (fun _ h9 => h9) rfl dX7_likes_39 ?_
      refine va_get (D := D) (ci := 1) (v := .ref (b 7)) (C := RX1) (T := TX1) (N := 9) hx hb hu inX1 hown hK.1 hP 3 rfl rfl 6 (by decide) (hu _ q107) (fun _ h9 => h9) rfl dX7_likes_42 ?_
      refine lv_iload hx hb dX7_likes_45 (lv_at hl 0 rfl) ?_
      obtain ⟨hi11, hf⟩ := ck_el hf
      refine va_iald hx hb hK.1 hP 8 0 rfl rfl hi11 dX7_likes_47 ?_
      obtain ⟨v12, hv12, hf⟩ := lt_el hf
      refine lv_tope hv12 ?_
      refine lv_istore (lv' := [(5, .int v12), (4, .int v10), (0, .ref (x 0)), (1, .int x1), (2, .int x2), (3, .int x3)]) hx hb dX7_likes_48 hl (by decide) rfl (fun ls hl => ?_)
      refine lv_aload_n hx hb dX7_likes_50 rfl (lv_at hl 2 rfl) ?_
      refine va_get (D := D) (ci := 7) (v := .ref (g 0)) (C := RX7) (T := TX7) (N := 8) hx hb hu inX7 hown hK.1 hP 0 rfl rfl 0 (by decide) (hu _ q300) (fun _ h9 => h9) rfl dX7_likes_51 ?_
      refine va_get (D := D) (ci := 2) (v := .ref (b 0)) (C := RX2) (T := TX2) (N := 4) hx hb hu inX2 hown hK.1 hP 2 rfl rfl 0 (by decide) (hu _ q196) (fun _ h9 => h9) rfl dX7_likes_54 ?_
      refine va_get (D := D) (ci := 1) (v := .ref (b 7)) (C := RX1) (T := TX1) (N := 9) hx hb hu inX1 hown hK.1 hP 3 rfl rfl 6 (by decide) (hu _ q107) (fun _ h9 => h9) rfl dX7_likes_57 ?_
      refine lv_iload hx hb dX7_likes_60 (lv_at hl 1 rfl) ?_
      refine lv_iload_n hx hb dX7_likes_62 rfl (lv_at hl 5 rfl) ?_
      obtain ⟨hi13, hf⟩ := ck_el hf
      obtain ⟨Fo_14, hFo_14, hf⟩ := lt_el hf
      refine va_iast hx hb hK.1 hP hD hS 8 0 rfl rfl hi13 dX7_likes_63 (fun H locs hP hD hS => ?_)
      have hP : va_P D vwCl ((kX7 cs x (.ref (g 0)) (.ref (g2 0)) (.ref (g3 0)) (.ref (h 0)) (.ref (t 0)) (.ref (sa 0)) Ma) ++ (kX2 cs g (.ref (b 0)) (.ref (c 0)) (.ref (d 0)) (.ref (a 0)) ) ++ (kX1 cs b  Fo_14)) H := by rw [hFo_14]; exact hP
      have hD : va_D A ((kX7 cs x (.ref (g 0)) (.ref (g2 0)) (.ref (g3 0)) (.ref (h 0)) (.ref (t 0)) (.ref (sa 0)) Ma) ++ (kX2 cs g (.ref (b 0)) (.ref (c 0)) (.ref (d 0)) (.ref (a 0)) ) ++ (kX1 cs b  Fo_14)) := by rw [hFo_14]; exact hD
      refine lv_iload hx hb dX7_likes_64 (lv_at hl 0 rfl) ?_
      have he := Option.some.inj hf
      obtain ⟨e0, ht0⟩ := Prod.mk.inj he
      obtain ⟨e1, e2⟩ := Prod.mk.inj ht0
      exact hri _ _ _ rfl (congrArg (fun z => some (Value.int z)) e0.symm) dX7_likes_66 _ _ _ (by rw [e1, e2]) hP hD hS
    · have hf := ip_el hc9 hf
      exact h20 Ma Fo _ _ _ hP hD hS (lv_sub hl [0] rfl) hf

def fX7_worth_25 (Ma : ST) (Fo : ST) : Option (Int32 × ST × ST) :=
  dc_b2 (fX7_finding (-1000000001) Ma) (fun r4 Ma_5 => some (r4, Ma_5, Fo))
def fX7_worth (x1 : Int32) (x2 : Int32) (x3 : Int32) (Ma : ST) (Fo : ST) : Option (Int32 × ST × ST) :=
  dc_b1 (fX7_isSort x1) (fun r1 => (if r1 = 0 then fX7_worth_25 Ma Fo else dc_b1 (fX7_isSort x2) (fun r7 => (if r7 = 0 then fX7_worth_25 Ma Fo else dc_b1 (fX7_within x3 (-99) 99) (fun r10 => (if r10 = 0 then fX7_worth_25 Ma Fo else dc_lt ((x1 * 4) + x2) (fun v13 => dc_ck v13 16 (dc_lt (Fo 8 (Int32.toNatClampNeg v13)) (fun v15 => dc_ck v13 16 (dc_lt (sti Fo 8 (Int32.toNatClampNeg v13) x3) (fun Fo_17 => some (v15, Ma, Fo_17))))))))))))
abbrev rmX7_worth : Room := { frames := 2, cells := 0, slots := 0, locals := 42 }
set_option maxRecDepth 100000 in
set_option maxHeartbeats 4000000 in
theorem tX7_worth (l : Launch) (D : va_G) (cs : Nat → ClassId) (x : Nat → Nat) (g : Nat → Nat) (g2 : Nat → Nat) (g3 : Nat → Nat) (h : Nat → Nat) (t : Nat → Nat) (sa : Nat → Nat) (b : Nat → Nat) (c : Nat → Nat) (d : Nat → Nat) (a : Nat → Nat) (x1 : Int32) (x2 : Int32) (x3 : Int32) (Ma : ST) (Fo : ST) (r0 : Int32) (Maz : ST) (Foz : ST) (hf : fX7_worth x1 x2 x3 Ma Fo = some (r0, Maz, Foz)) : CG l yX7_worth (wsm yX7_worth cX7_worth 6 (some .int)) rmX7_worth D cs [.ref (x 0), .int x1, .int x2, .int x3] (some (.int r0)) ((kX7 cs x (.ref (g 0)) (.ref (g2 0)) (.ref (g3 0)) (.ref (h 0)) (.ref (t 0)) (.ref (sa 0)) Ma) ++ (kX2 cs g (.ref (b 0)) (.ref (c 0)) (.ref (d 0)) (.ref (a 0)) ) ++ (kX1 cs b  Fo)) ((kX7 cs x (.ref (g 0)) (.ref (g2 0)) (.ref (g3 0)) (.ref (h 0)) (.ref (t 0)) (.ref (sa 0)) Maz) ++ (kX2 cs g (.ref (b 0)) (.ref (c 0)) (.ref (d 0)) (.ref (a 0)) ) ++ (kX1 cs b  Foz)) := by
  refine CG.intro (by decide) (Nat.le_of_ble_eq_true rfl) ?_
  intro p e s m below meth c A Q hx hb hml hown hu hK hZ hP0 hD0 hS0 hA hri hrz hrl hrv hra ls0 hl0
  have h25 : ∀ (Ma : ST) (Fo : ST) (H : Heap) (locs : List Loc) (ls : Array Slot), va_P D vwCl ((kX7 cs x (.ref (g 0)) (.ref (g2 0)) (.ref (g3 0)) (.ref (h 0)) (.ref (t 0)) (.ref (sa 0)) Ma) ++ (kX2 cs g (.ref (b 0)) (.ref (c 0)) (.ref (d 0)) (.ref (a 0)) ) ++ (kX1 cs b  Fo)) H → va_D A ((kX7 cs x (.ref (g 0)) (.ref (g2 0)) (.ref (g3 0)) (.ref (h 0)) (.ref (t 0)) (.ref (sa 0)) Ma) ++ (kX2 cs g (.ref (b 0)) (.ref (c 0)) (.ref (d 0)) (.ref (a 0)) ) ++ (kX1 cs b  Fo)) → va_S A s.heap H locs → lv_has ls 6 [(0, .ref (x 0))] → fX7_worth_25 Ma Fo = some (r0, Maz, Foz) → W p l e rmX7_worth s m [.ref (x 0), .int x1, .int x2, .int x3].toArray below meth c H locs 0 0 Q (F0 m 25 ls []) := by
    intro Ma Fo H locs ls hP hD hS hl hf
    unfold fX7_worth_25 at hf
    refine lv_aload_n hx hb dX7_worth_25 rfl (lv_at hl 0 rfl) ?_
    refine lv_ldc (v := (-1000000001)) hx hb hown (hu _ q335) dX7_worth_26 ?_
    obtain ⟨r4, Ma_5, hg6, hf⟩ := b2_el hf
    refine cc_V (w' := ((kX7 cs x (.ref (g 0)) (.ref (g2 0)) (.ref (g3 0)) (.ref (h 0)) (.ref (t 0)) (.ref (sa 0)) Ma_5) ++ (kX2 cs g (.ref (b 0)) (.ref (c 0)) (.ref (d 0)) (.ref (a 0)) ) ++ (kX1 cs b  Fo))) (wr := ((kX2 cs g (.ref (b 0)) (.ref (c 0)) (.ref (d 0)) (.ref (a 0)) ) ++ (kX1 cs b  Fo))) (st1 := [.int r4]) [.int (-1000000001)] hx hb hml hown hu (tX7_finding l D cs x g g2 g3 h t sa (-1000000001) Ma r4 Ma_5 hg6) q339 q54 q336 q338 q0 pdX7_finding ⟨rfl, rfl, Nat.le_of_ble_eq_true rfl, Nat.le_of_ble_eq_true rfl⟩ hK hZ hP hD hS hA [0, 1] [2, 3, 4, 5, 6, 7, 8, 9] [8, 9, 0, 1, 2, 3, 4, 5, 6, 7] rfl rfl rfl rfl rfl rfl rfl rfl rfl rfl hl.1 rfl (Nat.le_of_ble_eq_true rfl) dX7_worth_28 rfl (fun H locs hP hD hS => ?_)
    have he := Option.some.inj hf
    obtain ⟨e0, ht0⟩ := Prod.mk.inj he
    obtain ⟨e1, e2⟩ := Prod.mk.inj ht0
    exact hri _ _ _ rfl (congrArg (fun z => some (Value.int z)) e0.symm) dX7_worth_31 _ _ _ (by rw [e1, e2]) hP hD hS
  have hl : lv_has ls0 6 [(0, .ref (x 0)), (1, .int x1), (2, .int x2), (3, .int x3)] := hl0
  have hP := hP0
  have hD := hD0
  have hS := hS0
  unfold fX7_worth at hf
  refine lv_iload_n hx hb dX7_worth_0 rfl (lv_at hl 1 rfl) ?_
  obtain ⟨r1, hg2, hf⟩ := b1_el hf
  refine cc_S0 (st1 := [.int r1]) [.int x1] hx hb hml hown hu (tX7_isSort l D cs x1 r1 hg2) q334 q54 q332 q333 pdX7_isSort ⟨rfl, rfl, Nat.le_of_ble_eq_true rfl, Nat.le_of_ble_eq_true rfl⟩ hK hZ hP hD hS hA rfl hl.1 rfl (Nat.le_of_ble_eq_true rfl) dX7_worth_1 rfl (fun H locs hP hD hS => ?_)
  refine lv_if_eq (tgt := 25) hx hb dX7_worth_4 (by decide) (fun hc3 => ?_) (fun hc3 => ?_)
  · have hf := ip_el hc3 hf
    exact h25 Ma Fo _ _ _ hP hD hS (lv_sub hl [0] rfl) hf
  · have hf := in_el hc3 hf
    refine lv_iload_n hx hb dX7_worth_7 rfl (lv_at hl 2 rfl) ?_
    obtain ⟨r7, hg8, hf⟩ := b1_el hf
    refine cc_S0 (st1 := [.int r7]) [.int x2] hx hb hml hown hu (tX7_isSort l D cs x2 r7 hg8) q334 q54 q332 q333 pdX7_isSort ⟨rfl, rfl, Nat.le_of_ble_eq_true rfl, Nat.le_of_ble_eq_true rfl⟩ hK hZ hP hD hS hA rfl hl.1 rfl (Nat.le_of_ble_eq_true rfl) dX7_worth_8 rfl (fun H locs hP hD hS => ?_)
    refine lv_if_eq (tgt := 25) hx hb dX7_worth_11 (by decide) (fun hc9 => ?_) (fun hc9 => ?_)
    · have hf := ip_el hc9 hf
      exact h25 Ma Fo _ _ _ hP hD hS (lv_sub hl [0] rfl) hf
    · have hf := in_el hc9 hf
      refine lv_iload_n hx hb dX7_worth_14 rfl (lv_at hl 3 rfl) ?_
      refine lv_bipush (v := (-99)) hx hb dX7_worth_15 (by decide) ?_
      refine lv_bipush (v := 99) hx hb dX7_worth_17 (by decide) ?_
      obtain ⟨r10, hg11, hf⟩ := b1_el hf
      refine cc_S0 (st1 := [.int r10]) [.int x3, .int (-99), .int 99] hx hb hml hown hu (tX7_within l D cs x3 (-99) 99 r10 hg11) q331 q54 q329 q330 pdX7_within ⟨rfl, rfl, Nat.le_of_ble_eq_true rfl, Nat.le_of_ble_eq_true rfl⟩ hK hZ hP hD hS hA rfl hl.1 rfl (Nat.le_of_ble_eq_true rfl) dX7_worth_19 rfl (fun H locs hP hD hS => ?_)
      refine lv_if_ne (tgt := 32) hx hb dX7_worth_22 (by decide) (fun hc12 => ?_) (fun hc12 => ?_)
      · have hf := in_el hc12 hf
        refine lv_iload_n hx hb dX7_worth_32 rfl (lv_at hl 1 rfl) ?_
        refine lv_iconst (v := 4) hx hb dX7_worth_33 (by decide) ?_
        refine lv_imul hx hb dX7_worth_34 ?_
        refine lv_iload_n hx hb dX7_worth_35 rfl (lv_at hl 2 rfl) ?_
        refine lv_iadd hx hb dX7_worth_36 ?_
        obtain ⟨v13, hv13, hf⟩ := lt_el hf
        refine lv_tope hv13 ?_
        refine lv_istore (lv' := [(4, .int v13), (0, .ref (x 0)), (1, .int x1), (2, .int x2), (3, .int x3)]) hx hb dX7_worth_37 hl (by decide) rfl (fun ls hl => ?_)
        refine lv_aload_n hx hb dX7_worth_39 rfl (lv_at hl 1 rfl) ?_
        refine va_get (D := D) (ci := 7) (v := .ref (g 0)) (C := RX7) (T := TX7) (N := 8) hx hb hu inX7 hown hK.1 hP 0 rfl rfl 0 (by decide) (hu _ q300) (fun _ h9 => h9) rfl dX7_worth_40 ?_
        refine va_get (D := D) (ci := 2) (v := .ref (b 0)) (C := RX2) (T := TX2) (N := 4) hx hb hu inX2 hown hK.1 hP 2 rfl rfl 0 (by decide) (hu _ q196) (fun _ h9 => h9) rfl dX7_worth_43 ?_
        refine va_get (D := D) (ci := 1) (v := .ref (b 8)) (C := RX1) (T := TX1) (N := 9) hx hb hu inX1 hown hK.1 hP 3 rfl rfl 7 (by decide) (hu _ q111) (fun _ h9 => h9) rfl dX7_worth_46 ?_
        refine lv_iload hx hb dX7_worth_49 (lv_at hl 0 rfl) ?_
        obtain ⟨hi14, hf⟩ := ck_el hf
        refine va_iald hx hb hK.1 hP 9 0 rfl rfl hi14 dX7_worth_51 ?_
        obtain ⟨v15, hv15, hf⟩ := lt_el hf
        refine lv_tope hv15 ?_
        refine lv_istore (lv' := [(5, .int v15), (4, .int v13), (0, .ref (x 0)), (1, .int x1), (2, .int x2), (3, .int x3)]) hx hb dX7_worth_52 hl (by decide) rfl (fun ls hl => ?_)
        refine lv_aload_n hx hb dX7_worth_54 rfl (lv_at hl 2 rfl) ?_
        refine va_get (D := D) (ci := 7) (v := .ref (g 0)) (C := RX7) (T := TX7) (N := 8) hx hb hu inX7 hown hK.1 hP 0 rfl rfl 0 (by decide) (hu _ q300) (fun _ h9 => h9) rfl dX7_worth_55 ?_
        refine va_get (D := D) (ci := 2) (v := .ref (b 0)) (C := RX2) (T := TX2) (N := 4) hx hb hu inX2 hown hK.1 hP 2 rfl rfl 0 (by decide) (hu _ q196) (fun _ h9 => h9) rfl dX7_worth_58 ?_
        refine va_get (D := D) (ci := 1) (v := .ref (b 8)) (C := RX1) (T := TX1) (N := 9) hx hb hu inX1 hown hK.1 hP 3 rfl rfl 7 (by decide) (hu _ q111) (fun _ h9 => h9) rfl dX7_worth_61 ?_
        refine lv_iload hx hb dX7_worth_64 (lv_at hl 1 rfl) ?_
        refine lv_iload_n hx hb dX7_worth_66 rfl (lv_at hl 5 rfl) ?_
        obtain ⟨hi16, hf⟩ := ck_el hf
        obtain ⟨Fo_17, hFo_17, hf⟩ := lt_el hf
        refine va_iast hx hb hK.1 hP hD hS 9 0 rfl rfl hi16 dX7_worth_67 (fun H locs hP hD hS => ?_)
        have hP : va_P D vwCl ((kX7 cs x (.ref (g 0)) (.ref (g2 0)) (.ref (g3 0)) (.ref (h 0)) (.ref (t 0)) (.ref (sa 0)) Ma) ++ (kX2 cs g (.ref (b 0)) (.ref (c 0)) (.ref (d 0)) (.ref (a 0)) ) ++ (kX1 cs b  Fo_17)) H := by rw [hFo_17]; exact hP
        have hD : va_D A ((kX7 cs x (.ref (g 0)) (.ref (g2 0)) (.ref (g3 0)) (.ref (h 0)) (.ref (t 0)) (.ref (sa 0)) Ma) ++ (kX2 cs g (.ref (b 0)) (.ref (c 0)) (.ref (d 0)) (.ref (a 0)) ) ++ (kX1 cs b  Fo_17)) := by rw [hFo_17]; exact hD
        refine lv_iload hx hb dX7_worth_68 (lv_at hl 0 rfl) ?_
        have he := Option.some.inj hf
        obtain ⟨e0, ht0⟩ := Prod.mk.inj he
        obtain ⟨e1, e2⟩ := Prod.mk.inj ht0
        exact hri _ _ _ rfl (congrArg (fun z => some (Value.int z)) e0.symm) dX7_worth_70 _ _ _ (by rw [e1, e2]) hP hD hS
      · have hf := ip_el hc12 hf
        exact h25 Ma Fo _ _ _ hP hD hS (lv_sub hl [0] rfl) hf

def fX7_rule_26 (Ma : ST) (Se : ST) : Option (Int32 × ST × ST) :=
  dc_b2 (fX7_finding (-1000000001) Ma) (fun r4 Ma_5 => some (r4, Ma_5, Se))
def fX7_rule (x1 : Int32) (x2 : Int32) (Ma : ST) (Se : ST) : Option (Int32 × ST × ST) :=
  dc_b1 (fX7_within x1 0 5) (fun r1 => (if r1 = 0 then fX7_rule_26 Ma Se else dc_ck x1 6 (dc_ck x1 6 (dc_b1 (fX7_within x2 (tabL (Int32.toNatClampNeg x1)) (tabM (Int32.toNatClampNeg x1))) (fun r9 => (if r9 = 0 then fX7_rule_26 Ma Se else dc_ck x1 6 (dc_lt (Se 4 (Int32.toNatClampNeg x1)) (fun v13 => dc_b1 (fX4_giveRule x1 x2 Se) (fun Se_14 => some (v13, Ma, Se_14))))))))))
abbrev rmX7_rule : Room := { frames := 3, cells := 0, slots := 0, locals := 68 }
set_option maxRecDepth 100000 in
set_option maxHeartbeats 4000000 in
theorem tX7_rule (l : Launch) (D : va_G) (cs : Nat → ClassId) (x : Nat → Nat) (g : Nat → Nat) (g2 : Nat → Nat) (g3 : Nat → Nat) (h : Nat → Nat) (t : Nat → Nat) (sa : Nat → Nat) (b : Nat → Nat) (c : Nat → Nat) (d : Nat → Nat) (a : Nat → Nat) (x1 : Int32) (x2 : Int32) (Ma : ST) (Se : ST) (r0 : Int32) (Maz : ST) (Sez : ST) (hf : fX7_rule x1 x2 Ma Se = some (r0, Maz, Sez)) : CG l yX7_rule (wsm yX7_rule cX7_rule 4 (some .int)) rmX7_rule D cs [.ref (x 0), .int x1, .int x2] (some (.int r0)) ((kX7 cs x (.ref (g 0)) (.ref (g2 0)) (.ref (g3 0)) (.ref (h 0)) (.ref (t 0)) (.ref (sa 0)) Ma) ++ (kX2 cs g (.ref (b 0)) (.ref (c 0)) (.ref (d 0)) (.ref (a 0)) ) ++ (kX4 cs a (.ref (b 0)) (.ref (c 0)) (.ref (d 0)) Se)) ((kX7 cs x (.ref (g 0)) (.ref (g2 0)) (.ref (g3 0)) (.ref (h 0)) (.ref (t 0)) (.ref (sa 0)) Maz) ++ (kX2 cs g (.ref (b 0)) (.ref (c 0)) (.ref (d 0)) (.ref (a 0)) ) ++ (kX4 cs a (.ref (b 0)) (.ref (c 0)) (.ref (d 0)) Sez)) := by
  refine CG.intro (by decide) (Nat.le_of_ble_eq_true rfl) ?_
  intro p e s m below meth c A Q hx hb hml hown hu hK hZ hP0 hD0 hS0 hA hri hrz hrl hrv hra ls0 hl0
  have h26 : ∀ (Ma : ST) (Se : ST) (H : Heap) (locs : List Loc) (ls : Array Slot), va_P D vwCl ((kX7 cs x (.ref (g 0)) (.ref (g2 0)) (.ref (g3 0)) (.ref (h 0)) (.ref (t 0)) (.ref (sa 0)) Ma) ++ (kX2 cs g (.ref (b 0)) (.ref (c 0)) (.ref (d 0)) (.ref (a 0)) ) ++ (kX4 cs a (.ref (b 0)) (.ref (c 0)) (.ref (d 0)) Se)) H → va_D A ((kX7 cs x (.ref (g 0)) (.ref (g2 0)) (.ref (g3 0)) (.ref (h 0)) (.ref (t 0)) (.ref (sa 0)) Ma) ++ (kX2 cs g (.ref (b 0)) (.ref (c 0)) (.ref (d 0)) (.ref (a 0)) ) ++ (kX4 cs a (.ref (b 0)) (.ref (c 0)) (.ref (d 0)) Se)) → va_S A s.heap H locs → lv_has ls 4 [(0, .ref (x 0))] → fX7_rule_26 Ma Se = some (r0, Maz, Sez) → W p l e rmX7_rule s m [.ref (x 0), .int x1, .int x2].toArray below meth c H locs 0 0 Q (F0 m 26 ls []) := by
    intro Ma Se H locs ls hP hD hS hl hf
    unfold fX7_rule_26 at hf
    refine lv_aload_n hx hb dX7_rule_26 rfl (lv_at hl 0 rfl) ?_
    refine lv_ldc (v := (-1000000001)) hx hb hown (hu _ q335) dX7_rule_27 ?_
    obtain ⟨r4, Ma_5, hg6, hf⟩ := b2_el hf
    refine cc_V (w' := ((kX7 cs x (.ref (g 0)) (.ref (g2 0)) (.ref (g3 0)) (.ref (h 0)) (.ref (t 0)) (.ref (sa 0)) Ma_5) ++ (kX2 cs g (.ref (b 0)) (.ref (c 0)) (.ref (d 0)) (.ref (a 0)) ) ++ (kX4 cs a (.ref (b 0)) (.ref (c 0)) (.ref (d 0)) Se))) (wr := ((kX2 cs g (.ref (b 0)) (.ref (c 0)) (.ref (d 0)) (.ref (a 0)) ) ++ (kX4 cs a (.ref (b 0)) (.ref (c 0)) (.ref (d 0)) Se))) (st1 := [.int r4]) [.int (-1000000001)] hx hb hml hown hu (tX7_finding l D cs x g g2 g3 h t sa (-1000000001) Ma r4 Ma_5 hg6) q339 q54 q336 q338 q0 pdX7_finding ⟨rfl, rfl, Nat.le_of_ble_eq_true rfl, Nat.le_of_ble_eq_true rfl⟩ hK hZ hP hD hS hA [0, 1] [2, 3, 4, 5, 6] [5, 6, 0, 1, 2, 3, 4] rfl rfl rfl rfl rfl rfl rfl rfl rfl rfl hl.1 rfl (Nat.le_of_ble_eq_true rfl) dX7_rule_29 rfl (fun H locs hP hD hS => ?_)
    have he := Option.some.inj hf
    obtain ⟨e0, ht0⟩ := Prod.mk.inj he
    obtain ⟨e1, e2⟩ := Prod.mk.inj ht0
    exact hri _ _ _ rfl (congrArg (fun z => some (Value.int z)) e0.symm) dX7_rule_32 _ _ _ (by rw [e1, e2]) hP hD hS
  have hl : lv_has ls0 4 [(0, .ref (x 0)), (1, .int x1), (2, .int x2)] := hl0
  have hP := hP0
  have hD := hD0
  have hS := hS0
  unfold fX7_rule at hf
  refine lv_iload_n hx hb dX7_rule_0 rfl (lv_at hl 1 rfl) ?_
  refine lv_iconst (v := 0) hx hb dX7_rule_1 (by decide) ?_
  refine lv_iconst (v := 5) hx hb dX7_rule_2 (by decide) ?_
  obtain ⟨r1, hg2, hf⟩ := b1_el hf
  refine cc_S0 (st1 := [.int r1]) [.int x1, .int 0, .int 5] hx hb hml hown hu (tX7_within l D cs x1 0 5 r1 hg2) q331 q54 q329 q330 pdX7_within ⟨rfl, rfl, Nat.le_of_ble_eq_true rfl, Nat.le_of_ble_eq_true rfl⟩ hK hZ hP hD hS hA rfl hl.1 rfl (Nat.le_of_ble_eq_true rfl) dX7_rule_3 rfl (fun H locs hP hD hS => ?_)
  refine lv_if_eq (tgt := 26) hx hb dX7_rule_6 (by decide) (fun hc3 => ?_) (fun hc3 => ?_)
  · have hf := ip_el hc3 hf
    exact h26 Ma Se _ _ _ hP hD hS (lv_sub hl [0] rfl) hf
  · have hf := in_el hc3 hf
    refine lv_iload_n hx hb dX7_rule_9 rfl (lv_at hl 2 rfl) ?_
    refine va_gets hx hb hZ.2.1.1 hS hown (hu _ q482) (fun _ h9 => h9) dX7_rule_10 ?_
    refine lv_iload_n hx hb dX7_rule_13 rfl (lv_at hl 1 rfl) ?_
    obtain ⟨hi7, hf⟩ := ck_el hf
    refine va_ti (v := .int (tabL (Int32.toNatClampNeg x1))) hx hb hZ.2.1.2 hS hi7 rfl dX7_rule_14 ?_
    refine va_gets hx hb hZ.2.2.1.1 hS hown (hu _ q484) (fun _ h9 => h9) dX7_rule_15 ?_
    refine lv_iload_n hx hb dX7_rule_18 rfl (lv_at hl 1 rfl) ?_
    obtain ⟨hi8, hf⟩ := ck_el hf
    refine va_ti (v := .int (tabM (Int32.toNatClampNeg x1))) hx hb hZ.2.2.1.2 hS hi8 rfl dX7_rule_19 ?_
    obtain ⟨r9, hg10, hf⟩ := b1_el hf
    refine cc_S0 (st1 := [.int r9]) [.int x2, .int (tabL (Int32.toNatClampNeg x1)), .int (tabM (Int32.toNatClampNeg x1))] hx hb hml hown hu (tX7_within l D cs x2 (tabL (Int32.toNatClampNeg x1)) (tabM (Int32.toNatClampNeg x1)) r9 hg10) q331 q54 q329 q330 pdX7_within ⟨rfl, rfl, Nat.le_of_ble_eq_true rfl, Nat.le_of_ble_eq_true rfl⟩ hK hZ hP hD hS hA rfl hl.1 rfl (Nat.le_of_ble_eq_true rfl) dX7_rule_20 rfl (fun H locs hP hD hS => ?_)
    refine lv_if_ne (tgt := 33) hx hb dX7_rule_23 (by decide) (fun hc11 => ?_) (fun hc11 => ?_)
    · have hf := in_el hc11 hf
      refine lv_aload_n hx hb dX7_rule_33 rfl (lv_at hl 0 rfl) ?_
      refine va_get (D := D) (ci := 7) (v := .ref (g 0)) (C := RX7) (T := TX7) (N := 8) hx hb hu inX7 hown hK.1 hP 0 rfl rfl 0 (by decide) (hu _ q300) (fun _ h9 => h9) rfl dX7_rule_34 ?_
      refine va_get (D := D) (ci := 2) (v := .ref (a 0)) (C := RX2) (T := TX2) (N := 4) hx hb hu inX2 hown hK.1 hP 2 rfl rfl 3 (by decide) (hu _ q204) (fun _ h9 => h9) rfl dX7_rule_37 ?_
      refine va_get (D := D) (ci := 4) (v := .ref (a 4)) (C := RX4) (T := TX4) (N := 10) hx hb hu inX4 hown hK.1 hP 3 rfl rfl 3 (by decide) (hu _ q162) (fun _ h9 => h9) rfl dX7_rule_40 ?_
      refine lv_iload_n hx hb dX7_rule_43 rfl (lv_at hl 1 rfl) ?_
      obtain ⟨hi12, hf⟩ := ck_el hf
      refine va_iald hx hb hK.1 hP 4 0 rfl rfl hi12 dX7_rule_44 ?_
      obtain ⟨v13, hv13, hf⟩ := lt_el hf
      refine lv_tope hv13 ?_
      refine lv_istore_n (lv' := [(3, .int v13), (0, .ref (x 0)), (1, .int x1), (2, .int x2)]) hx hb dX7_rule_45 rfl hl (by decide) rfl (fun ls hl => ?_)
      refine lv_aload_n hx hb dX7_rule_46 rfl (lv_at hl 1 rfl) ?_
      refine va_get (D := D) (ci := 7) (v := .ref (g 0)) (C := RX7) (T := TX7) (N := 8) hx hb hu inX7 hown hK.1 hP 0 rfl rfl 0 (by decide) (hu _ q300) (fun _ h9 => h9) rfl dX7_rule_47 ?_
      refine va_get (D := D) (ci := 2) (v := .ref (a 0)) (C := RX2) (T := TX2) (N := 4) hx hb hu inX2 hown hK.1 hP 2 rfl rfl 3 (by decide) (hu _ q204) (fun _ h9 => h9) rfl dX7_rule_50 ?_
      refine lv_iload_n hx hb dX7_rule_53 rfl (lv_at hl 2 rfl) ?_
      refine lv_iload_n hx hb dX7_rule_54 rfl (lv_at hl 3 rfl) ?_
      obtain ⟨Se_14, hg15, hf⟩ := b1_el hf
      refine cc_V (w' := ((kX7 cs x (.ref (g 0)) (.ref (g2 0)) (.ref (g3 0)) (.ref (h 0)) (.ref (t 0)) (.ref (sa 0)) Ma) ++ (kX2 cs g (.ref (b 0)) (.ref (c 0)) (.ref (d 0)) (.ref (a 0)) ) ++ (kX4 cs a (.ref (b 0)) (.ref (c 0)) (.ref (d 0)) Se_14))) (wr := ((kX7 cs x (.ref (g 0)) (.ref (g2 0)) (.ref (g3 0)) (.ref (h 0)) (.ref (t 0)) (.ref (sa 0)) Ma) ++ (kX2 cs g (.ref (b 0)) (.ref (c 0)) (.ref (d 0)) (.ref (a 0)) ))) (st1 := []) [.int x1, .int x2] hx hb hml hown hu (tX4_giveRule l D cs a (.ref (b 0)) (.ref (c 0)) (.ref (d 0)) x1 x2 Se Se_14 hg15) q489 q58 q486 q487 q488 pdX4_giveRule ⟨rfl, rfl, Nat.le_of_ble_eq_true rfl, Nat.le_of_ble_eq_true rfl⟩ hK hZ hP hD hS hA [3, 4, 5, 6] [0, 1, 2] [0, 1, 2, 3, 4, 5, 6] rfl rfl rfl rfl rfl rfl rfl rfl rfl rfl hl.1 rfl (Nat.le_of_ble_eq_true rfl) dX7_rule_55 rfl (fun H locs hP hD hS => ?_)
      refine lv_iload_n hx hb dX7_rule_58 rfl (lv_at hl 0 rfl) ?_
      have he := Option.some.inj hf
      obtain ⟨e0, ht0⟩ := Prod.mk.inj he
      obtain ⟨e1, e2⟩ := Prod.mk.inj ht0
      exact hri _ _ _ rfl (congrArg (fun z => some (Value.int z)) e0.symm) dX7_rule_59 _ _ _ (by rw [e1, e2]) hP hD hS
    · have hf := ip_el hc11 hf
      exact h26 Ma Se _ _ _ hP hD hS (lv_sub hl [0] rfl) hf

def fX7_sit_60 (Fo : ST) (y1 : Int32) (Ma : ST) (Se : ST) : Option (Int32 × ST × ST) :=
  dc_lt (Se 0 6) (fun v3 => dc_lt (sti Se 0 6 y1) (fun Se_4 => dc_lt (sti Se_4 0 7 0) (fun Se_5 => some (v3, Ma, Se_5))))
def fX7_sit_53 (Fo : ST) (Ma : ST) (Se : ST) : Option (Int32 × ST × ST) :=
  dc_b2 (fX7_finding (-1000000005) Ma) (fun r9 Ma_10 => some (r9, Ma_10, Se))
def fX7_sit_20 (Fo : ST) (y1 : Int32) (Ma : ST) (Se : ST) : Option (Int32 × ST × ST) :=
  (if y1 = (-1) then fX7_sit_60 Fo y1 Ma Se else dc_b1 (fX1_isAlive y1 Fo) (fun r6 => (if r6 = 0 then fX7_sit_53 Fo Ma Se else dc_b1 (fX4_placeOf y1 Se) (fun r12 => (if r12 < 0 then fX7_sit_60 Fo y1 Ma Se else fX7_sit_53 Fo Ma Se)))))
def fX7_sit (x1 : Int32) (Ma : ST) (Fo : ST) (Se : ST) : Option (Int32 × ST × ST) :=
  (if x1 = (-1) then fX7_sit_20 Fo x1 Ma Se else dc_b1 (fX7_isOne x1 Ma Fo) (fun r15 => (if r15 = 0 then dc_b2 (fX7_finding (-1000000001) Ma) (fun r18 Ma_19 => some (r18, Ma_19, Se)) else fX7_sit_20 Fo x1 Ma Se)))
abbrev rmX7_sit : Room := { frames := 2, cells := 0, slots := 0, locals := 43 }
set_option maxRecDepth 100000 in
set_option maxHeartbeats 4000000 in
theorem tX7_sit (l : Launch) (D : va_G) (cs : Nat → ClassId) (x : Nat → Nat) (g : Nat → Nat) (g2 : Nat → Nat) (g3 : Nat → Nat) (h : Nat → Nat) (t : Nat → Nat) (sa : Nat → Nat) (b : Nat → Nat) (c : Nat → Nat) (d : Nat → Nat) (a : Nat → Nat) (x1 : Int32) (Ma : ST) (Fo : ST) (Se : ST) (r0 : Int32) (Maz : ST) (Sez : ST) (hf : fX7_sit x1 Ma Fo Se = some (r0, Maz, Sez)) : CG l yX7_sit (wsm yX7_sit cX7_sit 3 (some .int)) rmX7_sit D cs [.ref (x 0), .int x1] (some (.int r0)) ((kX7 cs x (.ref (g 0)) (.ref (g2 0)) (.ref (g3 0)) (.ref (h 0)) (.ref (t 0)) (.ref (sa 0)) Ma) ++ (kX2 cs g (.ref (b 0)) (.ref (c 0)) (.ref (d 0)) (.ref (a 0)) ) ++ (kX1 cs b  Fo) ++ (kX4 cs a (.ref (b 0)) (.ref (c 0)) (.ref (d 0)) Se)) ((kX7 cs x (.ref (g 0)) (.ref (g2 0)) (.ref (g3 0)) (.ref (h 0)) (.ref (t 0)) (.ref (sa 0)) Maz) ++ (kX2 cs g (.ref (b 0)) (.ref (c 0)) (.ref (d 0)) (.ref (a 0)) ) ++ (kX1 cs b  Fo) ++ (kX4 cs a (.ref (b 0)) (.ref (c 0)) (.ref (d 0)) Sez)) := by
  refine CG.intro (by decide) (Nat.le_of_ble_eq_true rfl) ?_
  intro p e s m below meth c A Q hx hb hml hown hu hK hZ hP0 hD0 hS0 hA hri hrz hrl hrv hra ls0 hl0
  have h60 : ∀ (y1 : Int32) (Ma : ST) (Se : ST) (H : Heap) (locs : List Loc) (ls : Array Slot), va_P D vwCl ((kX7 cs x (.ref (g 0)) (.ref (g2 0)) (.ref (g3 0)) (.ref (h 0)) (.ref (t 0)) (.ref (sa 0)) Ma) ++ (kX2 cs g (.ref (b 0)) (.ref (c 0)) (.ref (d 0)) (.ref (a 0)) ) ++ (kX1 cs b  Fo) ++ (kX4 cs a (.ref (b 0)) (.ref (c 0)) (.ref (d 0)) Se)) H → va_D A ((kX7 cs x (.ref (g 0)) (.ref (g2 0)) (.ref (g3 0)) (.ref (h 0)) (.ref (t 0)) (.ref (sa 0)) Ma) ++ (kX2 cs g (.ref (b 0)) (.ref (c 0)) (.ref (d 0)) (.ref (a 0)) ) ++ (kX1 cs b  Fo) ++ (kX4 cs a (.ref (b 0)) (.ref (c 0)) (.ref (d 0)) Se)) → va_S A s.heap H locs → lv_has ls 3 [(0, .ref (x 0)), (1, .int y1)] → fX7_sit_60 Fo y1 Ma Se = some (r0, Maz, Sez) → W p l e rmX7_sit s m [.ref (x 0), .int x1].toArray below meth c H locs 0 0 Q (F0 m 60 ls []) := by
    intro y1 Ma Se H locs ls hP hD hS hl hf
    unfold fX7_sit_60 at hf
    refine lv_aload_n hx hb dX7_sit_60 rfl (lv_at hl 0 rfl) ?_
    refine va_get (D := D) (ci := 7) (v := .ref (g 0)) (C := RX7) (T := TX7) (N := 8) hx hb hu inX7 hown hK.1 hP 0 rfl rfl 0 (by decide) (hu _ q300) (fun _ h9 => h9) rfl dX7_sit_61 ?_
    refine va_get (D := D) (ci := 2) (v := .ref (a 0)) (C := RX2) (T := TX2) (N := 4) hx hb hu inX2 hown hK.1 hP 2 rfl rfl 3 (by decide) (hu _ q204) (fun _ h9 => h9) rfl dX7_sit_64 ?_
    refine va_get (D := D) (ci := 4) (v := .int (Se 0 6)) (C := RX4) (T := TX4) (N := 10) hx hb hu inX4 hown hK.1 hP 10 rfl rfl 6 (by decide) (hu _ q168) (fun _ h9 => h9) rfl dX7_sit_67 ?_
    obtain ⟨v3, hv3, hf⟩ := lt_el hf
    refine lv_tope hv3 ?_
    refine lv_istore_n (lv' := [(2, .int v3), (0, .ref (x 0)), (1, .int y1)]) hx hb dX7_sit_70 rfl hl (by decide) rfl (fun ls hl => ?_)
    refine lv_aload_n hx hb dX7_sit_71 rfl (lv_at hl 1 rfl) ?_
    refine va_get (D := D) (ci := 7) (v := .ref (g 0)) (C := RX7) (T := TX7) (N := 8) hx hb hu inX7 hown hK.1 hP 0 rfl rfl 0 (by decide) (hu _ q300) (fun _ h9 => h9) rfl dX7_sit_72 ?_
    refine va_get (D := D) (ci := 2) (v := .ref (a 0)) (C := RX2) (T := TX2) (N := 4) hx hb hu inX2 hown hK.1 hP 2 rfl rfl 3 (by decide) (hu _ q204) (fun _ h9 => h9) rfl dX7_sit_75 ?_
    refine lv_iload_n hx hb dX7_sit_78 rfl (lv_at hl 2 rfl) ?_
    obtain ⟨Se_4, hSe_4, hf⟩ := lt_el hf
    refine va_put (D := D) (ci := 4) (v := .int y1) (ty := .int) (C := RX4) (T := TX4) (N := 10) hx hb hu inX4 tyX4 tyX4_ok nmX4 hown hK.1 hP hD hS 10 rfl rfl 6 (by decide) (hu _ q168) (fun _ h9 => h9) rfl (by decide +kernel) rfl rfl (Nat.le_of_ble_eq_true rfl) dX7_sit_79 (fun H locs hP hD hS => ?_)
    have hP : va_P D vwCl ((kX7 cs x (.ref (g 0)) (.ref (g2 0)) (.ref (g3 0)) (.ref (h 0)) (.ref (t 0)) (.ref (sa 0)) Ma) ++ (kX2 cs g (.ref (b 0)) (.ref (c 0)) (.ref (d 0)) (.ref (a 0)) ) ++ (kX1 cs b  Fo) ++ (kX4 cs a (.ref (b 0)) (.ref (c 0)) (.ref (d 0)) Se_4)) H := by rw [hSe_4]; exact hP
    have hD : va_D A ((kX7 cs x (.ref (g 0)) (.ref (g2 0)) (.ref (g3 0)) (.ref (h 0)) (.ref (t 0)) (.ref (sa 0)) Ma) ++ (kX2 cs g (.ref (b 0)) (.ref (c 0)) (.ref (d 0)) (.ref (a 0)) ) ++ (kX1 cs b  Fo) ++ (kX4 cs a (.ref (b 0)) (.ref (c 0)) (.ref (d 0)) Se_4)) := by rw [hSe_4]; exact hD
    refine lv_aload_n hx hb dX7_sit_82 rfl (lv_at hl 1 rfl) ?_
    refine va_get (D := D) (ci := 7) (v := .ref (g 0)) (C := RX7) (T := TX7) (N := 8) hx hb hu inX7 hown hK.1 hP 0 rfl rfl 0 (by decide) (hu _ q300) (fun _ h9 => h9) rfl dX7_sit_83 ?_
    refine va_get (D := D) (ci := 2) (v := .ref (a 0)) (C := RX2) (T := TX2) (N := 4) hx hb hu inX2 hown hK.1 hP 2 rfl rfl 3 (by decide) (hu _ q204) (fun _ h9 => h9) rfl dX7_sit_86 ?_
    refine lv_iconst (v := 0) hx hb dX7_sit_89 (by decide) ?_
    obtain ⟨Se_5, hSe_5, hf⟩ := lt_el hf
    refine va_put (D := D) (ci := 4) (v := .int 0) (ty := .int) (C := RX4) (T := TX4) (N := 10) hx hb hu inX4 tyX4 tyX4_ok nmX4 hown hK.1 hP hD hS 10 rfl rfl 7 (by decide) (hu _ q170) (fun _ h9 => h9) rfl (by decide +kernel) rfl rfl (Nat.le_of_ble_eq_true rfl) dX7_sit_90 (fun H locs hP hD hS => ?_)
    have hP : va_P D vwCl ((kX7 cs x (.ref (g 0)) (.ref (g2 0)) (.ref (g3 0)) (.ref (h 0)) (.ref (t 0)) (.ref (sa 0)) Ma) ++ (kX2 cs g (.ref (b 0)) (.ref (c 0)) (.ref (d 0)) (.ref (a 0)) ) ++ (kX1 cs b  Fo) ++ (kX4 cs a (.ref (b 0)) (.ref (c 0)) (.ref (d 0)) Se_5)) H := by rw [hSe_5]; exact hP
    have hD : va_D A ((kX7 cs x (.ref (g 0)) (.ref (g2 0)) (.ref (g3 0)) (.ref (h 0)) (.ref (t 0)) (.ref (sa 0)) Ma) ++ (kX2 cs g (.ref (b 0)) (.ref (c 0)) (.ref (d 0)) (.ref (a 0)) ) ++ (kX1 cs b  Fo) ++ (kX4 cs a (.ref (b 0)) (.ref (c 0)) (.ref (d 0)) Se_5)) := by rw [hSe_5]; exact hD
    refine lv_iload_n hx hb dX7_sit_93 rfl (lv_at hl 0 rfl) ?_
    have he := Option.some.inj hf
    obtain ⟨e0, ht0⟩ := Prod.mk.inj he
    obtain ⟨e1, e2⟩ := Prod.mk.inj ht0
    exact hri _ _ _ rfl (congrArg (fun z => some (Value.int z)) e0.symm) dX7_sit_94 _ _ _ (by rw [e1, e2]) hP hD hS
  have h53 : ∀ (Ma : ST) (Se : ST) (H : Heap) (locs : List Loc) (ls : Array Slot), va_P D vwCl ((kX7 cs x (.ref (g 0)) (.ref (g2 0)) (.ref (g3 0)) (.ref (h 0)) (.ref (t 0)) (.ref (sa 0)) Ma) ++ (kX2 cs g (.ref (b 0)) (.ref (c 0)) (.ref (d 0)) (.ref (a 0)) ) ++ (kX1 cs b  Fo) ++ (kX4 cs a (.ref (b 0)) (.ref (c 0)) (.ref (d 0)) Se)) H → va_D A ((kX7 cs x (.ref (g 0)) (.ref (g2 0)) (.ref (g3 0)) (.ref (h 0)) (.ref (t 0)) (.ref (sa 0)) Ma) ++ (kX2 cs g (.ref (b 0)) (.ref (c 0)) (.ref (d 0)) (.ref (a 0)) ) ++ (kX1 cs b  Fo) ++ (kX4 cs a (.ref (b 0)) (.ref (c 0)) (.ref (d 0)) Se)) → va_S A s.heap H locs → lv_has ls 3 [(0, .ref (x 0))] → fX7_sit_53 Fo Ma Se = some (r0, Maz, Sez) → W p l e rmX7_sit s m [.ref (x 0), .int x1].toArray below meth c H locs 0 0 Q (F0 m 53 ls []) := by
    intro Ma Se H locs ls hP hD hS hl hf
    unfold fX7_sit_53 at hf
    refine lv_aload_n hx hb dX7_sit_53 rfl (lv_at hl 0 rfl) ?_
    refine lv_ldc (v := (-1000000005)) hx hb hown (hu _ q500) dX7_sit_54 ?_
    obtain ⟨r9, Ma_10, hg11, hf⟩ := b2_el hf
    refine cc_V (w' := ((kX7 cs x (.ref (g 0)) (.ref (g2 0)) (.ref (g3 0)) (.ref (h 0)) (.ref (t 0)) (.ref (sa 0)) Ma_10) ++ (kX2 cs g (.ref (b 0)) (.ref (c 0)) (.ref (d 0)) (.ref (a 0)) ) ++ (kX1 cs b  Fo) ++ (kX4 cs a (.ref (b 0)) (.ref (c 0)) (.ref (d 0)) Se))) (wr := ((kX2 cs g (.ref (b 0)) (.ref (c 0)) (.ref (d 0)) (.ref (a 0)) ) ++ (kX1 cs b  Fo) ++ (kX4 cs a (.ref (b 0)) (.ref (c 0)) (.ref (d 0)) Se))) (st1 := [.int r9]) [.int (-1000000005)] hx hb hml hown hu (tX7_finding l D cs x g g2 g3 h t sa (-1000000005) Ma r9 Ma_10 hg11) q339 q54 q336 q338 q0 pdX7_finding ⟨rfl, rfl, Nat.le_of_ble_eq_true rfl, Nat.le_of_ble_eq_true rfl⟩ hK hZ hP hD hS hA [0, 1] [2, 3, 4, 5, 6, 7, 8, 9, 10, 11, 12, 13] [12, 13, 0, 1, 2, 3, 4, 5, 6, 7, 8, 9, 10, 11] rfl rfl rfl rfl rfl rfl rfl rfl rfl rfl hl.1 rfl (Nat.le_of_ble_eq_true rfl) dX7_sit_56 rfl (fun H locs hP hD hS => ?_)
    have he := Option.some.inj hf
    obtain ⟨e0, ht0⟩ := Prod.mk.inj he
    obtain ⟨e1, e2⟩ := Prod.mk.inj ht0
    exact hri _ _ _ rfl (congrArg (fun z => some (Value.int z)) e0.symm) dX7_sit_59 _ _ _ (by rw [e1, e2]) hP hD hS
  have h20 : ∀ (y1 : Int32) (Ma : ST) (Se : ST) (H : Heap) (locs : List Loc) (ls : Array Slot), va_P D vwCl ((kX7 cs x (.ref (g 0)) (.ref (g2 0)) (.ref (g3 0)) (.ref (h 0)) (.ref (t 0)) (.ref (sa 0)) Ma) ++ (kX2 cs g (.ref (b 0)) (.ref (c 0)) (.ref (d 0)) (.ref (a 0)) ) ++ (kX1 cs b  Fo) ++ (kX4 cs a (.ref (b 0)) (.ref (c 0)) (.ref (d 0)) Se)) H → va_D A ((kX7 cs x (.ref (g 0)) (.ref (g2 0)) (.ref (g3 0)) (.ref (h 0)) (.ref (t 0)) (.ref (sa 0)) Ma) ++ (kX2 cs g (.ref (b 0)) (.ref (c 0)) (.ref (d 0)) (.ref (a 0)) ) ++ (kX1 cs b  Fo) ++ (kX4 cs a (.ref (b 0)) (.ref (c 0)) (.ref (d 0)) Se)) → va_S A s.heap H locs → lv_has ls 3 [(0, .ref (x 0)), (1, .int y1)] → fX7_sit_20 Fo y1 Ma Se = some (r0, Maz, Sez) → W p l e rmX7_sit s m [.ref (x 0), .int x1].toArray below meth c H locs 0 0 Q (F0 m 20 ls []) := by
    intro y1 Ma Se H locs ls hP hD hS hl hf
    unfold fX7_sit_20 at hf
    refine lv_iload_n hx hb dX7_sit_20 rfl (lv_at hl 1 rfl) ?_
    refine lv_iconst (v := (-1)) hx hb dX7_sit_21 (by decide) ?_
    refine lv_icmp_eq (tgt := 60) hx hb dX7_sit_22 (by decide) (fun hc2 => ?_) (fun hc2 => ?_)
    · have hf := ip_el hc2 hf
      exact h60 y1 Ma Se _ _ _ hP hD hS (lv_sub hl [0, 1] rfl) hf
    · have hf := in_el hc2 hf
      refine lv_aload_n hx hb dX7_sit_25 rfl (lv_at hl 0 rfl) ?_
      refine va_get (D := D) (ci := 7) (v := .ref (g 0)) (C := RX7) (T := TX7) (N := 8) hx hb hu inX7 hown hK.1 hP 0 rfl rfl 0 (by decide) (hu _ q300) (fun _ h9 => h9) rfl dX7_sit_26 ?_
      refine va_get (D := D) (ci := 2) (v := .ref (b 0)) (C := RX2) (T := TX2) (N := 4) hx hb hu inX2 hown hK.1 hP 2 rfl rfl 0 (by decide) (hu _ q196) (fun _ h9 => h9) rfl dX7_sit_29 ?_
      refine lv_iload_n hx hb dX7_sit_32 rfl (lv_at hl 1 rfl) ?_
      obtain ⟨r6, hg7, hf⟩ := b1_el hf
      refine cc_V (w' := ((kX7 cs x (.ref (g 0)) (.ref (g2 0)) (.ref (g3 0)) (.ref (h 0)) (.ref (t 0)) (.ref (sa 0)) Ma) ++ (kX2 cs g (.ref (b 0)) (.ref (c 0)) (.ref (d 0)) (.ref (a 0)) ) ++ (kX1 cs b  Fo) ++ (kX4 cs a (.ref (b 0)) (.ref (c 0)) (.ref (d 0)) Se))) (wr := ((kX7 cs x (.ref (g 0)) (.ref (g2 0)) (.ref (g3 0)) (.ref (h 0)) (.ref (t 0)) (.ref (sa 0)) Ma) ++ (kX2 cs g (.ref (b 0)) (.ref (c 0)) (.ref (d 0)) (.ref (a 0)) ) ++ (kX4 cs a (.ref (b 0)) (.ref (c 0)) (.ref (d 0)) Se))) (st1 := [.int r6]) [.int y1] hx hb hml hown hu (tX1_isAlive l D cs b y1 Fo r6 hg7) q356 q56 q353 q354 q355 pdX1_isAlive ⟨rfl, rfl, Nat.le_of_ble_eq_true rfl, Nat.le_of_ble_eq_true rfl⟩ hK hZ hP hD hS hA [3, 4, 5, 6, 7, 8, 9] [0, 1, 2, 10, 11, 12, 13] [0, 1, 2, 7, 8, 9, 10, 11, 12, 13, 3, 4, 5, 6] rfl rfl rfl rfl rfl rfl rfl rfl rfl rfl hl.1 rfl (Nat.le_of_ble_eq_true rfl) dX7_sit_33 rfl (fun H locs hP hD hS => ?_)
      refine lv_if_eq (tgt := 53) hx hb dX7_sit_36 (by decide) (fun hc8 => ?_) (fun hc8 => ?_)
      · have hf := ip_el hc8 hf
        exact h53 Ma Se _ _ _ hP hD hS (lv_sub hl [0] rfl) hf
      · have hf := in_el hc8 hf
        refine lv_aload_n hx hb dX7_sit_39 rfl (lv_at hl 0 rfl) ?_
        refine va_get (D := D) (ci := 7) (v := .ref (g 0)) (C := RX7) (T := TX7) (N := 8) hx hb hu inX7 hown hK.1 hP 0 rfl rfl 0 (by decide) (hu _ q300) (fun _ h9 => h9) rfl dX7_sit_40 ?_
        refine va_get (D := D) (ci := 2) (v := .ref (a 0)) (C := RX2) (T := TX2) (N := 4) hx hb hu inX2 hown hK.1 hP 2 rfl rfl 3 (by decide) (hu _ q204) (fun _ h9 => h9) rfl dX7_sit_43 ?_
        refine lv_iload_n hx hb dX7_sit_46 rfl (lv_at hl 1 rfl) ?_
        obtain ⟨r12, hg13, hf⟩ := b1_el hf
        refine cc_V (w' := ((kX7 cs x (.ref (g 0)) (.ref (g2 0)) (.ref (g3 0)) (.ref (h 0)) (.ref (t 0)) (.ref (sa 0)) Ma) ++ (kX2 cs g (.ref (b 0)) (.ref (c 0)) (.ref (d 0)) (.ref (a 0)) ) ++ (kX1 cs b  Fo) ++ (kX4 cs a (.ref (b 0)) (.ref (c 0)) (.ref (d 0)) Se))) (wr := ((kX7 cs x (.ref (g 0)) (.ref (g2 0)) (.ref (g3 0)) (.ref (h 0)) (.ref (t 0)) (.ref (sa 0)) Ma) ++ (kX2 cs g (.ref (b 0)) (.ref (c 0)) (.ref (d 0)) (.ref (a 0)) ) ++ (kX1 cs b  Fo))) (st1 := [.int r12]) [.int y1] hx hb hml hown hu (tX4_placeOf l D cs a (.ref (b 0)) (.ref (c 0)) (.ref (d 0)) y1 Se r12 hg13) q367 q58 q364 q365 q366 pdX4_placeOf ⟨rfl, rfl, Nat.le_of_ble_eq_true rfl, Nat.le_of_ble_eq_true rfl⟩ hK hZ hP hD hS hA [10, 11, 12, 13] [0, 1, 2, 3, 4, 5, 6, 7, 8, 9] [0, 1, 2, 3, 4, 5, 6, 7, 8, 9, 10, 11, 12, 13] rfl rfl rfl rfl rfl rfl rfl rfl rfl rfl hl.1 rfl (Nat.le_of_ble_eq_true rfl) dX7_sit_47 rfl (fun H locs hP hD hS => ?_)
        refine lv_if_lt (tgt := 60) hx hb dX7_sit_50 (by decide) (fun hc14 => ?_) (fun hc14 => ?_)
        · have hf := ip_el hc14 hf
          exact h60 y1 Ma Se _ _ _ hP hD hS (lv_sub hl [0, 1] rfl) hf
        · have hf := in_el hc14 hf
          exact h53 Ma Se _ _ _ hP hD hS (lv_sub hl [0] rfl) hf
  have hl : lv_has ls0 3 [(0, .ref (x 0)), (1, .int x1)] := hl0
  have hP := hP0
  have hD := hD0
  have hS := hS0
  unfold fX7_sit at hf
  refine lv_iload_n hx hb dX7_sit_0 rfl (lv_at hl 1 rfl) ?_
  refine lv_iconst (v := (-1)) hx hb dX7_sit_1 (by decide) ?_
  refine lv_icmp_eq (tgt := 20) hx hb dX7_sit_2 (by decide) (fun hc1 => ?_) (fun hc1 => ?_)
  · have hf := ip_el hc1 hf
    exact h20 x1 Ma Se _ _ _ hP hD hS (lv_sub hl [0, 1] rfl) hf
  · have hf := in_el hc1 hf
    refine lv_aload_n hx hb dX7_sit_5 rfl (lv_at hl 0 rfl) ?_
    refine lv_iload_n hx hb dX7_sit_6 rfl (lv_at hl 1 rfl) ?_
    obtain ⟨r15, hg16, hf⟩ := b1_el hf
    refine cc_V (w' := ((kX7 cs x (.ref (g 0)) (.ref (g2 0)) (.ref (g3 0)) (.ref (h 0)) (.ref (t 0)) (.ref (sa 0)) Ma) ++ (kX2 cs g (.ref (b 0)) (.ref (c 0)) (.ref (d 0)) (.ref (a 0)) ) ++ (kX1 cs b  Fo) ++ (kX4 cs a (.ref (b 0)) (.ref (c 0)) (.ref (d 0)) Se))) (wr := (kX4 cs a (.ref (b 0)) (.ref (c 0)) (.ref (d 0)) Se)) (st1 := [.int r15]) [.int x1] hx hb hml hown hu (tX7_isOne l D cs x g g2 g3 h t sa b c d a x1 Ma Fo r15 hg16) q352 q54 q349 q351 q1 pdX7_isOne ⟨rfl, rfl, Nat.le_of_ble_eq_true rfl, Nat.le_of_ble_eq_true rfl⟩ hK hZ hP hD hS hA [0, 1, 2, 3, 4, 5, 6, 7, 8, 9] [10, 11, 12, 13] [4, 5, 6, 7, 8, 9, 10, 11, 12, 13, 0, 1, 2, 3] rfl rfl rfl rfl rfl rfl rfl rfl rfl rfl hl.1 rfl (Nat.le_of_ble_eq_true rfl) dX7_sit_7 rfl (fun H locs hP hD hS => ?_)
    refine lv_if_ne (tgt := 20) hx hb dX7_sit_10 (by decide) (fun hc17 => ?_) (fun hc17 => ?_)
    · have hf := in_el hc17 hf
      exact h20 x1 Ma Se _ _ _ hP hD hS (lv_sub hl [0, 1] rfl) hf
    · have hf := ip_el hc17 hf
      refine lv_aload_n hx hb dX7_sit_13 rfl (lv_at hl 0 rfl) ?_
      refine lv_ldc (v := (-1000000001)) hx hb hown (hu _ q335) dX7_sit_14 ?_
      obtain ⟨r18, Ma_19, hg20, hf⟩ := b2_el hf
      refine cc_V (w' := ((kX7 cs x (.ref (g 0)) (.ref (g2 0)) (.ref (g3 0)) (.ref (h 0)) (.ref (t 0)) (.ref (sa 0)) Ma_19) ++ (kX2 cs g (.ref (b 0)) (.ref (c 0)) (.ref (d 0)) (.ref (a 0)) ) ++ (kX1 cs b  Fo) ++ (kX4 cs a (.ref (b 0)) (.ref (c 0)) (.ref (d 0)) Se))) (wr := ((kX2 cs g (.ref (b 0)) (.ref (c 0)) (.ref (d 0)) (.ref (a 0)) ) ++ (kX1 cs b  Fo) ++ (kX4 cs a (.ref (b 0)) (.ref (c 0)) (.ref (d 0)) Se))) (st1 := [.int r18]) [.int (-1000000001)] hx hb hml hown hu (tX7_finding l D cs x g g2 g3 h t sa (-1000000001) Ma r18 Ma_19 hg20) q339 q54 q336 q338 q0 pdX7_finding ⟨rfl, rfl, Nat.le_of_ble_eq_true rfl, Nat.le_of_ble_eq_true rfl⟩ hK hZ hP hD hS hA [0, 1] [2, 3, 4, 5, 6, 7, 8, 9, 10, 11, 12, 13] [12, 13, 0, 1, 2, 3, 4, 5, 6, 7, 8, 9, 10, 11] rfl rfl rfl rfl rfl rfl rfl rfl rfl rfl hl.1 rfl (Nat.le_of_ble_eq_true rfl) dX7_sit_16 rfl (fun H locs hP hD hS => ?_)
      have he := Option.some.inj hf
      obtain ⟨e0, ht0⟩ := Prod.mk.inj he
      obtain ⟨e1, e2⟩ := Prod.mk.inj ht0
      exact hri _ _ _ rfl (congrArg (fun z => some (Value.int z)) e0.symm) dX7_sit_19 _ _ _ (by rw [e1, e2]) hP hD hS

def fX7_line_21 (Fo : ST) (Ma : ST) (Se : ST) : Option (Int32 × ST × ST) :=
  dc_b2 (fX7_finding (-1000000001) Ma) (fun r4 Ma_5 => some (r4, Ma_5, Se))
def fX7_line_48 (Fo : ST) (y1 : Int32) (y2 : Int32) (Ma : ST) (Se : ST) : Option (Int32 × ST × ST) :=
  dc_ck y1 4 (dc_lt (Se 5 (Int32.toNatClampNeg y1)) (fun v10 => dc_ck y1 4 (dc_lt (sti Se 5 (Int32.toNatClampNeg y1) y2) (fun Se_12 => some (v10, Ma, Se_12)))))
def fX7_line_28 (Fo : ST) (y1 : Int32) (y2 : Int32) (Ma : ST) (Se : ST) : Option (Int32 × ST × ST) :=
  (if y2 = (-1) then fX7_line_48 Fo y1 y2 Ma Se else dc_b1 (fX7_mayStandInLine y2 Ma Fo Se) (fun r13 => (if r13 = 0 then dc_b2 (fX7_finding (-1000000005) Ma) (fun r16 Ma_17 => some (r16, Ma_17, Se)) else fX7_line_48 Fo y1 y2 Ma Se)))
def fX7_line (x1 : Int32) (x2 : Int32) (Ma : ST) (Fo : ST) (Se : ST) : Option (Int32 × ST × ST) :=
  dc_b1 (fX7_isPlace x1 Ma Se) (fun r1 => (if r1 = 0 then fX7_line_21 Fo Ma Se else (if x2 = (-1) then fX7_line_28 Fo x1 x2 Ma Se else dc_b1 (fX7_isOne x2 Ma Fo) (fun r19 => (if r19 = 0 then fX7_line_21 Fo Ma Se else fX7_line_28 Fo x1 x2 Ma Se)))))
abbrev rmX7_line : Room := { frames := 3, cells := 0, slots := 0, locals := 64 }
set_option maxRecDepth 100000 in
set_option maxHeartbeats 4000000 in
theorem tX7_line (l : Launch) (D : va_G) (cs : Nat → ClassId) (x : Nat → Nat) (g : Nat → Nat) (g2 : Nat → Nat) (g3 : Nat → Nat) (h : Nat → Nat) (t : Nat → Nat) (sa : Nat → Nat) (b : Nat → Nat) (c : Nat → Nat) (d : Nat → Nat) (a : Nat → Nat) (x1 : Int32) (x2 : Int32) (Ma : ST) (Fo : ST) (Se : ST) (r0 : Int32) (Maz : ST) (Sez : ST) (hf : fX7_line x1 x2 Ma Fo Se = some (r0, Maz, Sez)) : CG l yX7_line (wsm yX7_line cX7_line 4 (some .int)) rmX7_line D cs [.ref (x 0), .int x1, .int x2] (some (.int r0)) ((kX7 cs x (.ref (g 0)) (.ref (g2 0)) (.ref (g3 0)) (.ref (h 0)) (.ref (t 0)) (.ref (sa 0)) Ma) ++ (kX2 cs g (.ref (b 0)) (.ref (c 0)) (.ref (d 0)) (.ref (a 0)) ) ++ (kX1 cs b  Fo) ++ (kX4 cs a (.ref (b 0)) (.ref (c 0)) (.ref (d 0)) Se)) ((kX7 cs x (.ref (g 0)) (.ref (g2 0)) (.ref (g3 0)) (.ref (h 0)) (.ref (t 0)) (.ref (sa 0)) Maz) ++ (kX2 cs g (.ref (b 0)) (.ref (c 0)) (.ref (d 0)) (.ref (a 0)) ) ++ (kX1 cs b  Fo) ++ (kX4 cs a (.ref (b 0)) (.ref (c 0)) (.ref (d 0)) Sez)) := by
  refine CG.intro (by decide) (Nat.le_of_ble_eq_true rfl) ?_
  intro p e s m below meth c A Q hx hb hml hown hu hK hZ hP0 hD0 hS0 hA hri hrz hrl hrv hra ls0 hl0
  have h21 : ∀ (Ma : ST) (Se : ST) (H : Heap) (locs : List Loc) (ls : Array Slot), va_P D vwCl ((kX7 cs x (.ref (g 0)) (.ref (g2 0)) (.ref (g3 0)) (.ref (h 0)) (.ref (t 0)) (.ref (sa 0)) Ma) ++ (kX2 cs g (.ref (b 0)) (.ref (c 0)) (.ref (d 0)) (.ref (a 0)) ) ++ (kX1 cs b  Fo) ++ (kX4 cs a (.ref (b 0)) (.ref (c 0)) (.ref (d 0)) Se)) H → va_D A ((kX7 cs x (.ref (g 0)) (.ref (g2 0)) (.ref (g3 0)) (.ref (h 0)) (.ref (t 0)) (.ref (sa 0)) Ma) ++ (kX2 cs g (.ref (b 0)) (.ref (c 0)) (.ref (d 0)) (.ref (a 0)) ) ++ (kX1 cs b  Fo) ++ (kX4 cs a (.ref (b 0)) (.ref (c 0)) (.ref (d 0)) Se)) → va_S A s.heap H locs → lv_has ls 4 [(0, .ref (x 0))] → fX7_line_21 Fo Ma Se = some (r0, Maz, Sez) → W p l e rmX7_line s m [.ref (x 0), .int x1, .int x2].toArray below meth c H locs 0 0 Q (F0 m 21 ls []) := by
    intro Ma Se H locs ls hP hD hS hl hf
    unfold fX7_line_21 at hf
    refine lv_aload_n hx hb dX7_line_21 rfl (lv_at hl 0 rfl) ?_
    refine lv_ldc (v := (-1000000001)) hx hb hown (hu _ q335) dX7_line_22 ?_
    obtain ⟨r4, Ma_5, hg6, hf⟩ := b2_el hf
    refine cc_V (w' := ((kX7 cs x (.ref (g 0)) (.ref (g2 0)) (.ref (g3 0)) (.ref (h 0)) (.ref (t 0)) (.ref (sa 0)) Ma_5) ++ (kX2 cs g (.ref (b 0)) (.ref (c 0)) (.ref (d 0)) (.ref (a 0)) ) ++ (kX1 cs b  Fo) ++ (kX4 cs a (.ref (b 0)) (.ref (c 0)) (.ref (d 0)) Se))) (wr := ((kX2 cs g (.ref (b 0)) (.ref (c 0)) (.ref (d 0)) (.ref (a 0)) ) ++ (kX1 cs b  Fo) ++ (kX4 cs a (.ref (b 0)) (.ref (c 0)) (.ref (d 0)) Se))) (st1 := [.int r4]) [.int (-1000000001)] hx hb hml hown hu (tX7_finding l D cs x g g2 g3 h t sa (-1000000001) Ma r4 Ma_5 hg6) q339 q54 q336 q338 q0 pdX7_finding ⟨rfl, rfl, Nat.le_of_ble_eq_true rfl, Nat.le_of_ble_eq_true rfl⟩ hK hZ hP hD hS hA [0, 1] [2, 3, 4, 5, 6, 7, 8, 9, 10, 11, 12, 13] [12, 13, 0, 1, 2, 3, 4, 5, 6, 7, 8, 9, 10, 11] rfl rfl rfl rfl rfl rfl rfl rfl rfl rfl hl.1 rfl (Nat.le_of_ble_eq_true rfl) dX7_line_24 rfl (fun H locs hP hD hS => ?_)
    have he := Option.some.inj hf
    obtain ⟨e0, ht0⟩ := Prod.mk.inj he
    obtain ⟨e1, e2⟩ := Prod.mk.inj ht0
    exact hri _ _ _ rfl (congrArg (fun z => some (Value.int z)) e0.symm) dX7_line_27 _ _ _ (by rw [e1, e2]) hP hD hS
  have h48 : ∀ (y1 : Int32) (y2 : Int32) (Ma : ST) (Se : ST) (H : Heap) (locs : List Loc) (ls : Array Slot), va_P D vwCl ((kX7 cs x (.ref (g 0)) (.ref (g2 0)) (.ref (g3 0)) (.ref (h 0)) (.ref (t 0)) (.ref (sa 0)) Ma) ++ (kX2 cs g (.ref (b 0)) (.ref (c 0)) (.ref (d 0)) (.ref (a 0)) ) ++ (kX1 cs b  Fo) ++ (kX4 cs a (.ref (b 0)) (.ref (c 0)) (.ref (d 0)) Se)) H → va_D A ((kX7 cs x (.ref (g 0)) (.ref (g2 0)) (.ref (g3 0)) (.ref (h 0)) (.ref (t 0)) (.ref (sa 0)) Ma) ++ (kX2 cs g (.ref (b 0)) (.ref (c 0)) (.ref (d 0)) (.ref (a 0)) ) ++ (kX1 cs b  Fo) ++ (kX4 cs a (.ref (b 0)) (.ref (c 0)) (.ref (d 0)) Se)) → va_S A s.heap H locs → lv_has ls 4 [(0, .ref (x 0)), (1, .int y1), (2, .int y2)] → fX7_line_48 Fo y1 y2 Ma Se = some (r0, Maz, Sez) → W p l e rmX7_line s m [.ref (x 0), .int x1, .int x2].toArray below meth c H locs 0 0 Q (F0 m 48 ls []) := by
    intro y1 y2 Ma Se H locs ls hP hD hS hl hf
    unfold fX7_line_48 at hf
    refine lv_aload_n hx hb dX7_line_48 rfl (lv_at hl 0 rfl) ?_
    refine va_get (D := D) (ci := 7) (v := .ref (g 0)) (C := RX7) (T := TX7) (N := 8) hx hb hu inX7 hown hK.1 hP 0 rfl rfl 0 (by decide) (hu _ q300) (fun _ h9 => h9) rfl dX7_line_49 ?_
    refine va_get (D := D) (ci := 2) (v := .ref (a 0)) (C := RX2) (T := TX2) (N := 4) hx hb hu inX2 hown hK.1 hP 2 rfl rfl 3 (by decide) (hu _ q204) (fun _ h9 => h9) rfl dX7_line_52 ?_
    refine va_get (D := D) (ci := 4) (v := .ref (a 5)) (C := RX4) (T := TX4) (N := 10) hx hb hu inX4 hown hK.1 hP 10 rfl rfl 4 (by decide) (hu _ q164) (fun _ h9 => h9) rfl dX7_line_55 ?_
    refine lv_iload_n hx hb dX7_line_58 rfl (lv_at hl 1 rfl) ?_
    obtain ⟨hi9, hf⟩ := ck_el hf
    refine va_iald hx hb hK.1 hP 12 0 rfl rfl hi9 dX7_line_59 ?_
    obtain ⟨v10, hv10, hf⟩ := lt_el hf
    refine lv_tope hv10 ?_
    refine lv_istore_n (lv' := [(3, .int v10), (0, .ref (x 0)), (1, .int y1), (2, .int y2)]) hx hb dX7_line_60 rfl hl (by decide) rfl (fun ls hl => ?_)
    refine lv_aload_n hx hb dX7_line_61 rfl (lv_at hl 1 rfl) ?_
    refine va_get (D := D) (ci := 7) (v := .ref (g 0)) (C := RX7) (T := TX7) (N := 8) hx hb hu inX7 hown hK.1 hP 0 rfl rfl 0 (by decide) (hu _ q300) (fun _ h9 => h9) rfl dX7_line_62 ?_
    refine va_get (D := D) (ci := 2) (v := .ref (a 0)) (C := RX2) (T := TX2) (N := 4) hx hb hu inX2 hown hK.1 hP 2 rfl rfl 3 (by decide) (hu _ q204) (fun _ h9 => h9) rfl dX7_line_65 ?_
    refine va_get (D := D) (ci := 4) (v := .ref (a 5)) (C := RX4) (T := TX4) (N := 10) hx hb hu inX4 hown hK.1 hP 10 rfl rfl 4 (by decide) (hu _ q164) (fun _ h9 => h9) rfl dX7_line_68 ?_
    refine lv_iload_n hx hb dX7_line_71 rfl (lv_at hl 2 rfl) ?_
    refine lv_iload_n hx hb dX7_line_72 rfl (lv_at hl 3 rfl) ?_
    obtain ⟨hi11, hf⟩ := ck_el hf
    obtain ⟨Se_12, hSe_12, hf⟩ := lt_el hf
    refine va_iast hx hb hK.1 hP hD hS 12 0 rfl rfl hi11 dX7_line_73 (fun H locs hP hD hS => ?_)
    have hP : va_P D vwCl ((kX7 cs x (.ref (g 0)) (.ref (g2 0)) (.ref (g3 0)) (.ref (h 0)) (.ref (t 0)) (.ref (sa 0)) Ma) ++ (kX2 cs g (.ref (b 0)) (.ref (c 0)) (.ref (d 0)) (.ref (a 0)) ) ++ (kX1 cs b  Fo) ++ (kX4 cs a (.ref (b 0)) (.ref (c 0)) (.ref (d 0)) Se_12)) H := by rw [hSe_12]; exact hP
    have hD : va_D A ((kX7 cs x (.ref (g 0)) (.ref (g2 0)) (.ref (g3 0)) (.ref (h 0)) (.ref (t 0)) (.ref (sa 0)) Ma) ++ (kX2 cs g (.ref (b 0)) (.ref (c 0)) (.ref (d 0)) (.ref (a 0)) ) ++ (kX1 cs b  Fo) ++ (kX4 cs a (.ref (b 0)) (.ref (c 0)) (.ref (d 0)) Se_12)) := by rw [hSe_12]; exact hD
    refine lv_iload_n hx hb dX7_line_74 rfl (lv_at hl 0 rfl) ?_
    have he := Option.some.inj hf
    obtain ⟨e0, ht0⟩ := Prod.mk.inj he
    obtain ⟨e1, e2⟩ := Prod.mk.inj ht0
    exact hri _ _ _ rfl (congrArg (fun z => some (Value.int z)) e0.symm) dX7_line_75 _ _ _ (by rw [e1, e2]) hP hD hS
  have h28 : ∀ (y1 : Int32) (y2 : Int32) (Ma : ST) (Se : ST) (H : Heap) (locs : List Loc) (ls : Array Slot), va_P D vwCl ((kX7 cs x (.ref (g 0)) (.ref (g2 0)) (.ref (g3 0)) (.ref (h 0)) (.ref (t 0)) (.ref (sa 0)) Ma) ++ (kX2 cs g (.ref (b 0)) (.ref (c 0)) (.ref (d 0)) (.ref (a 0)) ) ++ (kX1 cs b  Fo) ++ (kX4 cs a (.ref (b 0)) (.ref (c 0)) (.ref (d 0)) Se)) H → va_D A ((kX7 cs x (.ref (g 0)) (.ref (g2 0)) (.ref (g3 0)) (.ref (h 0)) (.ref (t 0)) (.ref (sa 0)) Ma) ++ (kX2 cs g (.ref (b 0)) (.ref (c 0)) (.ref (d 0)) (.ref (a 0)) ) ++ (kX1 cs b  Fo) ++ (kX4 cs a (.ref (b 0)) (.ref (c 0)) (.ref (d 0)) Se)) → va_S A s.heap H locs → lv_has ls 4 [(0, .ref (x 0)), (1, .int y1), (2, .int y2)] → fX7_line_28 Fo y1 y2 Ma Se = some (r0, Maz, Sez) → W p l e rmX7_line s m [.ref (x 0), .int x1, .int x2].toArray below meth c H locs 0 0 Q (F0 m 28 ls []) := by
    intro y1 y2 Ma Se H locs ls hP hD hS hl hf
    unfold fX7_line_28 at hf
    refine lv_iload_n hx hb dX7_line_28 rfl (lv_at hl 2 rfl) ?_
    refine lv_iconst (v := (-1)) hx hb dX7_line_29 (by decide) ?_
    refine lv_icmp_eq (tgt := 48) hx hb dX7_line_30 (by decide) (fun hc8 => ?_) (fun hc8 => ?_)
    · have hf := ip_el hc8 hf
      exact h48 y1 y2 Ma Se _ _ _ hP hD hS (lv_sub hl [0, 1, 2] rfl) hf
    · have hf := in_el hc8 hf
      refine lv_aload_n hx hb dX7_line_33 rfl (lv_at hl 0 rfl) ?_
      refine lv_iload_n hx hb dX7_line_34 rfl (lv_at hl 2 rfl) ?_
      obtain ⟨r13, hg14, hf⟩ := b1_el hf
      refine cc_V1 (w' := ((kX7 cs x (.ref (g 0)) (.ref (g2 0)) (.ref (g3 0)) (.ref (h 0)) (.ref (t 0)) (.ref (sa 0)) Ma) ++ (kX2 cs g (.ref (b 0)) (.ref (c 0)) (.ref (d 0)) (.ref (a 0)) ) ++ (kX1 cs b  Fo) ++ (kX4 cs a (.ref (b 0)) (.ref (c 0)) (.ref (d 0)) Se))) (st1 := [.int r13]) [.int y2] hx hb hml hown hu (tX7_mayStandInLine l D cs x g g2 g3 h t sa b c d a y2 Ma Fo Se r13 hg14) q512 q54 q509 q511 q7 pdX7_mayStandInLine ⟨rfl, rfl, Nat.le_of_ble_eq_true rfl, Nat.le_of_ble_eq_true rfl⟩ hK hZ hP hD hS hA rfl rfl rfl rfl hl.1 rfl (Nat.le_of_ble_eq_true rfl) dX7_line_35 rfl (fun H locs hP hD hS => ?_)
      refine lv_if_ne (tgt := 48) hx hb dX7_line_38 (by decide) (fun hc15 => ?_) (fun hc15 => ?_)
      · have hf := in_el hc15 hf
        exact h48 y1 y2 Ma Se _ _ _ hP hD hS (lv_sub hl [0, 1, 2] rfl) hf
      · have hf := ip_el hc15 hf
        refine lv_aload_n hx hb dX7_line_41 rfl (lv_at hl 0 rfl) ?_
        refine lv_ldc (v := (-1000000005)) hx hb hown (hu _ q500) dX7_line_42 ?_
        obtain ⟨r16, Ma_17, hg18, hf⟩ := b2_el hf
        refine cc_V (w' := ((kX7 cs x (.ref (g 0)) (.ref (g2 0)) (.ref (g3 0)) (.ref (h 0)) (.ref (t 0)) (.ref (sa 0)) Ma_17) ++ (kX2 cs g (.ref (b 0)) (.ref (c 0)) (.ref (d 0)) (.ref (a 0)) ) ++ (kX1 cs b  Fo) ++ (kX4 cs a (.ref (b 0)) (.ref (c 0)) (.ref (d 0)) Se))) (wr := ((kX2 cs g (.ref (b 0)) (.ref (c 0)) (.ref (d 0)) (.ref (a 0)) ) ++ (kX1 cs b  Fo) ++ (kX4 cs a (.ref (b 0)) (.ref (c 0)) (.ref (d 0)) Se))) (st1 := [.int r16]) [.int (-1000000005)] hx hb hml hown hu (tX7_finding l D cs x g g2 g3 h t sa (-1000000005) Ma r16 Ma_17 hg18) q339 q54 q336 q338 q0 pdX7_finding ⟨rfl, rfl, Nat.le_of_ble_eq_true rfl, Nat.le_of_ble_eq_true rfl⟩ hK hZ hP hD hS hA [0, 1] [2, 3, 4, 5, 6, 7, 8, 9, 10, 11, 12, 13] [12, 13, 0, 1, 2, 3, 4, 5, 6, 7, 8, 9, 10, 11] rfl rfl rfl rfl rfl rfl rfl rfl rfl rfl hl.1 rfl (Nat.le_of_ble_eq_true rfl) dX7_line_44 rfl (fun H locs hP hD hS => ?_)
        have he := Option.some.inj hf
        obtain ⟨e0, ht0⟩ := Prod.mk.inj he
        obtain ⟨e1, e2⟩ := Prod.mk.inj ht0
        exact hri _ _ _ rfl (congrArg (fun z => some (Value.int z)) e0.symm) dX7_line_47 _ _ _ (by rw [e1, e2]) hP hD hS
  have hl : lv_has ls0 4 [(0, .ref (x 0)), (1, .int x1), (2, .int x2)] := hl0
  have hP := hP0
  have hD := hD0
  have hS := hS0
  unfold fX7_line at hf
  refine lv_aload_n hx hb dX7_line_0 rfl (lv_at hl 0 rfl) ?_
  refine lv_iload_n hx hb dX7_line_1 rfl (lv_at hl 1 rfl) ?_
  obtain ⟨r1, hg2, hf⟩ := b1_el hf
  refine cc_V (w' := ((kX7 cs x (.ref (g 0)) (.ref (g2 0)) (.ref (g3 0)) (.ref (h 0)) (.ref (t 0)) (.ref (sa 0)) Ma) ++ (kX2 cs g (.ref (b 0)) (.ref (c 0)) (.ref (d 0)) (.ref (a 0)) ) ++ (kX1 cs b  Fo) ++ (kX4 cs a (.ref (b 0)) (.ref (c 0)) (.ref (d 0)) Se))) (wr := (kX1 cs b  Fo)) (st1 := [.int r1]) [.int x1] hx hb hml hown hu (tX7_isPlace l D cs x g g2 g3 h t sa b c d a x1 Ma Se r1 hg2) q508 q54 q505 q507 q6 pdX7_isPlace ⟨rfl, rfl, Nat.le_of_ble_eq_true rfl, Nat.le_of_ble_eq_true rfl⟩ hK hZ hP hD hS hA [0, 1, 2, 10, 11, 12, 13] [3, 4, 5, 6, 7, 8, 9] [7, 8, 9, 0, 1, 2, 3, 4, 5, 6, 10, 11, 12, 13] rfl rfl rfl rfl rfl rfl rfl rfl rfl rfl hl.1 rfl (Nat.le_of_ble_eq_true rfl) dX7_line_2 rfl (fun H locs hP hD hS => ?_)
  refine lv_if_eq (tgt := 21) hx hb dX7_line_5 (by decide) (fun hc3 => ?_) (fun hc3 => ?_)
  · have hf := ip_el hc3 hf
    exact h21 Ma Se _ _ _ hP hD hS (lv_sub hl [0] rfl) hf
  · have hf := in_el hc3 hf
    refine lv_iload_n hx hb dX7_line_8 rfl (lv_at hl 2 rfl) ?_
    refine lv_iconst (v := (-1)) hx hb dX7_line_9 (by decide) ?_
    refine lv_icmp_eq (tgt := 28) hx hb dX7_line_10 (by decide) (fun hc7 => ?_) (fun hc7 => ?_)
    · have hf := ip_el hc7 hf
      exact h28 x1 x2 Ma Se _ _ _ hP hD hS (lv_sub hl [0, 1, 2] rfl) hf
    · have hf := in_el hc7 hf
      refine lv_aload_n hx hb dX7_line_13 rfl (lv_at hl 0 rfl) ?_
      refine lv_iload_n hx hb dX7_line_14 rfl (lv_at hl 2 rfl) ?_
      obtain ⟨r19, hg20, hf⟩ := b1_el hf
      refine cc_V (w' := ((kX7 cs x (.ref (g 0)) (.ref (g2 0)) (.ref (g3 0)) (.ref (h 0)) (.ref (t 0)) (.ref (sa 0)) Ma) ++ (kX2 cs g (.ref (b 0)) (.ref (c 0)) (.ref (d 0)) (.ref (a 0)) ) ++ (kX1 cs b  Fo) ++ (kX4 cs a (.ref (b 0)) (.ref (c 0)) (.ref (d 0)) Se))) (wr := (kX4 cs a (.ref (b 0)) (.ref (c 0)) (.ref (d 0)) Se)) (st1 := [.int r19]) [.int x2] hx hb hml hown hu (tX7_isOne l D cs x g g2 g3 h t sa b c d a x2 Ma Fo r19 hg20) q352 q54 q349 q351 q1 pdX7_isOne ⟨rfl, rfl, Nat.le_of_ble_eq_true rfl, Nat.le_of_ble_eq_true rfl⟩ hK hZ hP hD hS hA [0, 1, 2, 3, 4, 5, 6, 7, 8, 9] [10, 11, 12, 13] [4, 5, 6, 7, 8, 9, 10, 11, 12, 13, 0, 1, 2, 3] rfl rfl rfl rfl rfl rfl rfl rfl rfl rfl hl.1 rfl (Nat.le_of_ble_eq_true rfl) dX7_line_15 rfl (fun H locs hP hD hS => ?_)
      refine lv_if_ne (tgt := 28) hx hb dX7_line_18 (by decide) (fun hc21 => ?_) (fun hc21 => ?_)
      · have hf := in_el hc21 hf
        exact h28 x1 x2 Ma Se _ _ _ hP hD hS (lv_sub hl [0, 1, 2] rfl) hf
      · have hf := ip_el hc21 hf
        exact h21 Ma Se _ _ _ hP hD hS (lv_sub hl [0] rfl) hf

def fX7_may (x1 : Int32) (Ma : ST) (Fo : ST) (Se : ST) : Option (Int32 × ST) :=
  dc_b1 (fX7_isOne x1 Ma Fo) (fun r1 => (if r1 = 0 then dc_b2 (fX7_finding (-1000000001) Ma) (fun r12 Ma_13 => some (r12, Ma_13)) else dc_b1 (fX1_isAlive x1 Fo) (fun r4 => (if r4 = 0 then dc_b2 (fX7_finding (-1000000005) Ma) (fun r9 Ma_10 => some (r9, Ma_10)) else dc_b1 (fX4_allowed x1 Se Fo) (fun r7 => some (r7, Ma))))))
abbrev rmX7_may : Room := { frames := 2, cells := 0, slots := 0, locals := 44 }
set_option maxRecDepth 100000 in
set_option maxHeartbeats 4000000 in
theorem tX7_may (l : Launch) (D : va_G) (cs : Nat → ClassId) (x : Nat → Nat) (g : Nat → Nat) (g2 : Nat → Nat) (g3 : Nat → Nat) (h : Nat → Nat) (t : Nat → Nat) (sa : Nat → Nat) (b : Nat → Nat) (c : Nat → Nat) (d : Nat → Nat) (a : Nat → Nat) (x1 : Int32) (Ma : ST) (Fo : ST) (Se : ST) (r0 : Int32) (Maz : ST) (hf : fX7_may x1 Ma Fo Se = some (r0, Maz)) : CG l yX7_may (wsm yX7_may cX7_may 2 (some .int)) rmX7_may D cs [.ref (x 0), .int x1] (some (.int r0)) ((kX7 cs x (.ref (g 0)) (.ref (g2 0)) (.ref (g3 0)) (.ref (h 0)) (.ref (t 0)) (.ref (sa 0)) Ma) ++ (kX2 cs g (.ref (b 0)) (.ref (c 0)) (.ref (d 0)) (.ref (a 0)) ) ++ (kX1 cs b  Fo) ++ (kX4 cs a (.ref (b 0)) (.ref (c 0)) (.ref (d 0)) Se)) ((kX7 cs x (.ref (g 0)) (.ref (g2 0)) (.ref (g3 0)) (.ref (h 0)) (.ref (t 0)) (.ref (sa 0)) Maz) ++ (kX2 cs g (.ref (b 0)) (.ref (c 0)) (.ref (d 0)) (.ref (a 0)) ) ++ (kX1 cs b  Fo) ++ (kX4 cs a (.ref (b 0)) (.ref (c 0)) (.ref (d 0)) Se)) := by
  refine CG.intro (by decide) (Nat.le_of_ble_eq_true rfl) ?_
  intro p e s m below meth c A Q hx hb hml hown hu hK hZ hP0 hD0 hS0 hA hri hrz hrl hrv hra ls0 hl0
  have hl : lv_has ls0 2 [(0, .ref (x 0)), (1, .int x1)] := hl0
  have hP := hP0
  have hD := hD0
  have hS := hS0
  unfold fX7_may at hf
  refine lv_aload_n hx hb dX7_may_0 rfl (lv_at hl 0 rfl) ?_
  refine lv_iload_n hx hb dX7_may_1 rfl (lv_at hl 1 rfl) ?_
  obtain ⟨r1, hg2, hf⟩ := b1_el hf
  refine cc_V (w' := ((kX7 cs x (.ref (g 0)) (.ref (g2 0)) (.ref (g3 0)) (.ref (h 0)) (.ref (t 0)) (.ref (sa 0)) Ma) ++ (kX2 cs g (.ref (b 0)) (.ref (c 0)) (.ref (d 0)) (.ref (a 0)) ) ++ (kX1 cs b  Fo) ++ (kX4 cs a (.ref (b 0)) (.ref (c 0)) (.ref (d 0)) Se))) (wr := (kX4 cs a (.ref (b 0)) (.ref (c 0)) (.ref (d 0)) Se)) (st1 := [.int r1]) [.int x1] hx hb hml hown hu (tX7_isOne l D cs x g g2 g3 h t sa b c d a x1 Ma Fo r1 hg2) q352 q54 q349 q351 q1 pdX7_isOne ⟨rfl, rfl, Nat.le_of_ble_eq_true rfl, Nat.le_of_ble_eq_true rfl⟩ hK hZ hP hD hS hA [0, 1, 2, 3, 4, 5, 6, 7, 8, 9] [10, 11, 12, 13] [4, 5, 6, 7, 8, 9, 10, 11, 12, 13, 0, 1, 2, 3] rfl rfl rfl rfl rfl rfl rfl rfl rfl rfl hl.1 rfl (Nat.le_of_ble_eq_true rfl) dX7_may_2 rfl (fun H locs hP hD hS => ?_)
  refine lv_if_ne (tgt := 15) hx hb dX7_may_5 (by decide) (fun hc3 => ?_) (fun hc3 => ?_)
  · have hf := in_el hc3 hf
    refine lv_aload_n hx hb dX7_may_15 rfl (lv_at hl 0 rfl) ?_
    refine va_get (D := D) (ci := 7) (v := .ref (g 0)) (C := RX7) (T := TX7) (N := 8) hx hb hu inX7 hown hK.1 hP 0 rfl rfl 0 (by decide) (hu _ q300) (fun _ h9 => h9) rfl dX7_may_16 ?_
    refine va_get (D := D) (ci := 2) (v := .ref (b 0)) (C := RX2) (T := TX2) (N := 4) hx hb hu inX2 hown hK.1 hP 2 rfl rfl 0 (by decide) (hu _ q196) (fun _ h9 => h9) rfl dX7_may_19 ?_
    refine lv_iload_n hx hb dX7_may_22 rfl (lv_at hl 1 rfl) ?_
    obtain ⟨r4, hg5, hf⟩ := b1_el hf
    refine cc_V (w' := ((kX7 cs x (.ref (g 0)) (.ref (g2 0)) (.ref (g3 0)) (.ref (h 0)) (.ref (t 0)) (.ref (sa 0)) Ma) ++ (kX2 cs g (.ref (b 0)) (.ref (c 0)) (.ref (d 0)) (.ref (a 0)) ) ++ (kX1 cs b  Fo) ++ (kX4 cs a (.ref (b 0)) (.ref (c 0)) (.ref (d 0)) Se))) (wr := ((kX7 cs x (.ref (g 0)) (.ref (g2 0)) (.ref (g3 0)) (.ref (h 0)) (.ref (t 0)) (.ref (sa 0)) Ma) ++ (kX2 cs g (.ref (b 0)) (.ref (c 0)) (.ref (d 0)) (.ref (a 0)) ) ++ (kX4 cs a (.ref (b 0)) (.ref (c 0)) (.ref (d 0)) Se))) (st1 := [.int r4]) [.int x1] hx hb hml hown hu (tX1_isAlive l D cs b x1 Fo r4 hg5) q356 q56 q353 q354 q355 pdX1_isAlive ⟨rfl, rfl, Nat.le_of_ble_eq_true rfl, Nat.le_of_ble_eq_true rfl⟩ hK hZ hP hD hS hA [3, 4, 5, 6, 7, 8, 9] [0, 1, 2, 10, 11, 12, 13] [0, 1, 2, 7, 8, 9, 10, 11, 12, 13, 3, 4, 5, 6] rfl rfl rfl rfl rfl rfl rfl rfl rfl rfl hl.1 rfl (Nat.le_of_ble_eq_true rfl) dX7_may_23 rfl (fun H locs hP hD hS => ?_)
    refine lv_if_ne (tgt := 36) hx hb dX7_may_26 (by decide) (fun hc6 => ?_) (fun hc6 => ?_)
    · have hf := in_el hc6 hf
      refine lv_aload_n hx hb dX7_may_36 rfl (lv_at hl 0 rfl) ?_
      refine va_get (D := D) (ci := 7) (v := .ref (g 0)) (C := RX7) (T := TX7) (N := 8) hx hb hu inX7 hown hK.1 hP 0 rfl rfl 0 (by decide) (hu _ q300) (fun _ h9 => h9) rfl dX7_may_37 ?_
      refine va_get (D := D) (ci := 2) (v := .ref (a 0)) (C := RX2) (T := TX2) (N := 4) hx hb hu inX2 hown hK.1 hP 2 rfl rfl 3 (by decide) (hu _ q204) (fun _ h9 => h9) rfl dX7_may_40 ?_
      refine lv_iload_n hx hb dX7_may_43 rfl (lv_at hl 1 rfl) ?_
      obtain ⟨r7, hg8, hf⟩ := b1_el hf
      refine cc_V (w' := ((kX7 cs x (.ref (g 0)) (.ref (g2 0)) (.ref (g3 0)) (.ref (h 0)) (.ref (t 0)) (.ref (sa 0)) Ma) ++ (kX2 cs g (.ref (b 0)) (.ref (c 0)) (.ref (d 0)) (.ref (a 0)) ) ++ (kX1 cs b  Fo) ++ (kX4 cs a (.ref (b 0)) (.ref (c 0)) (.ref (d 0)) Se))) (wr := ((kX7 cs x (.ref (g 0)) (.ref (g2 0)) (.ref (g3 0)) (.ref (h 0)) (.ref (t 0)) (.ref (sa 0)) Ma) ++ (kX2 cs g (.ref (b 0)) (.ref (c 0)) (.ref (d 0)) (.ref (a 0)) ))) (st1 := [.int r7]) [.int x1] hx hb hml hown hu (tX4_allowed l D cs a b c (.ref (d 0)) x1 Se Fo r7 hg8) q375 q58 q517 q373 q374 pdX4_allowed ⟨rfl, rfl, Nat.le_of_ble_eq_true rfl, Nat.le_of_ble_eq_true rfl⟩ hK hZ hP hD hS hA [10, 11, 12, 13, 3, 4, 5, 6, 7, 8, 9] [0, 1, 2] [0, 1, 2, 7, 8, 9, 10, 11, 12, 13, 3, 4, 5, 6] rfl rfl rfl rfl rfl rfl rfl rfl rfl rfl hl.1 rfl (Nat.le_of_ble_eq_true rfl) dX7_may_44 rfl (fun H locs hP hD hS => ?_)
      have he := Option.some.inj hf
      obtain ⟨e0, e1⟩ := Prod.mk.inj he
      exact hri _ _ _ rfl (congrArg (fun z => some (Value.int z)) e0.symm) dX7_may_47 _ _ _ (by rw [e1]) hP hD hS
    · have hf := ip_el hc6 hf
      refine lv_aload_n hx hb dX7_may_29 rfl (lv_at hl 0 rfl) ?_
      refine lv_ldc (v := (-1000000005)) hx hb hown (hu _ q500) dX7_may_30 ?_
      obtain ⟨r9, Ma_10, hg11, hf⟩ := b2_el hf
      refine cc_V (w' := ((kX7 cs x (.ref (g 0)) (.ref (g2 0)) (.ref (g3 0)) (.ref (h 0)) (.ref (t 0)) (.ref (sa 0)) Ma_10) ++ (kX2 cs g (.ref (b 0)) (.ref (c 0)) (.ref (d 0)) (.ref (a 0)) ) ++ (kX1 cs b  Fo) ++ (kX4 cs a (.ref (b 0)) (.ref (c 0)) (.ref (d 0)) Se))) (wr := ((kX2 cs g (.ref (b 0)) (.ref (c 0)) (.ref (d 0)) (.ref (a 0)) ) ++ (kX1 cs b  Fo) ++ (kX4 cs a (.ref (b 0)) (.ref (c 0)) (.ref (d 0)) Se))) (st1 := [.int r9]) [.int (-1000000005)] hx hb hml hown hu (tX7_finding l D cs x g g2 g3 h t sa (-1000000005) Ma r9 Ma_10 hg11) q339 q54 q336 q338 q0 pdX7_finding ⟨rfl, rfl, Nat.le_of_ble_eq_true rfl, Nat.le_of_ble_eq_true rfl⟩ hK hZ hP hD hS hA [0, 1] [2, 3, 4, 5, 6, 7, 8, 9, 10, 11, 12, 13] [12, 13, 0, 1, 2, 3, 4, 5, 6, 7, 8, 9, 10, 11] rfl rfl rfl rfl rfl rfl rfl rfl rfl rfl hl.1 rfl (Nat.le_of_ble_eq_true rfl) dX7_may_32 rfl (fun H locs hP hD hS => ?_)
      have he := Option.some.inj hf
      obtain ⟨e0, e1⟩ := Prod.mk.inj he
      exact hri _ _ _ rfl (congrArg (fun z => some (Value.int z)) e0.symm) dX7_may_35 _ _ _ (by rw [e1]) hP hD hS
  · have hf := ip_el hc3 hf
    refine lv_aload_n hx hb dX7_may_8 rfl (lv_at hl 0 rfl) ?_
    refine lv_ldc (v := (-1000000001)) hx hb hown (hu _ q335) dX7_may_9 ?_
    obtain ⟨r12, Ma_13, hg14, hf⟩ := b2_el hf
    refine cc_V (w' := ((kX7 cs x (.ref (g 0)) (.ref (g2 0)) (.ref (g3 0)) (.ref (h 0)) (.ref (t 0)) (.ref (sa 0)) Ma_13) ++ (kX2 cs g (.ref (b 0)) (.ref (c 0)) (.ref (d 0)) (.ref (a 0)) ) ++ (kX1 cs b  Fo) ++ (kX4 cs a (.ref (b 0)) (.ref (c 0)) (.ref (d 0)) Se))) (wr := ((kX2 cs g (.ref (b 0)) (.ref (c 0)) (.ref (d 0)) (.ref (a 0)) ) ++ (kX1 cs b  Fo) ++ (kX4 cs a (.ref (b 0)) (.ref (c 0)) (.ref (d 0)) Se))) (st1 := [.int r12]) [.int (-1000000001)] hx hb hml hown hu (tX7_finding l D cs x g g2 g3 h t sa (-1000000001) Ma r12 Ma_13 hg14) q339 q54 q336 q338 q0 pdX7_finding ⟨rfl, rfl, Nat.le_of_ble_eq_true rfl, Nat.le_of_ble_eq_true rfl⟩ hK hZ hP hD hS hA [0, 1] [2, 3, 4, 5, 6, 7, 8, 9, 10, 11, 12, 13] [12, 13, 0, 1, 2, 3, 4, 5, 6, 7, 8, 9, 10, 11] rfl rfl rfl rfl rfl rfl rfl rfl rfl rfl hl.1 rfl (Nat.le_of_ble_eq_true rfl) dX7_may_11 rfl (fun H locs hP hD hS => ?_)
    have he := Option.some.inj hf
    obtain ⟨e0, e1⟩ := Prod.mk.inj he
    exact hri _ _ _ rfl (congrArg (fun z => some (Value.int z)) e0.symm) dX7_may_14 _ _ _ (by rw [e1]) hP hD hS

def fX7_follows_16 (Fo : ST) (Se : ST) (Ma : ST) (Sc : ST) (Tr : ST) : Option (Int32 × ST × ST × ST) :=
  dc_b2 (fX7_finding (-1000000001) Ma) (fun r4 Ma_5 => some (r4, Ma_5, Sc, Tr))
def fX7_follows_55 (Fo : ST) (Se : ST) (Ma : ST) (Sc : ST) (Tr : ST) : Option (Int32 × ST × ST × ST) :=
  dc_b2 (fX7_finding (-1000000005) Ma) (fun r13 Ma_14 => some (r13, Ma_14, Sc, Tr))
def fX7_follows (x1 : Int32) (x2 : Int32) (Ma : ST) (Fo : ST) (Sc : ST) (Se : ST) (Tr : ST) : Option (Int32 × ST × ST × ST) :=
  dc_b1 (fX7_isOne x1 Ma Fo) (fun r1 => (if r1 = 0 then fX7_follows_16 Fo Se Ma Sc Tr else dc_b1 (fX7_isOne x2 Ma Fo) (fun r7 => (if r7 = 0 then fX7_follows_16 Fo Se Ma Sc Tr else dc_b1 (fX1_isAlive x1 Fo) (fun r10 => (if r10 = 0 then fX7_follows_55 Fo Se Ma Sc Tr else dc_b1 (fX4_allowed x1 Se Fo) (fun r16 => dc_b1 (fX7_isIn r16 x2) (fun r18 => (if r18 = 0 then fX7_follows_55 Fo Se Ma Sc Tr else dc_b3 (fX4_whatFollows x1 x2 1 Se Fo Sc Tr) (fun r21 Sc_22 Tr_23 => some (r21, Ma, Sc_22, Tr_23)))))))))))
abbrev rmX7_follows : Room := { frames := 7, cells := 0, slots := 0, locals := 178 }
set_option maxRecDepth 100000 in
set_option maxHeartbeats 4000000 in
theorem tX7_follows (l : Launch) (D : va_G) (cs : Nat → ClassId) (x : Nat → Nat) (g : Nat → Nat) (g2 : Nat → Nat) (g3 : Nat → Nat) (h : Nat → Nat) (t : Nat → Nat) (sa : Nat → Nat) (b : Nat → Nat) (c : Nat → Nat) (d : Nat → Nat) (a : Nat → Nat) (x1 : Int32) (x2 : Int32) (Ma : ST) (Fo : ST) (Sc : ST) (Se : ST) (Tr : ST) (r0 : Int32) (Maz : ST) (Scz : ST) (Trz : ST) (hf : fX7_follows x1 x2 Ma Fo Sc Se Tr = some (r0, Maz, Scz, Trz)) : CG l yX7_follows (wsm yX7_follows cX7_follows 3 (some .int)) rmX7_follows D cs [.ref (x 0), .int x1, .int x2] (some (.int r0)) ((kX7 cs x (.ref (g 0)) (.ref (g2 0)) (.ref (g3 0)) (.ref (h 0)) (.ref (t 0)) (.ref (sa 0)) Ma) ++ (kX2 cs g (.ref (b 0)) (.ref (c 0)) (.ref (d 0)) (.ref (a 0)) ) ++ (kX1 cs b  Fo) ++ (kX3 cs c  Sc) ++ (kX4 cs a (.ref (b 0)) (.ref (c 0)) (.ref (d 0)) Se) ++ (kX4 cs d (.ref (b 0)) (.ref (c 0)) .null Tr)) ((kX7 cs x (.ref (g 0)) (.ref (g2 0)) (.ref (g3 0)) (.ref (h 0)) (.ref (t 0)) (.ref (sa 0)) Maz) ++ (kX2 cs g (.ref (b 0)) (.ref (c 0)) (.ref (d 0)) (.ref (a 0)) ) ++ (kX1 cs b  Fo) ++ (kX3 cs c  Scz) ++ (kX4 cs a (.ref (b 0)) (.ref (c 0)) (.ref (d 0)) Se) ++ (kX4 cs d (.ref (b 0)) (.ref (c 0)) .null Trz)) := by
  refine CG.intro (by decide) (Nat.le_of_ble_eq_true rfl) ?_
  intro p e s m below meth c A Q hx hb hml hown hu hK hZ hP0 hD0 hS0 hA hri hrz hrl hrv hra ls0 hl0
  have h16 : ∀ (Ma : ST) (Sc : ST) (Tr : ST) (H : Heap) (locs : List Loc) (ls : Array Slot), va_P D vwCl ((kX7 cs x (.ref (g 0)) (.ref (g2 0)) (.ref (g3 0)) (.ref (h 0)) (.ref (t 0)) (.ref (sa 0)) Ma) ++ (kX2 cs g (.ref (b 0)) (.ref (c 0)) (.ref (d 0)) (.ref (a 0)) ) ++ (kX1 cs b  Fo) ++ (kX3 cs c  Sc) ++ (kX4 cs a (.ref (b 0)) (.ref (c 0)) (.ref (d 0)) Se) ++ (kX4 cs d (.ref (b 0)) (.ref (c 0)) .null Tr)) H → va_D A ((kX7 cs x (.ref (g 0)) (.ref (g2 0)) (.ref (g3 0)) (.ref (h 0)) (.ref (t 0)) (.ref (sa 0)) Ma) ++ (kX2 cs g (.ref (b 0)) (.ref (c 0)) (.ref (d 0)) (.ref (a 0)) ) ++ (kX1 cs b  Fo) ++ (kX3 cs c  Sc) ++ (kX4 cs a (.ref (b 0)) (.ref (c 0)) (.ref (d 0)) Se) ++ (kX4 cs d (.ref (b 0)) (.ref (c 0)) .null Tr)) → va_S A s.heap H locs → lv_has ls 3 [(0, .ref (x 0))] → fX7_follows_16 Fo Se Ma Sc Tr = some (r0, Maz, Scz, Trz) → W p l e rmX7_follows s m [.ref (x 0), .int x1, .int x2].toArray below meth c H locs 0 0 Q (F0 m 16 ls []) := by
    intro Ma Sc Tr H locs ls hP hD hS hl hf
    unfold fX7_follows_16 at hf
    refine lv_aload_n hx hb dX7_follows_16 rfl (lv_at hl 0 rfl) ?_
    refine lv_ldc (v := (-1000000001)) hx hb hown (hu _ q335) dX7_follows_17 ?_
    obtain ⟨r4, Ma_5, hg6, hf⟩ := b2_el hf
    refine cc_V (w' := ((kX7 cs x (.ref (g 0)) (.ref (g2 0)) (.ref (g3 0)) (.ref (h 0)) (.ref (t 0)) (.ref (sa 0)) Ma_5) ++ (kX2 cs g (.ref (b 0)) (.ref (c 0)) (.ref (d 0)) (.ref (a 0)) ) ++ (kX1 cs b  Fo) ++ (kX3 cs c  Sc) ++ (kX4 cs a (.ref (b 0)) (.ref (c 0)) (.ref (d 0)) Se) ++ (kX4 cs d (.ref (b 0)) (.ref (c 0)) .null Tr))) (wr := ((kX2 cs g (.ref (b 0)) (.ref (c 0)) (.ref (d 0)) (.ref (a 0)) ) ++ (kX1 cs b  Fo) ++ (kX3 cs c  Sc) ++ (kX4 cs a (.ref (b 0)) (.ref (c 0)) (.ref (d 0)) Se) ++ (kX4 cs d (.ref (b 0)) (.ref (c 0)) .null Tr))) (st1 := [.int r4]) [.int (-1000000001)] hx hb hml hown hu (tX7_finding l D cs x g g2 g3 h t sa (-1000000001) Ma r4 Ma_5 hg6) q339 q54 q336 q338 q0 pdX7_finding ⟨rfl, rfl, Nat.le_of_ble_eq_true rfl, Nat.le_of_ble_eq_true rfl⟩ hK hZ hP hD hS hA [0, 1] [2, 3, 4, 5, 6, 7, 8, 9, 10, 11, 12, 13, 14, 15, 16, 17, 18, 19, 20] [19, 20, 0, 1, 2, 3, 4, 5, 6, 7, 8, 9, 10, 11, 12, 13, 14, 15, 16, 17, 18] rfl rfl rfl rfl rfl rfl rfl rfl rfl rfl hl.1 rfl (Nat.le_of_ble_eq_true rfl) dX7_follows_19 rfl (fun H locs hP hD hS => ?_)
    have he := Option.some.inj hf
    obtain ⟨e0, ht0⟩ := Prod.mk.inj he
    obtain ⟨e1, ht1⟩ := Prod.mk.inj ht0
    obtain ⟨e2, e3⟩ := Prod.mk.inj ht1
    exact hri _ _ _ rfl (congrArg (fun z => some (Value.int z)) e0.symm) dX7_follows_22 _ _ _ (by rw [e1, e2, e3]) hP hD hS
  have h55 : ∀ (Ma : ST) (Sc : ST) (Tr : ST) (H : Heap) (locs : List Loc) (ls : Array Slot), va_P D vwCl ((kX7 cs x (.ref (g 0)) (.ref (g2 0)) (.ref (g3 0)) (.ref (h 0)) (.ref (t 0)) (.ref (sa 0)) Ma) ++ (kX2 cs g (.ref (b 0)) (.ref (c 0)) (.ref (d 0)) (.ref (a 0)) ) ++ (kX1 cs b  Fo) ++ (kX3 cs c  Sc) ++ (kX4 cs a (.ref (b 0)) (.ref (c 0)) (.ref (d 0)) Se) ++ (kX4 cs d (.ref (b 0)) (.ref (c 0)) .null Tr)) H → va_D A ((kX7 cs x (.ref (g 0)) (.ref (g2 0)) (.ref (g3 0)) (.ref (h 0)) (.ref (t 0)) (.ref (sa 0)) Ma) ++ (kX2 cs g (.ref (b 0)) (.ref (c 0)) (.ref (d 0)) (.ref (a 0)) ) ++ (kX1 cs b  Fo) ++ (kX3 cs c  Sc) ++ (kX4 cs a (.ref (b 0)) (.ref (c 0)) (.ref (d 0)) Se) ++ (kX4 cs d (.ref (b 0)) (.ref (c 0)) .null Tr)) → va_S A s.heap H locs → lv_has ls 3 [(0, .ref (x 0))] → fX7_follows_55 Fo Se Ma Sc Tr = some (r0, Maz, Scz, Trz) → W p l e rmX7_follows s m [.ref (x 0), .int x1, .int x2].toArray below meth c H locs 0 0 Q (F0 m 55 ls []) := by
    intro Ma Sc Tr H locs ls hP hD hS hl hf
    unfold fX7_follows_55 at hf
    refine lv_aload_n hx hb dX7_follows_55 rfl (lv_at hl 0 rfl) ?_
    refine lv_ldc (v := (-1000000005)) hx hb hown (hu _ q500) dX7_follows_56 ?_
    obtain ⟨r13, Ma_14, hg15, hf⟩ := b2_el hf
    refine cc_V (w' := ((kX7 cs x (.ref (g 0)) (.ref (g2 0)) (.ref (g3 0)) (.ref (h 0)) (.ref (t 0)) (.ref (sa 0)) Ma_14) ++ (kX2 cs g (.ref (b 0)) (.ref (c 0)) (.ref (d 0)) (.ref (a 0)) ) ++ (kX1 cs b  Fo) ++ (kX3 cs c  Sc) ++ (kX4 cs a (.ref (b 0)) (.ref (c 0)) (.ref (d 0)) Se) ++ (kX4 cs d (.ref (b 0)) (.ref (c 0)) .null Tr))) (wr := ((kX2 cs g (.ref (b 0)) (.ref (c 0)) (.ref (d 0)) (.ref (a 0)) ) ++ (kX1 cs b  Fo) ++ (kX3 cs c  Sc) ++ (kX4 cs a (.ref (b 0)) (.ref (c 0)) (.ref (d 0)) Se) ++ (kX4 cs d (.ref (b 0)) (.ref (c 0)) .null Tr))) (st1 := [.int r13]) [.int (-1000000005)] hx hb hml hown hu (tX7_finding l D cs x g g2 g3 h t sa (-1000000005) Ma r13 Ma_14 hg15) q339 q54 q336 q338 q0 pdX7_finding ⟨rfl, rfl, Nat.le_of_ble_eq_true rfl, Nat.le_of_ble_eq_true rfl⟩ hK hZ hP hD hS hA [0, 1] [2, 3, 4, 5, 6, 7, 8, 9, 10, 11, 12, 13, 14, 15, 16, 17, 18, 19, 20] [19, 20, 0, 1, 2, 3, 4, 5, 6, 7, 8, 9, 10, 11, 12, 13, 14, 15, 16, 17, 18] rfl rfl rfl rfl rfl rfl rfl rfl rfl rfl hl.1 rfl (Nat.le_of_ble_eq_true rfl) dX7_follows_58 rfl (fun H locs hP hD hS => ?_)
    have he := Option.some.inj hf
    obtain ⟨e0, ht0⟩ := Prod.mk.inj he
    obtain ⟨e1, ht1⟩ := Prod.mk.inj ht0
    obtain ⟨e2, e3⟩ := Prod.mk.inj ht1
    exact hri _ _ _ rfl (congrArg (fun z => some (Value.int z)) e0.symm) dX7_follows_61 _ _ _ (by rw [e1, e2, e3]) hP hD hS
  have hl : lv_has ls0 3 [(0, .ref (x 0)), (1, .int x1), (2, .int x2)] := hl0
  have hP := hP0
  have hD := hD0
  have hS := hS0
  unfold fX7_follows at hf
  refine lv_aload_n hx hb dX7_follows_0 rfl (lv_at hl 0 rfl) ?_
  refine lv_iload_n hx hb dX7_follows_1 rfl (lv_at hl 1 rfl) ?_
  obtain ⟨r1, hg2, hf⟩ := b1_el hf
  refine cc_V (w' := ((kX7 cs x (.ref (g 0)) (.ref (g2 0)) (.ref (g3 0)) (.ref (h 0)) (.ref (t 0)) (.ref (sa 0)) Ma) ++ (kX2 cs g (.ref (b 0)) (.ref (c 0)) (.ref (d 0)) (.ref (a 0)) ) ++ (kX1 cs b  Fo) ++ (kX3 cs c  Sc) ++ (kX4 cs a (.ref (b 0)) (.ref (c 0)) (.ref (d 0)) Se) ++ (kX4 cs d (.ref (b 0)) (.ref (c 0)) .null Tr))) (wr := ((kX3 cs c  Sc) ++ (kX4 cs a (.ref (b 0)) (.ref (c 0)) (.ref (d 0)) Se) ++ (kX4 cs d (.ref (b 0)) (.ref (c 0)) .null Tr))) (st1 := [.int r1]) [.int x1] hx hb hml hown hu (tX7_isOne l D cs x g g2 g3 h t sa b c d a x1 Ma Fo r1 hg2) q352 q54 q349 q351 q1 pdX7_isOne ⟨rfl, rfl, Nat.le_of_ble_eq_true rfl, Nat.le_of_ble_eq_true rfl⟩ hK hZ hP hD hS hA [0, 1, 2, 3, 4, 5, 6, 7, 8, 9] [10, 11, 12, 13, 14, 15, 16, 17, 18, 19, 20] [11, 12, 13, 14, 15, 16, 17, 18, 19, 20, 0, 1, 2, 3, 4, 5, 6, 7, 8, 9, 10] rfl rfl rfl rfl rfl rfl rfl rfl rfl rfl hl.1 rfl (Nat.le_of_ble_eq_true rfl) dX7_follows_2 rfl (fun H locs hP hD hS => ?_)
  refine lv_if_eq (tgt := 16) hx hb dX7_follows_5 (by decide) (fun hc3 => ?_) (fun hc3 => ?_)
  · have hf := ip_el hc3 hf
    exact h16 Ma Sc Tr _ _ _ hP hD hS (lv_sub hl [0] rfl) hf
  · have hf := in_el hc3 hf
    refine lv_aload_n hx hb dX7_follows_8 rfl (lv_at hl 0 rfl) ?_
    refine lv_iload_n hx hb dX7_follows_9 rfl (lv_at hl 2 rfl) ?_
    obtain ⟨r7, hg8, hf⟩ := b1_el hf
    refine cc_V (w' := ((kX7 cs x (.ref (g 0)) (.ref (g2 0)) (.ref (g3 0)) (.ref (h 0)) (.ref (t 0)) (.ref (sa 0)) Ma) ++ (kX2 cs g (.ref (b 0)) (.ref (c 0)) (.ref (d 0)) (.ref (a 0)) ) ++ (kX1 cs b  Fo) ++ (kX3 cs c  Sc) ++ (kX4 cs a (.ref (b 0)) (.ref (c 0)) (.ref (d 0)) Se) ++ (kX4 cs d (.ref (b 0)) (.ref (c 0)) .null Tr))) (wr := ((kX3 cs c  Sc) ++ (kX4 cs a (.ref (b 0)) (.ref (c 0)) (.ref (d 0)) Se) ++ (kX4 cs d (.ref (b 0)) (.ref (c 0)) .null Tr))) (st1 := [.int r7]) [.int x2] hx hb hml hown hu (tX7_isOne l D cs x g g2 g3 h t sa b c d a x2 Ma Fo r7 hg8) q352 q54 q349 q351 q1 pdX7_isOne ⟨rfl, rfl, Nat.le_of_ble_eq_true rfl, Nat.le_of_ble_eq_true rfl⟩ hK hZ hP hD hS hA [0, 1, 2, 3, 4, 5, 6, 7, 8, 9] [10, 11, 12, 13, 14, 15, 16, 17, 18, 19, 20] [11, 12, 13, 14, 15, 16, 17, 18, 19, 20, 0, 1, 2, 3, 4, 5, 6, 7, 8, 9, 10] rfl rfl rfl rfl rfl rfl rfl rfl rfl rfl hl.1 rfl (Nat.le_of_ble_eq_true rfl) dX7_follows_10 rfl (fun H locs hP hD hS => ?_)
    refine lv_if_ne (tgt := 23) hx hb dX7_follows_13 (by decide) (fun hc9 => ?_) (fun hc9 => ?_)
    · have hf := in_el hc9 hf
      refine lv_aload_n hx hb dX7_follows_23 rfl (lv_at hl 0 rfl) ?_
      refine va_get (D := D) (ci := 7) (v := .ref (g 0)) (C := RX7) (T := TX7) (N := 8) hx hb hu inX7 hown hK.1 hP 0 rfl rfl 0 (by decide) (hu _ q300) (fun _ h9 => h9) rfl dX7_follows_24 ?_
      refine va_get (D := D) (ci := 2) (v := .ref (b 0)) (C := RX2) (T := TX2) (N := 4) hx hb hu inX2 hown hK.1 hP 2 rfl rfl 0 (by decide) (hu _ q196) (fun _ h9 => h9) rfl dX7_follows_27 ?_
      refine lv_iload_n hx hb dX7_follows_30 rfl (lv_at hl 1 rfl) ?_
      obtain ⟨r10, hg11, hf⟩ := b1_el hf
      refine cc_V (w' := ((kX7 cs x (.ref (g 0)) (.ref (g2 0)) (.ref (g3 0)) (.ref (h 0)) (.ref (t 0)) (.ref (sa 0)) Ma) ++ (kX2 cs g (.ref (b 0)) (.ref (c 0)) (.ref (d 0)) (.ref (a 0)) ) ++ (kX1 cs b  Fo) ++ (kX3 cs c  Sc) ++ (kX4 cs a (.ref (b 0)) (.ref (c 0)) (.ref (d 0)) Se) ++ (kX4 cs d (.ref (b 0)) (.ref (c 0)) .null Tr))) (wr := ((kX7 cs x (.ref (g 0)) (.ref (g2 0)) (.ref (g3 0)) (.ref (h 0)) (.ref (t 0)) (.ref (sa 0)) Ma) ++ (kX2 cs g (.ref (b 0)) (.ref (c 0)) (.ref (d 0)) (.ref (a 0)) ) ++ (kX3 cs c  Sc) ++ (kX4 cs a (.ref (b 0)) (.ref (c 0)) (.ref (d 0)) Se) ++ (kX4 cs d (.ref (b 0)) (.ref (c 0)) .null Tr))) (st1 := [.int r10]) [.int x1] hx hb hml hown hu (tX1_isAlive l D cs b x1 Fo r10 hg11) q356 q56 q353 q354 q355 pdX1_isAlive ⟨rfl, rfl, Nat.le_of_ble_eq_true rfl, Nat.le_of_ble_eq_true rfl⟩ hK hZ hP hD hS hA [3, 4, 5, 6, 7, 8, 9] [0, 1, 2, 10, 11, 12, 13, 14, 15, 16, 17, 18, 19, 20] [0, 1, 2, 14, 15, 16, 17, 18, 19, 20, 3, 4, 5, 6, 7, 8, 9, 10, 11, 12, 13] rfl rfl rfl rfl rfl rfl rfl rfl rfl rfl hl.1 rfl (Nat.le_of_ble_eq_true rfl) dX7_follows_31 rfl (fun H locs hP hD hS => ?_)
      refine lv_if_eq (tgt := 55) hx hb dX7_follows_34 (by decide) (fun hc12 => ?_) (fun hc12 => ?_)
      · have hf := ip_el hc12 hf
        exact h55 Ma Sc Tr _ _ _ hP hD hS (lv_sub hl [0] rfl) hf
      · have hf := in_el hc12 hf
        refine lv_aload_n hx hb dX7_follows_37 rfl (lv_at hl 0 rfl) ?_
        refine va_get (D := D) (ci := 7) (v := .ref (g 0)) (C := RX7) (T := TX7) (N := 8) hx hb hu inX7 hown hK.1 hP 0 rfl rfl 0 (by decide) (hu _ q300) (fun _ h9 => h9) rfl dX7_follows_38 ?_
        refine va_get (D := D) (ci := 2) (v := .ref (a 0)) (C := RX2) (T := TX2) (N := 4) hx hb hu inX2 hown hK.1 hP 2 rfl rfl 3 (by decide) (hu _ q204) (fun _ h9 => h9) rfl dX7_follows_41 ?_
        refine lv_iload_n hx hb dX7_follows_44 rfl (lv_at hl 1 rfl) ?_
        obtain ⟨r16, hg17, hf⟩ := b1_el hf
        refine cc_V (w' := ((kX7 cs x (.ref (g 0)) (.ref (g2 0)) (.ref (g3 0)) (.ref (h 0)) (.ref (t 0)) (.ref (sa 0)) Ma) ++ (kX2 cs g (.ref (b 0)) (.ref (c 0)) (.ref (d 0)) (.ref (a 0)) ) ++ (kX1 cs b  Fo) ++ (kX3 cs c  Sc) ++ (kX4 cs a (.ref (b 0)) (.ref (c 0)) (.ref (d 0)) Se) ++ (kX4 cs d (.ref (b 0)) (.ref (c 0)) .null Tr))) (wr := ((kX7 cs x (.ref (g 0)) (.ref (g2 0)) (.ref (g3 0)) (.ref (h 0)) (.ref (t 0)) (.ref (sa 0)) Ma) ++ (kX2 cs g (.ref (b 0)) (.ref (c 0)) (.ref (d 0)) (.ref (a 0)) ) ++ (kX3 cs c  Sc) ++ (kX4 cs d (.ref (b 0)) (.ref (c 0)) .null Tr))) (st1 := [.int r16]) [.int x1] hx hb hml hown hu (tX4_allowed l D cs a b c (.ref (d 0)) x1 Se Fo r16 hg17) q375 q58 q517 q373 q374 pdX4_allowed ⟨rfl, rfl, Nat.le_of_ble_eq_true rfl, Nat.le_of_ble_eq_true rfl⟩ hK hZ hP hD hS hA [13, 14, 15, 16, 3, 4, 5, 6, 7, 8, 9] [0, 1, 2, 10, 11, 12, 17, 18, 19, 20] [0, 1, 2, 14, 15, 16, 17, 18, 19, 20, 3, 4, 5, 10, 11, 12, 13, 6, 7, 8, 9] rfl rfl rfl rfl rfl rfl rfl rfl rfl rfl hl.1 rfl (Nat.le_of_ble_eq_true rfl) dX7_follows_45 rfl (fun H locs hP hD hS => ?_)
        refine lv_iload_n hx hb dX7_follows_48 rfl (lv_at hl 2 rfl) ?_
        obtain ⟨r18, hg19, hf⟩ := b1_el hf
        refine cc_S0 (st1 := [.int r18]) [.int r16, .int x2] hx hb hml hown hu (tX7_isIn l D cs r16 x2 r18 hg19) q363 q54 q522 q362 pdX7_isIn ⟨rfl, rfl, Nat.le_of_ble_eq_true rfl, Nat.le_of_ble_eq_true rfl⟩ hK hZ hP hD hS hA rfl hl.1 rfl (Nat.le_of_ble_eq_true rfl) dX7_follows_49 rfl (fun H locs hP hD hS => ?_)
        refine lv_if_ne (tgt := 62) hx hb dX7_follows_52 (by decide) (fun hc20 => ?_) (fun hc20 => ?_)
        · have hf := in_el hc20 hf
          refine lv_aload_n hx hb dX7_follows_62 rfl (lv_at hl 0 rfl) ?_
          refine va_get (D := D) (ci := 7) (v := .ref (g 0)) (C := RX7) (T := TX7) (N := 8) hx hb hu inX7 hown hK.1 hP 0 rfl rfl 0 (by decide) (hu _ q300) (fun _ h9 => h9) rfl dX7_follows_63 ?_
          refine va_get (D := D) (ci := 2) (v := .ref (a 0)) (C := RX2) (T := TX2) (N := 4) hx hb hu inX2 hown hK.1 hP 2 rfl rfl 3 (by decide) (hu _ q204) (fun _ h9 => h9) rfl dX7_follows_66 ?_
          refine lv_iload_n hx hb dX7_follows_69 rfl (lv_at hl 1 rfl) ?_
          refine lv_iload_n hx hb dX7_follows_70 rfl (lv_at hl 2 rfl) ?_
          refine lv_iconst (v := 1) hx hb dX7_follows_71 (by decide) ?_
          obtain ⟨r21, Sc_22, Tr_23, hg24, hf⟩ := b3_el hf
          refine cc_V (w' := ((kX7 cs x (.ref (g 0)) (.ref (g2 0)) (.ref (g3 0)) (.ref (h 0)) (.ref (t 0)) (.ref (sa 0)) Ma) ++ (kX2 cs g (.ref (b 0)) (.ref (c 0)) (.ref (d 0)) (.ref (a 0)) ) ++ (kX1 cs b  Fo) ++ (kX3 cs c  Sc_22) ++ (kX4 cs a (.ref (b 0)) (.ref (c 0)) (.ref (d 0)) Se) ++ (kX4 cs d (.ref (b 0)) (.ref (c 0)) .null Tr_23))) (wr := ((kX7 cs x (.ref (g 0)) (.ref (g2 0)) (.ref (g3 0)) (.ref (h 0)) (.ref (t 0)) (.ref (sa 0)) Ma) ++ (kX2 cs g (.ref (b 0)) (.ref (c 0)) (.ref (d 0)) (.ref (a 0)) ))) (st1 := [.int r21]) [.int x1, .int x2, .int 1] hx hb hml hown hu (tX4_whatFollows l D cs a b c d x1 x2 1 Se Fo Sc Tr r21 Sc_22 Tr_23 hg24) q424 q58 q523 q422 q423 pdX4_whatFollows ⟨rfl, rfl, Nat.le_of_ble_eq_true rfl, Nat.le_of_ble_eq_true rfl⟩ hK hZ hP hD hS hA [13, 14, 15, 16, 3, 4, 5, 6, 7, 8, 9, 10, 11, 12, 17, 18, 19, 20] [0, 1, 2] [0, 1, 2, 7, 8, 9, 10, 11, 12, 13, 14, 15, 16, 3, 4, 5, 6, 17, 18, 19, 20] rfl rfl rfl rfl rfl rfl rfl rfl rfl rfl hl.1 rfl (Nat.le_of_ble_eq_true rfl) dX7_follows_72 rfl (fun H locs hP hD hS => ?_)
          have he := Option.some.inj hf
          obtain ⟨e0, ht0⟩ := Prod.mk.inj he
          obtain ⟨e1, ht1⟩ := Prod.mk.inj ht0
          obtain ⟨e2, e3⟩ := Prod.mk.inj ht1
          exact hri _ _ _ rfl (congrArg (fun z => some (Value.int z)) e0.symm) dX7_follows_75 _ _ _ (by rw [e1, e2, e3]) hP hD hS
        · have hf := ip_el hc20 hf
          exact h55 Ma Sc Tr _ _ _ hP hD hS (lv_sub hl [0] rfl) hf
    · have hf := ip_el hc9 hf
      exact h16 Ma Sc Tr _ _ _ hP hD hS (lv_sub hl [0] rfl) hf

def fX7_come (Ma : ST) (Fo : ST) (Sc : ST) (Se : ST) (Tr : ST) : Option (Int32 × ST × ST × ST) :=
  dc_b4 (fX4_next 1 Se Fo Sc Tr) (fun r1 Se_2 Sc_3 Tr_4 => some (r1, Sc_3, Se_2, Tr_4))
abbrev rmX7_come : Room := { frames := 10, cells := 0, slots := 0, locals := 256 }
set_option maxRecDepth 100000 in
set_option maxHeartbeats 4000000 in
theorem tX7_come (l : Launch) (D : va_G) (cs : Nat → ClassId) (x : Nat → Nat) (g : Nat → Nat) (g2 : Nat → Nat) (g3 : Nat → Nat) (h : Nat → Nat) (t : Nat → Nat) (sa : Nat → Nat) (b : Nat → Nat) (c : Nat → Nat) (d : Nat → Nat) (a : Nat → Nat) (Ma : ST) (Fo : ST) (Sc : ST) (Se : ST) (Tr : ST) (r0 : Int32) (Scz : ST) (Sez : ST) (Trz : ST) (hf : fX7_come Ma Fo Sc Se Tr = some (r0, Scz, Sez, Trz)) : CG l yX7_come (wsm yX7_come cX7_come 1 (some .int)) rmX7_come D cs [.ref (x 0)] (some (.int r0)) ((kX7 cs x (.ref (g 0)) (.ref (g2 0)) (.ref (g3 0)) (.ref (h 0)) (.ref (t 0)) (.ref (sa 0)) Ma) ++ (kX2 cs g (.ref (b 0)) (.ref (c 0)) (.ref (d 0)) (.ref (a 0)) ) ++ (kX1 cs b  Fo) ++ (kX3 cs c  Sc) ++ (kX4 cs a (.ref (b 0)) (.ref (c 0)) (.ref (d 0)) Se) ++ (kX4 cs d (.ref (b 0)) (.ref (c 0)) .null Tr)) ((kX7 cs x (.ref (g 0)) (.ref (g2 0)) (.ref (g3 0)) (.ref (h 0)) (.ref (t 0)) (.ref (sa 0)) Ma) ++ (kX2 cs g (.ref (b 0)) (.ref (c 0)) (.ref (d 0)) (.ref (a 0)) ) ++ (kX1 cs b  Fo) ++ (kX3 cs c  Scz) ++ (kX4 cs a (.ref (b 0)) (.ref (c 0)) (.ref (d 0)) Sez) ++ (kX4 cs d (.ref (b 0)) (.ref (c 0)) .null Trz)) := by
  refine CG.intro (by decide) (Nat.le_of_ble_eq_true rfl) ?_
  intro p e s m below meth c A Q hx hb hml hown hu hK hZ hP0 hD0 hS0 hA hri hrz hrl hrv hra ls0 hl0
  have hl : lv_has ls0 1 [(0, .ref (x 0))] := hl0
  have hP := hP0
  have hD := hD0
  have hS := hS0
  unfold fX7_come at hf
  refine lv_aload_n hx hb dX7_come_0 rfl (lv_at hl 0 rfl) ?_
  refine va_get (D := D) (ci := 7) (v := .ref (g 0)) (C := RX7) (T := TX7) (N := 8) hx hb hu inX7 hown hK.1 hP 0 rfl rfl 0 (by decide) (hu _ q300) (fun _ h9 => h9) rfl dX7_come_1 ?_
  refine va_get (D := D) (ci := 2) (v := .ref (a 0)) (C := RX2) (T := TX2) (N := 4) hx hb hu inX2 hown hK.1 hP 2 rfl rfl 3 (by decide) (hu _ q204) (fun _ h9 => h9) rfl dX7_come_4 ?_
  refine lv_iconst (v := 1) hx hb dX7_come_7 (by decide) ?_
  obtain ⟨r1, Se_2, Sc_3, Tr_4, hg5, hf⟩ := b4_el hf
  refine cc_V (w' := ((kX7 cs x (.ref (g 0)) (.ref (g2 0)) (.ref (g3 0)) (.ref (h 0)) (.ref (t 0)) (.ref (sa 0)) Ma) ++ (kX2 cs g (.ref (b 0)) (.ref (c 0)) (.ref (d 0)) (.ref (a 0)) ) ++ (kX1 cs b  Fo) ++ (kX3 cs c  Sc_3) ++ (kX4 cs a (.ref (b 0)) (.ref (c 0)) (.ref (d 0)) Se_2) ++ (kX4 cs d (.ref (b 0)) (.ref (c 0)) .null Tr_4))) (wr := ((kX7 cs x (.ref (g 0)) (.ref (g2 0)) (.ref (g3 0)) (.ref (h 0)) (.ref (t 0)) (.ref (sa 0)) Ma) ++ (kX2 cs g (.ref (b 0)) (.ref (c 0)) (.ref (d 0)) (.ref (a 0)) ))) (st1 := [.int r1]) [.int 1] hx hb hml hown hu (tX4_next l D cs a b c d 1 Se Fo Sc Tr r1 Se_2 Sc_3 Tr_4 hg5) q439 q58 q528 q437 q438 pdX4_next ⟨rfl, rfl, Nat.le_of_ble_eq_true rfl, Nat.le_of_ble_eq_true rfl⟩ hK hZ hP hD hS hA [13, 14, 15, 16, 3, 4, 5, 6, 7, 8, 9, 10, 11, 12, 17, 18, 19, 20] [0, 1, 2] [0, 1, 2, 7, 8, 9, 10, 11, 12, 13, 14, 15, 16, 3, 4, 5, 6, 17, 18, 19, 20] rfl rfl rfl rfl rfl rfl rfl rfl rfl rfl hl.1 rfl (Nat.le_of_ble_eq_true rfl) dX7_come_8 rfl (fun H locs hP hD hS => ?_)
  have he := Option.some.inj hf
  obtain ⟨e0, ht0⟩ := Prod.mk.inj he
  obtain ⟨e1, ht1⟩ := Prod.mk.inj ht0
  obtain ⟨e2, e3⟩ := Prod.mk.inj ht1
  exact hri _ _ _ rfl (congrArg (fun z => some (Value.int z)) e0.symm) dX7_come_11 _ _ _ (by rw [e1, e2, e3]) hP hD hS

def fX7_years_21_s (k21 : Int32 → Int32 → Int32 → ST → ST → ST → ST → ST → Option (Int32 × ST × ST × ST × ST × ST)) (y1 : Int32) (y2 : Int32) (y3 : Int32) (Ma : ST) (Fo : ST) (Sc : ST) (Se : ST) (Tr : ST) : Option (Int32 × ST × ST × ST × ST × ST) :=
  (if y1 ≤ y3 then some (y2, Ma, Fo, Sc, Se, Tr) else dc_b5 (fX4_year Se Fo Sc Tr) (fun r5 Se_6 Fo_7 Sc_8 Tr_9 => (if r5 = 0 then dc_lt (y3 + 1) (fun v12 => k21 y1 y2 v12 Ma Fo_7 Sc_8 Se_6 Tr_9) else dc_lt (y2 + 1) (fun v13 => dc_lt (y3 + 1) (fun v14 => k21 y1 v13 v14 Ma Fo_7 Sc_8 Se_6 Tr_9)))))
def fX7_years_21 : Nat → Int32 → Int32 → Int32 → ST → ST → ST → ST → ST → Option (Int32 × ST × ST × ST × ST × ST)
  | 0 => fun _ _ _ _ _ _ _ _ => none
  | n + 1 => fX7_years_21_s (fX7_years_21 n)
def fX7_years (x1 : Int32) (Ma : ST) (Fo : ST) (Sc : ST) (Se : ST) (Tr : ST) : Option (Int32 × ST × ST × ST × ST × ST) :=
  dc_b1 (fX7_within x1 1 50) (fun r1 => (if r1 = 0 then dc_b2 (fX7_finding (-1000000001) Ma) (fun r15 Ma_16 => some (r15, Ma_16, Fo, Sc, Se, Tr)) else fX7_years_21 400 x1 0 0 Ma Fo Sc Se Tr))
abbrev rmX7_years : Room := { frames := 11, cells := 0, slots := 0, locals := 276 }
set_option maxRecDepth 100000 in
set_option maxHeartbeats 4000000 in
theorem tX7_years (l : Launch) (D : va_G) (cs : Nat → ClassId) (x : Nat → Nat) (g : Nat → Nat) (g2 : Nat → Nat) (g3 : Nat → Nat) (h : Nat → Nat) (t : Nat → Nat) (sa : Nat → Nat) (b : Nat → Nat) (c : Nat → Nat) (d : Nat → Nat) (a : Nat → Nat) (x1 : Int32) (Ma : ST) (Fo : ST) (Sc : ST) (Se : ST) (Tr : ST) (r0 : Int32) (Maz : ST) (Foz : ST) (Scz : ST) (Sez : ST) (Trz : ST) (hf : fX7_years x1 Ma Fo Sc Se Tr = some (r0, Maz, Foz, Scz, Sez, Trz)) : CG l yX7_years (wsm yX7_years cX7_years 4 (some .int)) rmX7_years D cs [.ref (x 0), .int x1] (some (.int r0)) ((kX7 cs x (.ref (g 0)) (.ref (g2 0)) (.ref (g3 0)) (.ref (h 0)) (.ref (t 0)) (.ref (sa 0)) Ma) ++ (kX2 cs g (.ref (b 0)) (.ref (c 0)) (.ref (d 0)) (.ref (a 0)) ) ++ (kX1 cs b  Fo) ++ (kX3 cs c  Sc) ++ (kX4 cs a (.ref (b 0)) (.ref (c 0)) (.ref (d 0)) Se) ++ (kX4 cs d (.ref (b 0)) (.ref (c 0)) .null Tr)) ((kX7 cs x (.ref (g 0)) (.ref (g2 0)) (.ref (g3 0)) (.ref (h 0)) (.ref (t 0)) (.ref (sa 0)) Maz) ++ (kX2 cs g (.ref (b 0)) (.ref (c 0)) (.ref (d 0)) (.ref (a 0)) ) ++ (kX1 cs b  Foz) ++ (kX3 cs c  Scz) ++ (kX4 cs a (.ref (b 0)) (.ref (c 0)) (.ref (d 0)) Sez) ++ (kX4 cs d (.ref (b 0)) (.ref (c 0)) .null Trz)) := by
  refine CG.intro (by decide) (Nat.le_of_ble_eq_true rfl) ?_
  intro p e s m below meth c A Q hx hb hml hown hu hK hZ hP0 hD0 hS0 hA hri hrz hrl hrv hra ls0 hl0
  have hs21 : ∀ (k21 : Int32 → Int32 → Int32 → ST → ST → ST → ST → ST → Option (Int32 × ST × ST × ST × ST × ST)), (∀ (y1 : Int32) (y2 : Int32) (y3 : Int32) (Ma : ST) (Fo : ST) (Sc : ST) (Se : ST) (Tr : ST) (H : Heap) (locs : List Loc) (ls : Array Slot), va_P D vwCl ((kX7 cs x (.ref (g 0)) (.ref (g2 0)) (.ref (g3 0)) (.ref (h 0)) (.ref (t 0)) (.ref (sa 0)) Ma) ++ (kX2 cs g (.ref (b 0)) (.ref (c 0)) (.ref (d 0)) (.ref (a 0)) ) ++ (kX1 cs b  Fo) ++ (kX3 cs c  Sc) ++ (kX4 cs a (.ref (b 0)) (.ref (c 0)) (.ref (d 0)) Se) ++ (kX4 cs d (.ref (b 0)) (.ref (c 0)) .null Tr)) H → va_D A ((kX7 cs x (.ref (g 0)) (.ref (g2 0)) (.ref (g3 0)) (.ref (h 0)) (.ref (t 0)) (.ref (sa 0)) Ma) ++ (kX2 cs g (.ref (b 0)) (.ref (c 0)) (.ref (d 0)) (.ref (a 0)) ) ++ (kX1 cs b  Fo) ++ (kX3 cs c  Sc) ++ (kX4 cs a (.ref (b 0)) (.ref (c 0)) (.ref (d 0)) Se) ++ (kX4 cs d (.ref (b 0)) (.ref (c 0)) .null Tr)) → va_S A s.heap H locs → lv_has ls 4 [(0, .ref (x 0)), (1, .int y1), (2, .int y2), (3, .int y3)] → k21 y1 y2 y3 Ma Fo Sc Se Tr = some (r0, Maz, Foz, Scz, Sez, Trz) → W p l e rmX7_years s m [.ref (x 0), .int x1].toArray below meth c H locs 0 0 Q (F0 m 21 ls [])) → ∀ (y1 : Int32) (y2 : Int32) (y3 : Int32) (Ma : ST) (Fo : ST) (Sc : ST) (Se : ST) (Tr : ST) (H : Heap) (locs : List Loc) (ls : Array Slot), va_P D vwCl ((kX7 cs x (.ref (g 0)) (.ref (g2 0)) (.ref (g3 0)) (.ref (h 0)) (.ref (t 0)) (.ref (sa 0)) Ma) ++ (kX2 cs g (.ref (b 0)) (.ref (c 0)) (.ref (d 0)) (.ref (a 0)) ) ++ (kX1 cs b  Fo) ++ (kX3 cs c  Sc) ++ (kX4 cs a (.ref (b 0)) (.ref (c 0)) (.ref (d 0)) Se) ++ (kX4 cs d (.ref (b 0)) (.ref (c 0)) .null Tr)) H → va_D A ((kX7 cs x (.ref (g 0)) (.ref (g2 0)) (.ref (g3 0)) (.ref (h 0)) (.ref (t 0)) (.ref (sa 0)) Ma) ++ (kX2 cs g (.ref (b 0)) (.ref (c 0)) (.ref (d 0)) (.ref (a 0)) ) ++ (kX1 cs b  Fo) ++ (kX3 cs c  Sc) ++ (kX4 cs a (.ref (b 0)) (.ref (c 0)) (.ref (d 0)) Se) ++ (kX4 cs d (.ref (b 0)) (.ref (c 0)) .null Tr)) → va_S A s.heap H locs → lv_has ls 4 [(0, .ref (x 0)), (1, .int y1), (2, .int y2), (3, .int y3)] → fX7_years_21_s k21 y1 y2 y3 Ma Fo Sc Se Tr = some (r0, Maz, Foz, Scz, Sez, Trz) → W p l e rmX7_years s m [.ref (x 0), .int x1].toArray below meth c H locs 0 0 Q (F0 m 21 ls []) := by
    intro k21 hk21 y1 y2 y3 Ma Fo Sc Se Tr H locs ls hP hD hS hl hf
    unfold fX7_years_21_s at hf
    refine lv_iload_n hx hb dX7_years_21 rfl (lv_at hl 3 rfl) ?_
    refine lv_iload_n hx hb dX7_years_22 rfl (lv_at hl 1 rfl) ?_
    refine lv_icmp_ge (tgt := 48) hx hb dX7_years_23 (by decide) (fun hc4 => ?_) (fun hc4 => ?_)
    · have hf := ip_el hc4 hf
      refine lv_iload_n hx hb dX7_years_48 rfl (lv_at hl 2 rfl) ?_
      have he := Option.some.inj hf
      obtain ⟨e0, ht0⟩ := Prod.mk.inj he
      obtain ⟨e1, ht1⟩ := Prod.mk.inj ht0
      obtain ⟨e2, ht2⟩ := Prod.mk.inj ht1
      obtain ⟨e3, ht3⟩ := Prod.mk.inj ht2
      obtain ⟨e4, e5⟩ := Prod.mk.inj ht3
      exact hri _ _ _ rfl (congrArg (fun z => some (Value.int z)) e0.symm) dX7_years_49 _ _ _ (by rw [e1, e2, e3, e4, e5]) hP hD hS
    · have hf := in_el hc4 hf
      refine lv_aload_n hx hb dX7_years_26 rfl (lv_at hl 0 rfl) ?_
      refine va_get (D := D) (ci := 7) (v := .ref (g 0)) (C := RX7) (T := TX7) (N := 8) hx hb hu inX7 hown hK.1 hP 0 rfl rfl 0 (by decide) (hu _ q300) (fun _ h9 => h9) rfl dX7_years_27 ?_
      refine va_get (D := D) (ci := 2) (v := .ref (a 0)) (C := RX2) (T := TX2) (N := 4) hx hb hu inX2 hown hK.1 hP 2 rfl rfl 3 (by decide) (hu _ q204) (fun _ h9 => h9) rfl dX7_years_30 ?_
      obtain ⟨r5, Se_6, Fo_7, Sc_8, Tr_9, hg10, hf⟩ := b5_el hf
      refine cc_V (w' := ((kX7 cs x (.ref (g 0)) (.ref (g2 0)) (.ref (g3 0)) (.ref (h 0)) (.ref (t 0)) (.ref (sa 0)) Ma) ++ (kX2 cs g (.ref (b 0)) (.ref (c 0)) (.ref (d 0)) (.ref (a 0)) ) ++ (kX1 cs b  Fo_7) ++ (kX3 cs c  Sc_8) ++ (kX4 cs a (.ref (b 0)) (.ref (c 0)) (.ref (d 0)) Se_6) ++ (kX4 cs d (.ref (b 0)) (.ref (c 0)) .null Tr_9))) (wr := ((kX7 cs x (.ref (g 0)) (.ref (g2 0)) (.ref (g3 0)) (.ref (h 0)) (.ref (t 0)) (.ref (sa 0)) Ma) ++ (kX2 cs g (.ref (b 0)) (.ref (c 0)) (.ref (d 0)) (.ref (a 0)) ))) (st1 := [.int r5]) [] hx hb hml hown hu (tX4_year l D cs a b c d Se Fo Sc Tr r5 Se_6 Fo_7 Sc_8 Tr_9 hg10) q536 q58 q533 q534 q535 pdX4_year ⟨rfl, rfl, Nat.le_of_ble_eq_true rfl, Nat.le_of_ble_eq_true rfl⟩ hK hZ hP hD hS hA [13, 14, 15, 16, 3, 4, 5, 6, 7, 8, 9, 10, 11, 12, 17, 18, 19, 20] [0, 1, 2] [0, 1, 2, 7, 8, 9, 10, 11, 12, 13, 14, 15, 16, 3, 4, 5, 6, 17, 18, 19, 20] rfl rfl rfl rfl rfl rfl rfl rfl rfl rfl hl.1 rfl (Nat.le_of_ble_eq_true rfl) dX7_years_33 rfl (fun H locs hP hD hS => ?_)
      refine lv_if_eq (tgt := 42) hx hb dX7_years_36 (by decide) (fun hc11 => ?_) (fun hc11 => ?_)
      · have hf := ip_el hc11 hf
        obtain ⟨v12, hv12, hf⟩ := lt_el hf
        refine lv_iinc (v := v12) (lv' := [(3, .int v12), (0, .ref (x 0)), (1, .int y1), (2, .int y2)]) hx hb dX7_years_42 hl (k := 3) rfl (by rw [hv12]; rfl) (by decide) rfl (fun ls hl => ?_)
        refine lv_goto (tgt := 21) hx hb dX7_years_45 (by decide) ?_
        exact hk21 y1 y2 v12 Ma Fo_7 Sc_8 Se_6 Tr_9 _ _ _ hP hD hS (lv_sub hl [1, 2, 3, 0] rfl) hf
      · have hf := in_el hc11 hf
        obtain ⟨v13, hv13, hf⟩ := lt_el hf
        refine lv_iinc (v := v13) (lv' := [(2, .int v13), (0, .ref (x 0)), (1, .int y1), (3, .int y3)]) hx hb dX7_years_39 hl (k := 2) rfl (by rw [hv13]; rfl) (by decide) rfl (fun ls hl => ?_)
        obtain ⟨v14, hv14, hf⟩ := lt_el hf
        refine lv_iinc (v := v14) (lv' := [(3, .int v14), (2, .int v13), (0, .ref (x 0)), (1, .int y1)]) hx hb dX7_years_42 hl (k := 3) rfl (by rw [hv14]; rfl) (by decide) rfl (fun ls hl => ?_)
        refine lv_goto (tgt := 21) hx hb dX7_years_45 (by decide) ?_
        exact hk21 y1 v13 v14 Ma Fo_7 Sc_8 Se_6 Tr_9 _ _ _ hP hD hS (lv_sub hl [2, 3, 1, 0] rfl) hf
  have h21 : ∀ (n : Nat), ∀ (y1 : Int32) (y2 : Int32) (y3 : Int32) (Ma : ST) (Fo : ST) (Sc : ST) (Se : ST) (Tr : ST) (H : Heap) (locs : List Loc) (ls : Array Slot), va_P D vwCl ((kX7 cs x (.ref (g 0)) (.ref (g2 0)) (.ref (g3 0)) (.ref (h 0)) (.ref (t 0)) (.ref (sa 0)) Ma) ++ (kX2 cs g (.ref (b 0)) (.ref (c 0)) (.ref (d 0)) (.ref (a 0)) ) ++ (kX1 cs b  Fo) ++ (kX3 cs c  Sc) ++ (kX4 cs a (.ref (b 0)) (.ref (c 0)) (.ref (d 0)) Se) ++ (kX4 cs d (.ref (b 0)) (.ref (c 0)) .null Tr)) H → va_D A ((kX7 cs x (.ref (g 0)) (.ref (g2 0)) (.ref (g3 0)) (.ref (h 0)) (.ref (t 0)) (.ref (sa 0)) Ma) ++ (kX2 cs g (.ref (b 0)) (.ref (c 0)) (.ref (d 0)) (.ref (a 0)) ) ++ (kX1 cs b  Fo) ++ (kX3 cs c  Sc) ++ (kX4 cs a (.ref (b 0)) (.ref (c 0)) (.ref (d 0)) Se) ++ (kX4 cs d (.ref (b 0)) (.ref (c 0)) .null Tr)) → va_S A s.heap H locs → lv_has ls 4 [(0, .ref (x 0)), (1, .int y1), (2, .int y2), (3, .int y3)] → fX7_years_21 n y1 y2 y3 Ma Fo Sc Se Tr = some (r0, Maz, Foz, Scz, Sez, Trz) → W p l e rmX7_years s m [.ref (x 0), .int x1].toArray below meth c H locs 0 0 Q (F0 m 21 ls []) := by
    intro n
    induction n with
    | zero => intro y1 y2 y3 Ma Fo Sc Se Tr H locs ls hP hD hS hl hf; exact no_el hf
    | succ n ih => intro y1 y2 y3 Ma Fo Sc Se Tr H locs ls hP hD hS hl hf; exact hs21 _ ih y1 y2 y3 Ma Fo Sc Se Tr _ _ _ hP hD hS hl hf
  have hl : lv_has ls0 4 [(0, .ref (x 0)), (1, .int x1)] := hl0
  have hP := hP0
  have hD := hD0
  have hS := hS0
  unfold fX7_years at hf
  refine lv_iload_n hx hb dX7_years_0 rfl (lv_at hl 1 rfl) ?_
  refine lv_iconst (v := 1) hx hb dX7_years_1 (by decide) ?_
  refine lv_bipush (v := 50) hx hb dX7_years_2 (by decide) ?_
  obtain ⟨r1, hg2, hf⟩ := b1_el hf
  refine cc_S0 (st1 := [.int r1]) [.int x1, .int 1, .int 50] hx hb hml hown hu (tX7_within l D cs x1 1 50 r1 hg2) q331 q54 q329 q330 pdX7_within ⟨rfl, rfl, Nat.le_of_ble_eq_true rfl, Nat.le_of_ble_eq_true rfl⟩ hK hZ hP hD hS hA rfl hl.1 rfl (Nat.le_of_ble_eq_true rfl) dX7_years_4 rfl (fun H locs hP hD hS => ?_)
  refine lv_if_ne (tgt := 17) hx hb dX7_years_7 (by decide) (fun hc3 => ?_) (fun hc3 => ?_)
  · have hf := in_el hc3 hf
    refine lv_iconst (v := 0) hx hb dX7_years_17 (by decide) ?_
    refine lv_istore_n (lv' := [(2, .int 0), (0, .ref (x 0)), (1, .int x1)]) hx hb dX7_years_18 rfl hl (by decide) rfl (fun ls hl => ?_)
    refine lv_iconst (v := 0) hx hb dX7_years_19 (by decide) ?_
    refine lv_istore_n (lv' := [(3, .int 0), (2, .int 0), (0, .ref (x 0)), (1, .int x1)]) hx hb dX7_years_20 rfl hl (by decide) rfl (fun ls hl => ?_)
    exact h21 400 x1 0 0 Ma Fo Sc Se Tr _ _ _ hP hD hS (lv_sub hl [2, 3, 1, 0] rfl) hf
  · have hf := ip_el hc3 hf
    refine lv_aload_n hx hb dX7_years_10 rfl (lv_at hl 0 rfl) ?_
    refine lv_ldc (v := (-1000000001)) hx hb hown (hu _ q335) dX7_years_11 ?_
    obtain ⟨r15, Ma_16, hg17, hf⟩ := b2_el hf
    refine cc_V (w' := ((kX7 cs x (.ref (g 0)) (.ref (g2 0)) (.ref (g3 0)) (.ref (h 0)) (.ref (t 0)) (.ref (sa 0)) Ma_16) ++ (kX2 cs g (.ref (b 0)) (.ref (c 0)) (.ref (d 0)) (.ref (a 0)) ) ++ (kX1 cs b  Fo) ++ (kX3 cs c  Sc) ++ (kX4 cs a (.ref (b 0)) (.ref (c 0)) (.ref (d 0)) Se) ++ (kX4 cs d (.ref (b 0)) (.ref (c 0)) .null Tr))) (wr := ((kX2 cs g (.ref (b 0)) (.ref (c 0)) (.ref (d 0)) (.ref (a 0)) ) ++ (kX1 cs b  Fo) ++ (kX3 cs c  Sc) ++ (kX4 cs a (.ref (b 0)) (.ref (c 0)) (.ref (d 0)) Se) ++ (kX4 cs d (.ref (b 0)) (.ref (c 0)) .null Tr))) (st1 := [.int r15]) [.int (-1000000001)] hx hb hml hown hu (tX7_finding l D cs x g g2 g3 h t sa (-1000000001) Ma r15 Ma_16 hg17) q339 q54 q336 q338 q0 pdX7_finding ⟨rfl, rfl, Nat.le_of_ble_eq_true rfl, Nat.le_of_ble_eq_true rfl⟩ hK hZ hP hD hS hA [0, 1] [2, 3, 4, 5, 6, 7, 8, 9, 10, 11, 12, 13, 14, 15, 16, 17, 18, 19, 20] [19, 20, 0, 1, 2, 3, 4, 5, 6, 7, 8, 9, 10, 11, 12, 13, 14, 15, 16, 17, 18] rfl rfl rfl rfl rfl rfl rfl rfl rfl rfl hl.1 rfl (Nat.le_of_ble_eq_true rfl) dX7_years_13 rfl (fun H locs hP hD hS => ?_)
    have he := Option.some.inj hf
    obtain ⟨e0, ht0⟩ := Prod.mk.inj he
    obtain ⟨e1, ht1⟩ := Prod.mk.inj ht0
    obtain ⟨e2, ht2⟩ := Prod.mk.inj ht1
    obtain ⟨e3, ht3⟩ := Prod.mk.inj ht2
    obtain ⟨e4, e5⟩ := Prod.mk.inj ht3
    exact hri _ _ _ rfl (congrArg (fun z => some (Value.int z)) e0.symm) dX7_years_16 _ _ _ (by rw [e1, e2, e3, e4, e5]) hP hD hS

def fX7_seed (x1 : Int32) (Ma : ST) (Fo : ST) : Option (Int32 × ST) :=
  dc_lt (Fo 0 8) (fun v1 => dc_lt (sti Fo 0 8 x1) (fun Fo_2 => some (v1, Fo_2)))
abbrev rmX7_seed : Room := { frames := 0, cells := 0, slots := 0, locals := 0 }
set_option maxRecDepth 100000 in
set_option maxHeartbeats 4000000 in
theorem tX7_seed (l : Launch) (D : va_G) (cs : Nat → ClassId) (x : Nat → Nat) (g : Nat → Nat) (g2 : Nat → Nat) (g3 : Nat → Nat) (h : Nat → Nat) (t : Nat → Nat) (sa : Nat → Nat) (b : Nat → Nat) (c : Nat → Nat) (d : Nat → Nat) (a : Nat → Nat) (x1 : Int32) (Ma : ST) (Fo : ST) (r0 : Int32) (Foz : ST) (hf : fX7_seed x1 Ma Fo = some (r0, Foz)) : CG l yX7_seed (wsm yX7_seed cX7_seed 3 (some .int)) rmX7_seed D cs [.ref (x 0), .int x1] (some (.int r0)) ((kX7 cs x (.ref (g 0)) (.ref (g2 0)) (.ref (g3 0)) (.ref (h 0)) (.ref (t 0)) (.ref (sa 0)) Ma) ++ (kX2 cs g (.ref (b 0)) (.ref (c 0)) (.ref (d 0)) (.ref (a 0)) ) ++ (kX1 cs b  Fo)) ((kX7 cs x (.ref (g 0)) (.ref (g2 0)) (.ref (g3 0)) (.ref (h 0)) (.ref (t 0)) (.ref (sa 0)) Ma) ++ (kX2 cs g (.ref (b 0)) (.ref (c 0)) (.ref (d 0)) (.ref (a 0)) ) ++ (kX1 cs b  Foz)) := by
  refine CG.intro (by decide) (Nat.le_of_ble_eq_true rfl) ?_
  intro p e s m below meth c A Q hx hb hml hown hu hK hZ hP0 hD0 hS0 hA hri hrz hrl hrv hra ls0 hl0
  have hl : lv_has ls0 3 [(0, .ref (x 0)), (1, .int x1)] := hl0
  have hP := hP0
  have hD := hD0
  have hS := hS0
  unfold fX7_seed at hf
  refine lv_aload_n hx hb dX7_seed_0 rfl (lv_at hl 0 rfl) ?_
  refine va_get (D := D) (ci := 7) (v := .ref (g 0)) (C := RX7) (T := TX7) (N := 8) hx hb hu inX7 hown hK.1 hP 0 rfl rfl 0 (by decide) (hu _ q300) (fun _ h9 => h9) rfl dX7_seed_1 ?_
  refine va_get (D := D) (ci := 2) (v := .ref (b 0)) (C := RX2) (T := TX2) (N := 4) hx hb hu inX2 hown hK.1 hP 2 rfl rfl 0 (by decide) (hu _ q196) (fun _ h9 => h9) rfl dX7_seed_4 ?_
  refine va_get (D := D) (ci := 1) (v := .int (Fo 0 8)) (C := RX1) (T := TX1) (N := 9) hx hb hu inX1 hown hK.1 hP 3 rfl rfl 8 (by decide) (hu _ q113) (fun _ h9 => h9) rfl dX7_seed_7 ?_
  obtain ⟨v1, hv1, hf⟩ := lt_el hf
  refine lv_tope hv1 ?_
  refine lv_istore_n (lv' := [(2, .int v1), (0, .ref (x 0)), (1, .int x1)]) hx hb dX7_seed_10 rfl hl (by decide) rfl (fun ls hl => ?_)
  refine lv_aload_n hx hb dX7_seed_11 rfl (lv_at hl 1 rfl) ?_
  refine va_get (D := D) (ci := 7) (v := .ref (g 0)) (C := RX7) (T := TX7) (N := 8) hx hb hu inX7 hown hK.1 hP 0 rfl rfl 0 (by decide) (hu _ q300) (fun _ h9 => h9) rfl dX7_seed_12 ?_
  refine va_get (D := D) (ci := 2) (v := .ref (b 0)) (C := RX2) (T := TX2) (N := 4) hx hb hu inX2 hown hK.1 hP 2 rfl rfl 0 (by decide) (hu _ q196) (fun _ h9 => h9) rfl dX7_seed_15 ?_
  refine lv_iload_n hx hb dX7_seed_18 rfl (lv_at hl 2 rfl) ?_
  obtain ⟨Fo_2, hFo_2, hf⟩ := lt_el hf
  refine va_put (D := D) (ci := 1) (v := .int x1) (ty := .int) (C := RX1) (T := TX1) (N := 9) hx hb hu inX1 tyX1 tyX1_ok nmX1 hown hK.1 hP hD hS 3 rfl rfl 8 (by decide) (hu _ q113) (fun _ h9 => h9) rfl (by decide +kernel) rfl rfl (Nat.le_of_ble_eq_true rfl) dX7_seed_19 (fun H locs hP hD hS => ?_)
  have hP : va_P D vwCl ((kX7 cs x (.ref (g 0)) (.ref (g2 0)) (.ref (g3 0)) (.ref (h 0)) (.ref (t 0)) (.ref (sa 0)) Ma) ++ (kX2 cs g (.ref (b 0)) (.ref (c 0)) (.ref (d 0)) (.ref (a 0)) ) ++ (kX1 cs b  Fo_2)) H := by rw [hFo_2]; exact hP
  have hD : va_D A ((kX7 cs x (.ref (g 0)) (.ref (g2 0)) (.ref (g3 0)) (.ref (h 0)) (.ref (t 0)) (.ref (sa 0)) Ma) ++ (kX2 cs g (.ref (b 0)) (.ref (c 0)) (.ref (d 0)) (.ref (a 0)) ) ++ (kX1 cs b  Fo_2)) := by rw [hFo_2]; exact hD
  refine lv_iload_n hx hb dX7_seed_22 rfl (lv_at hl 0 rfl) ?_
  have he := Option.some.inj hf
  obtain ⟨e0, e1⟩ := Prod.mk.inj he
  exact hri _ _ _ rfl (congrArg (fun z => some (Value.int z)) e0.symm) dX7_seed_23 _ _ _ (by rw [e1]) hP hD hS

def fX7_now_46 (Se : ST) (Ma : ST) : Option (Int32 × ST) :=
  dc_b2 (fX7_finding (-1000000001) Ma) (fun r4 Ma_5 => some (r4, Ma_5))
def fX7_now (x1 : Int32) (Ma : ST) (Se : ST) : Option (Int32 × ST) :=
  (if x1 = 0 then some ((Se 0 6), Ma) else (if x1 = 1 then some ((Se 0 7), Ma) else (if x1 < 2 then fX7_now_46 Se Ma else dc_b1 (fX7_isPlace (x1 - 2) Ma Se) (fun r7 => (if r7 = 0 then fX7_now_46 Se Ma else dc_ck (x1 - 2) 4 (some ((Se 5 (Int32.toNatClampNeg (x1 - 2))), Ma)))))))
abbrev rmX7_now : Room := { frames := 2, cells := 0, slots := 0, locals := 43 }
set_option maxRecDepth 100000 in
set_option maxHeartbeats 4000000 in
theorem tX7_now (l : Launch) (D : va_G) (cs : Nat → ClassId) (x : Nat → Nat) (g : Nat → Nat) (g2 : Nat → Nat) (g3 : Nat → Nat) (h : Nat → Nat) (t : Nat → Nat) (sa : Nat → Nat) (b : Nat → Nat) (c : Nat → Nat) (d : Nat → Nat) (a : Nat → Nat) (x1 : Int32) (Ma : ST) (Se : ST) (r0 : Int32) (Maz : ST) (hf : fX7_now x1 Ma Se = some (r0, Maz)) : CG l yX7_now (wsm yX7_now cX7_now 2 (some .int)) rmX7_now D cs [.ref (x 0), .int x1] (some (.int r0)) ((kX7 cs x (.ref (g 0)) (.ref (g2 0)) (.ref (g3 0)) (.ref (h 0)) (.ref (t 0)) (.ref (sa 0)) Ma) ++ (kX2 cs g (.ref (b 0)) (.ref (c 0)) (.ref (d 0)) (.ref (a 0)) ) ++ (kX4 cs a (.ref (b 0)) (.ref (c 0)) (.ref (d 0)) Se)) ((kX7 cs x (.ref (g 0)) (.ref (g2 0)) (.ref (g3 0)) (.ref (h 0)) (.ref (t 0)) (.ref (sa 0)) Maz) ++ (kX2 cs g (.ref (b 0)) (.ref (c 0)) (.ref (d 0)) (.ref (a 0)) ) ++ (kX4 cs a (.ref (b 0)) (.ref (c 0)) (.ref (d 0)) Se)) := by
  refine CG.intro (by decide) (Nat.le_of_ble_eq_true rfl) ?_
  intro p e s m below meth c A Q hx hb hml hown hu hK hZ hP0 hD0 hS0 hA hri hrz hrl hrv hra ls0 hl0
  have h46 : ∀ (Ma : ST) (H : Heap) (locs : List Loc) (ls : Array Slot), va_P D vwCl ((kX7 cs x (.ref (g 0)) (.ref (g2 0)) (.ref (g3 0)) (.ref (h 0)) (.ref (t 0)) (.ref (sa 0)) Ma) ++ (kX2 cs g (.ref (b 0)) (.ref (c 0)) (.ref (d 0)) (.ref (a 0)) ) ++ (kX4 cs a (.ref (b 0)) (.ref (c 0)) (.ref (d 0)) Se)) H → va_D A ((kX7 cs x (.ref (g 0)) (.ref (g2 0)) (.ref (g3 0)) (.ref (h 0)) (.ref (t 0)) (.ref (sa 0)) Ma) ++ (kX2 cs g (.ref (b 0)) (.ref (c 0)) (.ref (d 0)) (.ref (a 0)) ) ++ (kX4 cs a (.ref (b 0)) (.ref (c 0)) (.ref (d 0)) Se)) → va_S A s.heap H locs → lv_has ls 2 [(0, .ref (x 0))] → fX7_now_46 Se Ma = some (r0, Maz) → W p l e rmX7_now s m [.ref (x 0), .int x1].toArray below meth c H locs 0 0 Q (F0 m 46 ls []) := by
    intro Ma H locs ls hP hD hS hl hf
    unfold fX7_now_46 at hf
    refine lv_aload_n hx hb dX7_now_46 rfl (lv_at hl 0 rfl) ?_
    refine lv_ldc (v := (-1000000001)) hx hb hown (hu _ q335) dX7_now_47 ?_
    obtain ⟨r4, Ma_5, hg6, hf⟩ := b2_el hf
    refine cc_V (w' := ((kX7 cs x (.ref (g 0)) (.ref (g2 0)) (.ref (g3 0)) (.ref (h 0)) (.ref (t 0)) (.ref (sa 0)) Ma_5) ++ (kX2 cs g (.ref (b 0)) (.ref (c 0)) (.ref (d 0)) (.ref (a 0)) ) ++ (kX4 cs a (.ref (b 0)) (.ref (c 0)) (.ref (d 0)) Se))) (wr := ((kX2 cs g (.ref (b 0)) (.ref (c 0)) (.ref (d 0)) (.ref (a 0)) ) ++ (kX4 cs a (.ref (b 0)) (.ref (c 0)) (.ref (d 0)) Se))) (st1 := [.int r4]) [.int (-1000000001)] hx hb hml hown hu (tX7_finding l D cs x g g2 g3 h t sa (-1000000001) Ma r4 Ma_5 hg6) q339 q54 q336 q338 q0 pdX7_finding ⟨rfl, rfl, Nat.le_of_ble_eq_true rfl, Nat.le_of_ble_eq_true rfl⟩ hK hZ hP hD hS hA [0, 1] [2, 3, 4, 5, 6] [5, 6, 0, 1, 2, 3, 4] rfl rfl rfl rfl rfl rfl rfl rfl rfl rfl hl.1 rfl (Nat.le_of_ble_eq_true rfl) dX7_now_49 rfl (fun H locs hP hD hS => ?_)
    have he := Option.some.inj hf
    obtain ⟨e0, e1⟩ := Prod.mk.inj he
    exact hri _ _ _ rfl (congrArg (fun z => some (Value.int z)) e0.symm) dX7_now_52 _ _ _ (by rw [e1]) hP hD hS
  have hl : lv_has ls0 2 [(0, .ref (x 0)), (1, .int x1)] := hl0
  have hP := hP0
  have hD := hD0
  have hS := hS0
  unfold fX7_now at hf
  refine lv_iload_n hx hb dX7_now_0 rfl (lv_at hl 1 rfl) ?_
  refine lv_if_ne (tgt := 15) hx hb dX7_now_1 (by decide) (fun hc1 => ?_) (fun hc1 => ?_)
  · have hf := in_el hc1 hf
    refine lv_iload_n hx hb dX7_now_15 rfl (lv_at hl 1 rfl) ?_
    refine lv_iconst (v := 1) hx hb dX7_now_16 (by decide) ?_
    refine lv_icmp_ne (tgt := 31) hx hb dX7_now_17 (by decide) (fun hc2 => ?_) (fun hc2 => ?_)
    · have hf := in_el hc2 hf
      refine lv_iload_n hx hb dX7_now_31 rfl (lv_at hl 1 rfl) ?_
      refine lv_iconst (v := 2) hx hb dX7_now_32 (by decide) ?_
      refine lv_icmp_lt (tgt := 46) hx hb dX7_now_33 (by decide) (fun hc3 => ?_) (fun hc3 => ?_)
      · have hf := ip_el hc3 hf
        exact h46 Ma _ _ _ hP hD hS (lv_sub hl [0] rfl) hf
      · have hf := in_el hc3 hf
        refine lv_aload_n hx hb dX7_now_36 rfl (lv_at hl 0 rfl) ?_
        refine lv_iload_n hx hb dX7_now_37 rfl (lv_at hl 1 rfl) ?_
        refine lv_iconst (v := 2) hx hb dX7_now_38 (by decide) ?_
        refine lv_isub hx hb dX7_now_39 ?_
        obtain ⟨r7, hg8, hf⟩ := b1_el hf
        refine cc_V1 (w' := ((kX7 cs x (.ref (g 0)) (.ref (g2 0)) (.ref (g3 0)) (.ref (h 0)) (.ref (t 0)) (.ref (sa 0)) Ma) ++ (kX2 cs g (.ref (b 0)) (.ref (c 0)) (.ref (d 0)) (.ref (a 0)) ) ++ (kX4 cs a (.ref (b 0)) (.ref (c 0)) (.ref (d 0)) Se))) (st1 := [.int r7]) [.int (x1 - 2)] hx hb hml hown hu (tX7_isPlace l D cs x g g2 g3 h t sa b c d a (x1 - 2) Ma Se r7 hg8) q508 q54 q505 q507 q6 pdX7_isPlace ⟨rfl, rfl, Nat.le_of_ble_eq_true rfl, Nat.le_of_ble_eq_true rfl⟩ hK hZ hP hD hS hA rfl rfl rfl rfl hl.1 rfl (Nat.le_of_ble_eq_true rfl) dX7_now_40 rfl (fun H locs hP hD hS => ?_)
        refine lv_if_ne (tgt := 53) hx hb dX7_now_43 (by decide) (fun hc9 => ?_) (fun hc9 => ?_)
        · have hf := in_el hc9 hf
          refine lv_aload_n hx hb dX7_now_53 rfl (lv_at hl 0 rfl) ?_
          refine va_get (D := D) (ci := 7) (v := .ref (g 0)) (C := RX7) (T := TX7) (N := 8) hx hb hu inX7 hown hK.1 hP 0 rfl rfl 0 (by decide) (hu _ q300) (fun _ h9 => h9) rfl dX7_now_54 ?_
          refine va_get (D := D) (ci := 2) (v := .ref (a 0)) (C := RX2) (T := TX2) (N := 4) hx hb hu inX2 hown hK.1 hP 2 rfl rfl 3 (by decide) (hu _ q204) (fun _ h9 => h9) rfl dX7_now_57 ?_
          refine va_get (D := D) (ci := 4) (v := .ref (a 5)) (C := RX4) (T := TX4) (N := 10) hx hb hu inX4 hown hK.1 hP 3 rfl rfl 4 (by decide) (hu _ q164) (fun _ h9 => h9) rfl dX7_now_60 ?_
          refine lv_iload_n hx hb dX7_now_63 rfl (lv_at hl 1 rfl) ?_
          refine lv_iconst (v := 2) hx hb dX7_now_64 (by decide) ?_
          refine lv_isub hx hb dX7_now_65 ?_
          obtain ⟨hi10, hf⟩ := ck_el hf
          refine va_iald hx hb hK.1 hP 5 0 rfl rfl hi10 dX7_now_66 ?_
          have he := Option.some.inj hf
          obtain ⟨e0, e1⟩ := Prod.mk.inj he
          exact hri _ _ _ rfl (congrArg (fun z => some (Value.int z)) e0.symm) dX7_now_67 _ _ _ (by rw [e1]) hP hD hS
        · have hf := ip_el hc9 hf
          exact h46 Ma _ _ _ hP hD hS (lv_sub hl [0] rfl) hf
    · have hf := ip_el hc2 hf
      refine lv_aload_n hx hb dX7_now_20 rfl (lv_at hl 0 rfl) ?_
      refine va_get (D := D) (ci := 7) (v := .ref (g 0)) (C := RX7) (T := TX7) (N := 8) hx hb hu inX7 hown hK.1 hP 0 rfl rfl 0 (by decide) (hu _ q300) (fun _ h9 => h9) rfl dX7_now_21 ?_
      refine va_get (D := D) (ci := 2) (v := .ref (a 0)) (C := RX2) (T := TX2) (N := 4) hx hb hu inX2 hown hK.1 hP 2 rfl rfl 3 (by decide) (hu _ q204) (fun _ h9 => h9) rfl dX7_now_24 ?_
      refine va_get (D := D) (ci := 4) (v := .int (Se 0 7)) (C := RX4) (T := TX4) (N := 10) hx hb hu inX4 hown hK.1 hP 3 rfl rfl 7 (by decide) (hu _ q170) (fun _ h9 => h9) rfl dX7_now_27 ?_
      have he := Option.some.inj hf
      obtain ⟨e0, e1⟩ := Prod.mk.inj he
      exact hri _ _ _ rfl (congrArg (fun z => some (Value.int z)) e0.symm) dX7_now_30 _ _ _ (by rw [e1]) hP hD hS
  · have hf := ip_el hc1 hf
    refine lv_aload_n hx hb dX7_now_4 rfl (lv_at hl 0 rfl) ?_
    refine va_get (D := D) (ci := 7) (v := .ref (g 0)) (C := RX7) (T := TX7) (N := 8) hx hb hu inX7 hown hK.1 hP 0 rfl rfl 0 (by decide) (hu _ q300) (fun _ h9 => h9) rfl dX7_now_5 ?_
    refine va_get (D := D) (ci := 2) (v := .ref (a 0)) (C := RX2) (T := TX2) (N := 4) hx hb hu inX2 hown hK.1 hP 2 rfl rfl 3 (by decide) (hu _ q204) (fun _ h9 => h9) rfl dX7_now_8 ?_
    refine va_get (D := D) (ci := 4) (v := .int (Se 0 6)) (C := RX4) (T := TX4) (N := 10) hx hb hu inX4 hown hK.1 hP 3 rfl rfl 6 (by decide) (hu _ q168) (fun _ h9 => h9) rfl dX7_now_11 ?_
    have he := Option.some.inj hf
    obtain ⟨e0, e1⟩ := Prod.mk.inj he
    exact hri _ _ _ rfl (congrArg (fun z => some (Value.int z)) e0.symm) dX7_now_14 _ _ _ (by rw [e1]) hP hD hS

def fX7_ahead_25_s (Fo : ST) (Se : ST) (Ch : ST) (k25 : Int32 → Int32 → Int32 → ST → ST → ST → ST → Option (Int32 × ST × ST × ST × ST)) (y1 : Int32) (y2 : Int32) (y3 : Int32) (Ma : ST) (Sc : ST) (Tr : ST) (Us : ST) : Option (Int32 × ST × ST × ST × ST) :=
  (if y1 ≤ y3 then some (y2, Ma, Sc, Tr, Us) else dc_b4 (fX4_next 1 Us Fo Sc Tr) (fun r7 Us_8 Sc_9 Tr_10 => dc_lt (y3 + 1) (fun v12 => k25 y1 r7 v12 Ma Sc_9 Tr_10 Us_8)))
def fX7_ahead_25 (Fo : ST) (Se : ST) (Ch : ST) : Nat → Int32 → Int32 → Int32 → ST → ST → ST → ST → Option (Int32 × ST × ST × ST × ST)
  | 0 => fun _ _ _ _ _ _ _ => none
  | n + 1 => fX7_ahead_25_s Fo Se Ch (fX7_ahead_25 Fo Se Ch n)
def fX7_ahead (x1 : Int32) (Ma : ST) (Fo : ST) (Sc : ST) (Se : ST) (Tr : ST) (Ch : ST) (Us : ST) : Option (Int32 × ST × ST × ST × ST) :=
  dc_b1 (fX7_isChairs x1) (fun r1 => (if r1 = 0 then dc_b2 (fX7_finding (-1000000001) Ma) (fun r13 Ma_14 => some (r13, Ma_14, Sc, Tr, Us)) else dc_b1 (fX0_start Ch Se Us) (fun Us_4 => fX7_ahead_25 Fo Se Ch 400 x1 (-1) 0 Ma Sc Tr Us_4)))
abbrev rmX7_ahead : Room := { frames := 10, cells := 0, slots := 0, locals := 256 }
set_option maxRecDepth 100000 in
set_option maxHeartbeats 4000000 in
theorem tX7_ahead (l : Launch) (D : va_G) (cs : Nat → ClassId) (x : Nat → Nat) (g : Nat → Nat) (g2 : Nat → Nat) (g3 : Nat → Nat) (h : Nat → Nat) (t : Nat → Nat) (sa : Nat → Nat) (b : Nat → Nat) (c : Nat → Nat) (d : Nat → Nat) (a : Nat → Nat) (u : Nat → Nat) (x1 : Int32) (Ma : ST) (Fo : ST) (Sc : ST) (Se : ST) (Tr : ST) (Ch : ST) (Us : ST) (r0 : Int32) (Maz : ST) (Scz : ST) (Trz : ST) (Usz : ST) (hf : fX7_ahead x1 Ma Fo Sc Se Tr Ch Us = some (r0, Maz, Scz, Trz, Usz)) : CG l yX7_ahead (wsm yX7_ahead cX7_ahead 4 (some .int)) rmX7_ahead D cs [.ref (x 0), .int x1] (some (.int r0)) ((kX7 cs x (.ref (g 0)) (.ref (g2 0)) (.ref (g3 0)) (.ref (h 0)) (.ref (t 0)) (.ref (sa 0)) Ma) ++ (kX2 cs g (.ref (b 0)) (.ref (c 0)) (.ref (d 0)) (.ref (a 0)) ) ++ (kX1 cs b  Fo) ++ (kX3 cs c  Sc) ++ (kX4 cs a (.ref (b 0)) (.ref (c 0)) (.ref (d 0)) Se) ++ (kX4 cs d (.ref (b 0)) (.ref (c 0)) .null Tr) ++ (kX0 cs h (.ref (g 0)) (.ref (u 0)) Ch) ++ (kX4 cs u (.ref (b 0)) (.ref (c 0)) (.ref (d 0)) Us)) ((kX7 cs x (.ref (g 0)) (.ref (g2 0)) (.ref (g3 0)) (.ref (h 0)) (.ref (t 0)) (.ref (sa 0)) Maz) ++ (kX2 cs g (.ref (b 0)) (.ref (c 0)) (.ref (d 0)) (.ref (a 0)) ) ++ (kX1 cs b  Fo) ++ (kX3 cs c  Scz) ++ (kX4 cs a (.ref (b 0)) (.ref (c 0)) (.ref (d 0)) Se) ++ (kX4 cs d (.ref (b 0)) (.ref (c 0)) .null Trz) ++ (kX0 cs h (.ref (g 0)) (.ref (u 0)) Ch) ++ (kX4 cs u (.ref (b 0)) (.ref (c 0)) (.ref (d 0)) Usz)) := by
  refine CG.intro (by decide) (Nat.le_of_ble_eq_true rfl) ?_
  intro p e s m below meth c A Q hx hb hml hown hu hK hZ hP0 hD0 hS0 hA hri hrz hrl hrv hra ls0 hl0
  have hs25 : ∀ (k25 : Int32 → Int32 → Int32 → ST → ST → ST → ST → Option (Int32 × ST × ST × ST × ST)), (∀ (y1 : Int32) (y2 : Int32) (y3 : Int32) (Ma : ST) (Sc : ST) (Tr : ST) (Us : ST) (H : Heap) (locs : List Loc) (ls : Array Slot), va_P D vwCl ((kX7 cs x (.ref (g 0)) (.ref (g2 0)) (.ref (g3 0)) (.ref (h 0)) (.ref (t 0)) (.ref (sa 0)) Ma) ++ (kX2 cs g (.ref (b 0)) (.ref (c 0)) (.ref (d 0)) (.ref (a 0)) ) ++ (kX1 cs b  Fo) ++ (kX3 cs c  Sc) ++ (kX4 cs a (.ref (b 0)) (.ref (c 0)) (.ref (d 0)) Se) ++ (kX4 cs d (.ref (b 0)) (.ref (c 0)) .null Tr) ++ (kX0 cs h (.ref (g 0)) (.ref (u 0)) Ch) ++ (kX4 cs u (.ref (b 0)) (.ref (c 0)) (.ref (d 0)) Us)) H → va_D A ((kX7 cs x (.ref (g 0)) (.ref (g2 0)) (.ref (g3 0)) (.ref (h 0)) (.ref (t 0)) (.ref (sa 0)) Ma) ++ (kX2 cs g (.ref (b 0)) (.ref (c 0)) (.ref (d 0)) (.ref (a 0)) ) ++ (kX1 cs b  Fo) ++ (kX3 cs c  Sc) ++ (kX4 cs a (.ref (b 0)) (.ref (c 0)) (.ref (d 0)) Se) ++ (kX4 cs d (.ref (b 0)) (.ref (c 0)) .null Tr) ++ (kX0 cs h (.ref (g 0)) (.ref (u 0)) Ch) ++ (kX4 cs u (.ref (b 0)) (.ref (c 0)) (.ref (d 0)) Us)) → va_S A s.heap H locs → lv_has ls 4 [(0, .ref (x 0)), (1, .int y1), (2, .int y2), (3, .int y3)] → k25 y1 y2 y3 Ma Sc Tr Us = some (r0, Maz, Scz, Trz, Usz) → W p l e rmX7_ahead s m [.ref (x 0), .int x1].toArray below meth c H locs 0 0 Q (F0 m 25 ls [])) → ∀ (y1 : Int32) (y2 : Int32) (y3 : Int32) (Ma : ST) (Sc : ST) (Tr : ST) (Us : ST) (H : Heap) (locs : List Loc) (ls : Array Slot), va_P D vwCl ((kX7 cs x (.ref (g 0)) (.ref (g2 0)) (.ref (g3 0)) (.ref (h 0)) (.ref (t 0)) (.ref (sa 0)) Ma) ++ (kX2 cs g (.ref (b 0)) (.ref (c 0)) (.ref (d 0)) (.ref (a 0)) ) ++ (kX1 cs b  Fo) ++ (kX3 cs c  Sc) ++ (kX4 cs a (.ref (b 0)) (.ref (c 0)) (.ref (d 0)) Se) ++ (kX4 cs d (.ref (b 0)) (.ref (c 0)) .null Tr) ++ (kX0 cs h (.ref (g 0)) (.ref (u 0)) Ch) ++ (kX4 cs u (.ref (b 0)) (.ref (c 0)) (.ref (d 0)) Us)) H → va_D A ((kX7 cs x (.ref (g 0)) (.ref (g2 0)) (.ref (g3 0)) (.ref (h 0)) (.ref (t 0)) (.ref (sa 0)) Ma) ++ (kX2 cs g (.ref (b 0)) (.ref (c 0)) (.ref (d 0)) (.ref (a 0)) ) ++ (kX1 cs b  Fo) ++ (kX3 cs c  Sc) ++ (kX4 cs a (.ref (b 0)) (.ref (c 0)) (.ref (d 0)) Se) ++ (kX4 cs d (.ref (b 0)) (.ref (c 0)) .null Tr) ++ (kX0 cs h (.ref (g 0)) (.ref (u 0)) Ch) ++ (kX4 cs u (.ref (b 0)) (.ref (c 0)) (.ref (d 0)) Us)) → va_S A s.heap H locs → lv_has ls 4 [(0, .ref (x 0)), (1, .int y1), (2, .int y2), (3, .int y3)] → fX7_ahead_25_s Fo Se Ch k25 y1 y2 y3 Ma Sc Tr Us = some (r0, Maz, Scz, Trz, Usz) → W p l e rmX7_ahead s m [.ref (x 0), .int x1].toArray below meth c H locs 0 0 Q (F0 m 25 ls []) := by
    intro k25 hk25 y1 y2 y3 Ma Sc Tr Us H locs ls hP hD hS hl hf
    unfold fX7_ahead_25_s at hf
    refine lv_iload_n hx hb dX7_ahead_25 rfl (lv_at hl 3 rfl) ?_
    refine lv_iload_n hx hb dX7_ahead_26 rfl (lv_at hl 1 rfl) ?_
    refine lv_icmp_ge (tgt := 48) hx hb dX7_ahead_27 (by decide) (fun hc6 => ?_) (fun hc6 => ?_)
    · have hf := ip_el hc6 hf
      refine lv_iload_n hx hb dX7_ahead_48 rfl (lv_at hl 2 rfl) ?_
      have he := Option.some.inj hf
      obtain ⟨e0, ht0⟩ := Prod.mk.inj he
      obtain ⟨e1, ht1⟩ := Prod.mk.inj ht0
      obtain ⟨e2, ht2⟩ := Prod.mk.inj ht1
      obtain ⟨e3, e4⟩ := Prod.mk.inj ht2
      exact hri _ _ _ rfl (congrArg (fun z => some (Value.int z)) e0.symm) dX7_ahead_49 _ _ _ (by rw [e1, e2, e3, e4]) hP hD hS
    · have hf := in_el hc6 hf
      refine lv_aload_n hx hb dX7_ahead_30 rfl (lv_at hl 0 rfl) ?_
      refine va_get (D := D) (ci := 7) (v := .ref (h 0)) (C := RX7) (T := TX7) (N := 8) hx hb hu inX7 hown hK.1 hP 0 rfl rfl 3 (by decide) (hu _ q303) (fun _ h9 => h9) rfl dX7_ahead_31 ?_
      refine va_get (D := D) (ci := 0) (v := .ref (u 0)) (C := RX0) (T := TX0) (N := 8) hx hb hu inX0 hown hK.1 hP 21 rfl rfl 1 (by decide) (hu _ q224) (fun _ h9 => h9) rfl dX7_ahead_34 ?_
      refine lv_iconst (v := 1) hx hb dX7_ahead_37 (by decide) ?_
      obtain ⟨r7, Us_8, Sc_9, Tr_10, hg11, hf⟩ := b4_el hf
      refine cc_V (w' := ((kX7 cs x (.ref (g 0)) (.ref (g2 0)) (.ref (g3 0)) (.ref (h 0)) (.ref (t 0)) (.ref (sa 0)) Ma) ++ (kX2 cs g (.ref (b 0)) (.ref (c 0)) (.ref (d 0)) (.ref (a 0)) ) ++ (kX1 cs b  Fo) ++ (kX3 cs c  Sc_9) ++ (kX4 cs a (.ref (b 0)) (.ref (c 0)) (.ref (d 0)) Se) ++ (kX4 cs d (.ref (b 0)) (.ref (c 0)) .null Tr_10) ++ (kX0 cs h (.ref (g 0)) (.ref (u 0)) Ch) ++ (kX4 cs u (.ref (b 0)) (.ref (c 0)) (.ref (d 0)) Us_8))) (wr := ((kX7 cs x (.ref (g 0)) (.ref (g2 0)) (.ref (g3 0)) (.ref (h 0)) (.ref (t 0)) (.ref (sa 0)) Ma) ++ (kX2 cs g (.ref (b 0)) (.ref (c 0)) (.ref (d 0)) (.ref (a 0)) ) ++ (kX4 cs a (.ref (b 0)) (.ref (c 0)) (.ref (d 0)) Se) ++ (kX0 cs h (.ref (g 0)) (.ref (u 0)) Ch))) (st1 := [.int r7]) [.int 1] hx hb hml hown hu (tX4_next l D cs u b c d 1 Us Fo Sc Tr r7 Us_8 Sc_9 Tr_10 hg11) q439 q58 q528 q437 q438 pdX4_next ⟨rfl, rfl, Nat.le_of_ble_eq_true rfl, Nat.le_of_ble_eq_true rfl⟩ hK hZ hP hD hS hA [26, 27, 28, 29, 3, 4, 5, 6, 7, 8, 9, 10, 11, 12, 17, 18, 19, 20] [0, 1, 2, 13, 14, 15, 16, 21, 22, 23, 24, 25] [0, 1, 2, 16, 17, 18, 19, 20, 21, 22, 23, 24, 25, 3, 4, 5, 6, 26, 27, 28, 29, 7, 8, 9, 10, 11, 12, 13, 14, 15] rfl rfl rfl rfl rfl rfl rfl rfl rfl rfl hl.1 rfl (Nat.le_of_ble_eq_true rfl) dX7_ahead_38 rfl (fun H locs hP hD hS => ?_)
      refine lv_istore_n (lv' := [(2, .int r7), (0, .ref (x 0)), (1, .int y1), (3, .int y3)]) hx hb dX7_ahead_41 rfl hl (by decide) rfl (fun ls hl => ?_)
      obtain ⟨v12, hv12, hf⟩ := lt_el hf
      refine lv_iinc (v := v12) (lv' := [(3, .int v12), (2, .int r7), (0, .ref (x 0)), (1, .int y1)]) hx hb dX7_ahead_42 hl (k := 3) rfl (by rw [hv12]; rfl) (by decide) rfl (fun ls hl => ?_)
      refine lv_goto (tgt := 25) hx hb dX7_ahead_45 (by decide) ?_
      exact hk25 y1 r7 v12 Ma Sc_9 Tr_10 Us_8 _ _ _ hP hD hS (lv_sub hl [2, 3, 1, 0] rfl) hf
  have h25 : ∀ (n : Nat), ∀ (y1 : Int32) (y2 : Int32) (y3 : Int32) (Ma : ST) (Sc : ST) (Tr : ST) (Us : ST) (H : Heap) (locs : List Loc) (ls : Array Slot), va_P D vwCl ((kX7 cs x (.ref (g 0)) (.ref (g2 0)) (.ref (g3 0)) (.ref (h 0)) (.ref (t 0)) (.ref (sa 0)) Ma) ++ (kX2 cs g (.ref (b 0)) (.ref (c 0)) (.ref (d 0)) (.ref (a 0)) ) ++ (kX1 cs b  Fo) ++ (kX3 cs c  Sc) ++ (kX4 cs a (.ref (b 0)) (.ref (c 0)) (.ref (d 0)) Se) ++ (kX4 cs d (.ref (b 0)) (.ref (c 0)) .null Tr) ++ (kX0 cs h (.ref (g 0)) (.ref (u 0)) Ch) ++ (kX4 cs u (.ref (b 0)) (.ref (c 0)) (.ref (d 0)) Us)) H → va_D A ((kX7 cs x (.ref (g 0)) (.ref (g2 0)) (.ref (g3 0)) (.ref (h 0)) (.ref (t 0)) (.ref (sa 0)) Ma) ++ (kX2 cs g (.ref (b 0)) (.ref (c 0)) (.ref (d 0)) (.ref (a 0)) ) ++ (kX1 cs b  Fo) ++ (kX3 cs c  Sc) ++ (kX4 cs a (.ref (b 0)) (.ref (c 0)) (.ref (d 0)) Se) ++ (kX4 cs d (.ref (b 0)) (.ref (c 0)) .null Tr) ++ (kX0 cs h (.ref (g 0)) (.ref (u 0)) Ch) ++ (kX4 cs u (.ref (b 0)) (.ref (c 0)) (.ref (d 0)) Us)) → va_S A s.heap H locs → lv_has ls 4 [(0, .ref (x 0)), (1, .int y1), (2, .int y2), (3, .int y3)] → fX7_ahead_25 Fo Se Ch n y1 y2 y3 Ma Sc Tr Us = some (r0, Maz, Scz, Trz, Usz) → W p l e rmX7_ahead s m [.ref (x 0), .int x1].toArray below meth c H locs 0 0 Q (F0 m 25 ls []) := by
    intro n
    induction n with
    | zero => intro y1 y2 y3 Ma Sc Tr Us H locs ls hP hD hS hl hf; exact no_el hf
    | succ n ih => intro y1 y2 y3 Ma Sc Tr Us H locs ls hP hD hS hl hf; exact hs25 _ ih y1 y2 y3 Ma Sc Tr Us _ _ _ hP hD hS hl hf
  have hl : lv_has ls0 4 [(0, .ref (x 0)), (1, .int x1)] := hl0
  have hP := hP0
  have hD := hD0
  have hS := hS0
  unfold fX7_ahead at hf
  refine lv_iload_n hx hb dX7_ahead_0 rfl (lv_at hl 1 rfl) ?_
  obtain ⟨r1, hg2, hf⟩ := b1_el hf
  refine cc_S0 (st1 := [.int r1]) [.int x1] hx hb hml hown hu (tX7_isChairs l D cs x1 r1 hg2) q566 q54 q564 q565 pdX7_isChairs ⟨rfl, rfl, Nat.le_of_ble_eq_true rfl, Nat.le_of_ble_eq_true rfl⟩ hK hZ hP hD hS hA rfl hl.1 rfl (Nat.le_of_ble_eq_true rfl) dX7_ahead_1 rfl (fun H locs hP hD hS => ?_)
  refine lv_if_ne (tgt := 14) hx hb dX7_ahead_4 (by decide) (fun hc3 => ?_) (fun hc3 => ?_)
  · have hf := in_el hc3 hf
    refine lv_aload_n hx hb dX7_ahead_14 rfl (lv_at hl 0 rfl) ?_
    refine va_get (D := D) (ci := 7) (v := .ref (h 0)) (C := RX7) (T := TX7) (N := 8) hx hb hu inX7 hown hK.1 hP 0 rfl rfl 3 (by decide) (hu _ q303) (fun _ h9 => h9) rfl dX7_ahead_15 ?_
    obtain ⟨Us_4, hg5, hf⟩ := b1_el hf
    refine cc_V (w' := ((kX7 cs x (.ref (g 0)) (.ref (g2 0)) (.ref (g3 0)) (.ref (h 0)) (.ref (t 0)) (.ref (sa 0)) Ma) ++ (kX2 cs g (.ref (b 0)) (.ref (c 0)) (.ref (d 0)) (.ref (a 0)) ) ++ (kX1 cs b  Fo) ++ (kX3 cs c  Sc) ++ (kX4 cs a (.ref (b 0)) (.ref (c 0)) (.ref (d 0)) Se) ++ (kX4 cs d (.ref (b 0)) (.ref (c 0)) .null Tr) ++ (kX0 cs h (.ref (g 0)) (.ref (u 0)) Ch) ++ (kX4 cs u (.ref (b 0)) (.ref (c 0)) (.ref (d 0)) Us_4))) (wr := ((kX7 cs x (.ref (g 0)) (.ref (g2 0)) (.ref (g3 0)) (.ref (h 0)) (.ref (t 0)) (.ref (sa 0)) Ma) ++ (kX1 cs b  Fo) ++ (kX3 cs c  Sc) ++ (kX4 cs d (.ref (b 0)) (.ref (c 0)) .null Tr))) (st1 := []) [] hx hb hml hown hu (tX0_start l D cs h g u b c d a Ch Se Us Us_4 hg5) q570 q59 q567 q568 q569 pdX0_start ⟨rfl, rfl, Nat.le_of_ble_eq_true rfl, Nat.le_of_ble_eq_true rfl⟩ hK hZ hP hD hS hA [21, 22, 23, 24, 25, 2, 13, 14, 15, 16, 26, 27, 28, 29] [0, 1, 3, 4, 5, 6, 7, 8, 9, 10, 11, 12, 17, 18, 19, 20] [0, 1, 21, 2, 3, 4, 5, 6, 7, 8, 9, 10, 11, 22, 23, 24, 25, 12, 13, 14, 15, 16, 17, 18, 19, 20, 26, 27, 28, 29] rfl rfl rfl rfl rfl rfl rfl rfl rfl rfl hl.1 rfl (Nat.le_of_ble_eq_true rfl) dX7_ahead_18 rfl (fun H locs hP hD hS => ?_)
    refine lv_iconst (v := (-1)) hx hb dX7_ahead_21 (by decide) ?_
    refine lv_istore_n (lv' := [(2, .int (-1)), (0, .ref (x 0)), (1, .int x1)]) hx hb dX7_ahead_22 rfl hl (by decide) rfl (fun ls hl => ?_)
    refine lv_iconst (v := 0) hx hb dX7_ahead_23 (by decide) ?_
    refine lv_istore_n (lv' := [(3, .int 0), (2, .int (-1)), (0, .ref (x 0)), (1, .int x1)]) hx hb dX7_ahead_24 rfl hl (by decide) rfl (fun ls hl => ?_)
    exact h25 400 x1 (-1) 0 Ma Sc Tr Us_4 _ _ _ hP hD hS (lv_sub hl [2, 3, 1, 0] rfl) hf
  · have hf := ip_el hc3 hf
    refine lv_aload_n hx hb dX7_ahead_7 rfl (lv_at hl 0 rfl) ?_
    refine lv_ldc (v := (-1000000001)) hx hb hown (hu _ q335) dX7_ahead_8 ?_
    obtain ⟨r13, Ma_14, hg15, hf⟩ := b2_el hf
    refine cc_V (w' := ((kX7 cs x (.ref (g 0)) (.ref (g2 0)) (.ref (g3 0)) (.ref (h 0)) (.ref (t 0)) (.ref (sa 0)) Ma_14) ++ (kX2 cs g (.ref (b 0)) (.ref (c 0)) (.ref (d 0)) (.ref (a 0)) ) ++ (kX1 cs b  Fo) ++ (kX3 cs c  Sc) ++ (kX4 cs a (.ref (b 0)) (.ref (c 0)) (.ref (d 0)) Se) ++ (kX4 cs d (.ref (b 0)) (.ref (c 0)) .null Tr) ++ (kX0 cs h (.ref (g 0)) (.ref (u 0)) Ch) ++ (kX4 cs u (.ref (b 0)) (.ref (c 0)) (.ref (d 0)) Us))) (wr := ((kX2 cs g (.ref (b 0)) (.ref (c 0)) (.ref (d 0)) (.ref (a 0)) ) ++ (kX1 cs b  Fo) ++ (kX3 cs c  Sc) ++ (kX4 cs a (.ref (b 0)) (.ref (c 0)) (.ref (d 0)) Se) ++ (kX4 cs d (.ref (b 0)) (.ref (c 0)) .null Tr) ++ (kX0 cs h (.ref (g 0)) (.ref (u 0)) Ch) ++ (kX4 cs u (.ref (b 0)) (.ref (c 0)) (.ref (d 0)) Us))) (st1 := [.int r13]) [.int (-1000000001)] hx hb hml hown hu (tX7_finding l D cs x g g2 g3 h t sa (-1000000001) Ma r13 Ma_14 hg15) q339 q54 q336 q338 q0 pdX7_finding ⟨rfl, rfl, Nat.le_of_ble_eq_true rfl, Nat.le_of_ble_eq_true rfl⟩ hK hZ hP hD hS hA [0, 1] [2, 3, 4, 5, 6, 7, 8, 9, 10, 11, 12, 13, 14, 15, 16, 17, 18, 19, 20, 21, 22, 23, 24, 25, 26, 27, 28, 29] [28, 29, 0, 1, 2, 3, 4, 5, 6, 7, 8, 9, 10, 11, 12, 13, 14, 15, 16, 17, 18, 19, 20, 21, 22, 23, 24, 25, 26, 27] rfl rfl rfl rfl rfl rfl rfl rfl rfl rfl hl.1 rfl (Nat.le_of_ble_eq_true rfl) dX7_ahead_10 rfl (fun H locs hP hD hS => ?_)
    have he := Option.some.inj hf
    obtain ⟨e0, ht0⟩ := Prod.mk.inj he
    obtain ⟨e1, ht1⟩ := Prod.mk.inj ht0
    obtain ⟨e2, ht2⟩ := Prod.mk.inj ht1
    obtain ⟨e3, e4⟩ := Prod.mk.inj ht2
    exact hri _ _ _ rfl (congrArg (fun z => some (Value.int z)) e0.symm) dX7_ahead_13 _ _ _ (by rw [e1, e2, e3, e4]) hP hD hS

def fX7_ever (Ma : ST) (Fo : ST) (Sc : ST) (Se : ST) (Tr : ST) (Ch : ST) (Us : ST) : Option (Int32 × ST × ST × ST × ST × ST) :=
  dc_b5 (fX0_goRound Ch Fo Sc Se Tr Us) (fun r1 Ch_2 Sc_3 Tr_4 Us_5 => (if r1 = 0 then dc_b2 (fX7_finding (-1000000004) Ma) (fun r10 Ma_11 => some (r10, Ma_11, Sc_3, Tr_4, Ch_2, Us_5)) else dc_b1 (fX0_whoGoesRound Ch_2) (fun r8 => some (r8, Ma, Sc_3, Tr_4, Ch_2, Us_5))))
abbrev rmX7_ever : Room := { frames := 11, cells := 0, slots := 0, locals := 278 }
set_option maxRecDepth 100000 in
set_option maxHeartbeats 4000000 in
theorem tX7_ever (l : Launch) (D : va_G) (cs : Nat → ClassId) (x : Nat → Nat) (g : Nat → Nat) (g2 : Nat → Nat) (g3 : Nat → Nat) (h : Nat → Nat) (t : Nat → Nat) (sa : Nat → Nat) (b : Nat → Nat) (c : Nat → Nat) (d : Nat → Nat) (a : Nat → Nat) (u : Nat → Nat) (Ma : ST) (Fo : ST) (Sc : ST) (Se : ST) (Tr : ST) (Ch : ST) (Us : ST) (r0 : Int32) (Maz : ST) (Scz : ST) (Trz : ST) (Chz : ST) (Usz : ST) (hf : fX7_ever Ma Fo Sc Se Tr Ch Us = some (r0, Maz, Scz, Trz, Chz, Usz)) : CG l yX7_ever (wsm yX7_ever cX7_ever 1 (some .int)) rmX7_ever D cs [.ref (x 0)] (some (.int r0)) ((kX7 cs x (.ref (g 0)) (.ref (g2 0)) (.ref (g3 0)) (.ref (h 0)) (.ref (t 0)) (.ref (sa 0)) Ma) ++ (kX2 cs g (.ref (b 0)) (.ref (c 0)) (.ref (d 0)) (.ref (a 0)) ) ++ (kX1 cs b  Fo) ++ (kX3 cs c  Sc) ++ (kX4 cs a (.ref (b 0)) (.ref (c 0)) (.ref (d 0)) Se) ++ (kX4 cs d (.ref (b 0)) (.ref (c 0)) .null Tr) ++ (kX0 cs h (.ref (g 0)) (.ref (u 0)) Ch) ++ (kX4 cs u (.ref (b 0)) (.ref (c 0)) (.ref (d 0)) Us)) ((kX7 cs x (.ref (g 0)) (.ref (g2 0)) (.ref (g3 0)) (.ref (h 0)) (.ref (t 0)) (.ref (sa 0)) Maz) ++ (kX2 cs g (.ref (b 0)) (.ref (c 0)) (.ref (d 0)) (.ref (a 0)) ) ++ (kX1 cs b  Fo) ++ (kX3 cs c  Scz) ++ (kX4 cs a (.ref (b 0)) (.ref (c 0)) (.ref (d 0)) Se) ++ (kX4 cs d (.ref (b 0)) (.ref (c 0)) .null Trz) ++ (kX0 cs h (.ref (g 0)) (.ref (u 0)) Chz) ++ (kX4 cs u (.ref (b 0)) (.ref (c 0)) (.ref (d 0)) Usz)) := by
  refine CG.intro (by decide) (Nat.le_of_ble_eq_true rfl) ?_
  intro p e s m below meth c A Q hx hb hml hown hu hK hZ hP0 hD0 hS0 hA hri hrz hrl hrv hra ls0 hl0
  have hl : lv_has ls0 1 [(0, .ref (x 0))] := hl0
  have hP := hP0
  have hD := hD0
  have hS := hS0
  unfold fX7_ever at hf
  refine lv_aload_n hx hb dX7_ever_0 rfl (lv_at hl 0 rfl) ?_
  refine va_get (D := D) (ci := 7) (v := .ref (h 0)) (C := RX7) (T := TX7) (N := 8) hx hb hu inX7 hown hK.1 hP 0 rfl rfl 3 (by decide) (hu _ q303) (fun _ h9 => h9) rfl dX7_ever_1 ?_
  obtain ⟨r1, Ch_2, Sc_3, Tr_4, Us_5, hg6, hf⟩ := b5_el hf
  refine cc_V (w' := ((kX7 cs x (.ref (g 0)) (.ref (g2 0)) (.ref (g3 0)) (.ref (h 0)) (.ref (t 0)) (.ref (sa 0)) Ma) ++ (kX2 cs g (.ref (b 0)) (.ref (c 0)) (.ref (d 0)) (.ref (a 0)) ) ++ (kX1 cs b  Fo) ++ (kX3 cs c  Sc_3) ++ (kX4 cs a (.ref (b 0)) (.ref (c 0)) (.ref (d 0)) Se) ++ (kX4 cs d (.ref (b 0)) (.ref (c 0)) .null Tr_4) ++ (kX0 cs h (.ref (g 0)) (.ref (u 0)) Ch_2) ++ (kX4 cs u (.ref (b 0)) (.ref (c 0)) (.ref (d 0)) Us_5))) (wr := (kX7 cs x (.ref (g 0)) (.ref (g2 0)) (.ref (g3 0)) (.ref (h 0)) (.ref (t 0)) (.ref (sa 0)) Ma)) (st1 := [.int r1]) [] hx hb hml hown hu (tX0_goRound l D cs h g u b c d a Ch Fo Sc Se Tr Us r1 Ch_2 Sc_3 Tr_4 Us_5 hg6) q579 q59 q576 q577 q578 pdX0_goRound ⟨rfl, rfl, Nat.le_of_ble_eq_true rfl, Nat.le_of_ble_eq_true rfl⟩ hK hZ hP hD hS hA [21, 22, 23, 24, 25, 2, 3, 4, 5, 6, 7, 8, 9, 10, 11, 12, 13, 14, 15, 16, 17, 18, 19, 20, 26, 27, 28, 29] [0, 1] [0, 1, 7, 8, 9, 10, 11, 12, 13, 14, 15, 16, 17, 18, 19, 20, 21, 22, 23, 24, 25, 2, 3, 4, 5, 6, 26, 27, 28, 29] rfl rfl rfl rfl rfl rfl rfl rfl rfl rfl hl.1 rfl (Nat.le_of_ble_eq_true rfl) dX7_ever_4 rfl (fun H locs hP hD hS => ?_)
  refine lv_if_ne (tgt := 17) hx hb dX7_ever_7 (by decide) (fun hc7 => ?_) (fun hc7 => ?_)
  · have hf := in_el hc7 hf
    refine lv_aload_n hx hb dX7_ever_17 rfl (lv_at hl 0 rfl) ?_
    refine va_get (D := D) (ci := 7) (v := .ref (h 0)) (C := RX7) (T := TX7) (N := 8) hx hb hu inX7 hown hK.1 hP 0 rfl rfl 3 (by decide) (hu _ q303) (fun _ h9 => h9) rfl dX7_ever_18 ?_
    obtain ⟨r8, hg9, hf⟩ := b1_el hf
    refine cc_V (w' := ((kX7 cs x (.ref (g 0)) (.ref (g2 0)) (.ref (g3 0)) (.ref (h 0)) (.ref (t 0)) (.ref (sa 0)) Ma) ++ (kX2 cs g (.ref (b 0)) (.ref (c 0)) (.ref (d 0)) (.ref (a 0)) ) ++ (kX1 cs b  Fo) ++ (kX3 cs c  Sc_3) ++ (kX4 cs a (.ref (b 0)) (.ref (c 0)) (.ref (d 0)) Se) ++ (kX4 cs d (.ref (b 0)) (.ref (c 0)) .null Tr_4) ++ (kX0 cs h (.ref (g 0)) (.ref (u 0)) Ch_2) ++ (kX4 cs u (.ref (b 0)) (.ref (c 0)) (.ref (d 0)) Us_5))) (wr := ((kX7 cs x (.ref (g 0)) (.ref (g2 0)) (.ref (g3 0)) (.ref (h 0)) (.ref (t 0)) (.ref (sa 0)) Ma) ++ (kX2 cs g (.ref (b 0)) (.ref (c 0)) (.ref (d 0)) (.ref (a 0)) ) ++ (kX1 cs b  Fo) ++ (kX3 cs c  Sc_3) ++ (kX4 cs a (.ref (b 0)) (.ref (c 0)) (.ref (d 0)) Se) ++ (kX4 cs d (.ref (b 0)) (.ref (c 0)) .null Tr_4) ++ (kX4 cs u (.ref (b 0)) (.ref (c 0)) (.ref (d 0)) Us_5))) (st1 := [.int r8]) [] hx hb hml hown hu (tX0_whoGoesRound l D cs h g u Ch_2 r8 hg9) q590 q59 q587 q588 q589 pdX0_whoGoesRound ⟨rfl, rfl, Nat.le_of_ble_eq_true rfl, Nat.le_of_ble_eq_true rfl⟩ hK hZ hP hD hS hA [21, 22, 23, 24, 25] [0, 1, 2, 3, 4, 5, 6, 7, 8, 9, 10, 11, 12, 13, 14, 15, 16, 17, 18, 19, 20, 26, 27, 28, 29] [0, 1, 2, 3, 4, 5, 6, 7, 8, 9, 10, 11, 12, 13, 14, 15, 16, 17, 18, 19, 20, 25, 26, 27, 28, 29, 21, 22, 23, 24] rfl rfl rfl rfl rfl rfl rfl rfl rfl rfl hl.1 rfl (Nat.le_of_ble_eq_true rfl) dX7_ever_21 rfl (fun H locs hP hD hS => ?_)
    have he := Option.some.inj hf
    obtain ⟨e0, ht0⟩ := Prod.mk.inj he
    obtain ⟨e1, ht1⟩ := Prod.mk.inj ht0
    obtain ⟨e2, ht2⟩ := Prod.mk.inj ht1
    obtain ⟨e3, ht3⟩ := Prod.mk.inj ht2
    obtain ⟨e4, e5⟩ := Prod.mk.inj ht3
    exact hri _ _ _ rfl (congrArg (fun z => some (Value.int z)) e0.symm) dX7_ever_24 _ _ _ (by rw [e1, e2, e3, e4, e5]) hP hD hS
  · have hf := ip_el hc7 hf
    refine lv_aload_n hx hb dX7_ever_10 rfl (lv_at hl 0 rfl) ?_
    refine lv_ldc (v := (-1000000004)) hx hb hown (hu _ q586) dX7_ever_11 ?_
    obtain ⟨r10, Ma_11, hg12, hf⟩ := b2_el hf
    refine cc_V (w' := ((kX7 cs x (.ref (g 0)) (.ref (g2 0)) (.ref (g3 0)) (.ref (h 0)) (.ref (t 0)) (.ref (sa 0)) Ma_11) ++ (kX2 cs g (.ref (b 0)) (.ref (c 0)) (.ref (d 0)) (.ref (a 0)) ) ++ (kX1 cs b  Fo) ++ (kX3 cs c  Sc_3) ++ (kX4 cs a (.ref (b 0)) (.ref (c 0)) (.ref (d 0)) Se) ++ (kX4 cs d (.ref (b 0)) (.ref (c 0)) .null Tr_4) ++ (kX0 cs h (.ref (g 0)) (.ref (u 0)) Ch_2) ++ (kX4 cs u (.ref (b 0)) (.ref (c 0)) (.ref (d 0)) Us_5))) (wr := ((kX2 cs g (.ref (b 0)) (.ref (c 0)) (.ref (d 0)) (.ref (a 0)) ) ++ (kX1 cs b  Fo) ++ (kX3 cs c  Sc_3) ++ (kX4 cs a (.ref (b 0)) (.ref (c 0)) (.ref (d 0)) Se) ++ (kX4 cs d (.ref (b 0)) (.ref (c 0)) .null Tr_4) ++ (kX0 cs h (.ref (g 0)) (.ref (u 0)) Ch_2) ++ (kX4 cs u (.ref (b 0)) (.ref (c 0)) (.ref (d 0)) Us_5))) (st1 := [.int r10]) [.int (-1000000004)] hx hb hml hown hu (tX7_finding l D cs x g g2 g3 h t sa (-1000000004) Ma r10 Ma_11 hg12) q339 q54 q336 q338 q0 pdX7_finding ⟨rfl, rfl, Nat.le_of_ble_eq_true rfl, Nat.le_of_ble_eq_true rfl⟩ hK hZ hP hD hS hA [0, 1] [2, 3, 4, 5, 6, 7, 8, 9, 10, 11, 12, 13, 14, 15, 16, 17, 18, 19, 20, 21, 22, 23, 24, 25, 26, 27, 28, 29] [28, 29, 0, 1, 2, 3, 4, 5, 6, 7, 8, 9, 10, 11, 12, 13, 14, 15, 16, 17, 18, 19, 20, 21, 22, 23, 24, 25, 26, 27] rfl rfl rfl rfl rfl rfl rfl rfl rfl rfl hl.1 rfl (Nat.le_of_ble_eq_true rfl) dX7_ever_13 rfl (fun H locs hP hD hS => ?_)
    have he := Option.some.inj hf
    obtain ⟨e0, ht0⟩ := Prod.mk.inj he
    obtain ⟨e1, ht1⟩ := Prod.mk.inj ht0
    obtain ⟨e2, ht2⟩ := Prod.mk.inj ht1
    obtain ⟨e3, ht3⟩ := Prod.mk.inj ht2
    obtain ⟨e4, e5⟩ := Prod.mk.inj ht3
    exact hri _ _ _ rfl (congrArg (fun z => some (Value.int z)) e0.symm) dX7_ever_16 _ _ _ (by rw [e1, e2, e3, e4, e5]) hP hD hS

def fX7_turns (x1 : Int32) (Ma : ST) (Fo : ST) (Sc : ST) (Se : ST) (Tr : ST) (Ch : ST) (Us : ST) : Option (Int32 × ST × ST × ST × ST × ST) :=
  dc_b1 (fX7_within x1 0 1) (fun r1 => (if r1 = 0 then dc_b2 (fX7_finding (-1000000001) Ma) (fun r15 Ma_16 => some (r15, Ma_16, Sc, Tr, Ch, Us)) else dc_b5 (fX0_goRound Ch Fo Sc Se Tr Us) (fun r4 Ch_5 Sc_6 Tr_7 Us_8 => (if r4 = 0 then dc_b2 (fX7_finding (-1000000004) Ma) (fun r12 Ma_13 => some (r12, Ma_13, Sc_6, Tr_7, Ch_5, Us_8)) else (if x1 = 0 then some ((Ch_5 0 6), Ma, Sc_6, Tr_7, Ch_5, Us_8) else some (((Ch_5 0 7) - (Ch_5 0 6)), Ma, Sc_6, Tr_7, Ch_5, Us_8))))))
abbrev rmX7_turns : Room := { frames := 11, cells := 0, slots := 0, locals := 278 }
set_option maxRecDepth 100000 in
set_option maxHeartbeats 4000000 in
theorem tX7_turns (l : Launch) (D : va_G) (cs : Nat → ClassId) (x : Nat → Nat) (g : Nat → Nat) (g2 : Nat → Nat) (g3 : Nat → Nat) (h : Nat → Nat) (t : Nat → Nat) (sa : Nat → Nat) (b : Nat → Nat) (c : Nat → Nat) (d : Nat → Nat) (a : Nat → Nat) (u : Nat → Nat) (x1 : Int32) (Ma : ST) (Fo : ST) (Sc : ST) (Se : ST) (Tr : ST) (Ch : ST) (Us : ST) (r0 : Int32) (Maz : ST) (Scz : ST) (Trz : ST) (Chz : ST) (Usz : ST) (hf : fX7_turns x1 Ma Fo Sc Se Tr Ch Us = some (r0, Maz, Scz, Trz, Chz, Usz)) : CG l yX7_turns (wsm yX7_turns cX7_turns 2 (some .int)) rmX7_turns D cs [.ref (x 0), .int x1] (some (.int r0)) ((kX7 cs x (.ref (g 0)) (.ref (g2 0)) (.ref (g3 0)) (.ref (h 0)) (.ref (t 0)) (.ref (sa 0)) Ma) ++ (kX2 cs g (.ref (b 0)) (.ref (c 0)) (.ref (d 0)) (.ref (a 0)) ) ++ (kX1 cs b  Fo) ++ (kX3 cs c  Sc) ++ (kX4 cs a (.ref (b 0)) (.ref (c 0)) (.ref (d 0)) Se) ++ (kX4 cs d (.ref (b 0)) (.ref (c 0)) .null Tr) ++ (kX0 cs h (.ref (g 0)) (.ref (u 0)) Ch) ++ (kX4 cs u (.ref (b 0)) (.ref (c 0)) (.ref (d 0)) Us)) ((kX7 cs x (.ref (g 0)) (.ref (g2 0)) (.ref (g3 0)) (.ref (h 0)) (.ref (t 0)) (.ref (sa 0)) Maz) ++ (kX2 cs g (.ref (b 0)) (.ref (c 0)) (.ref (d 0)) (.ref (a 0)) ) ++ (kX1 cs b  Fo) ++ (kX3 cs c  Scz) ++ (kX4 cs a (.ref (b 0)) (.ref (c 0)) (.ref (d 0)) Se) ++ (kX4 cs d (.ref (b 0)) (.ref (c 0)) .null Trz) ++ (kX0 cs h (.ref (g 0)) (.ref (u 0)) Chz) ++ (kX4 cs u (.ref (b 0)) (.ref (c 0)) (.ref (d 0)) Usz)) := by
  refine CG.intro (by decide) (Nat.le_of_ble_eq_true rfl) ?_
  intro p e s m below meth c A Q hx hb hml hown hu hK hZ hP0 hD0 hS0 hA hri hrz hrl hrv hra ls0 hl0
  have hl : lv_has ls0 2 [(0, .ref (x 0)), (1, .int x1)] := hl0
  have hP := hP0
  have hD := hD0
  have hS := hS0
  unfold fX7_turns at hf
  refine lv_iload_n hx hb dX7_turns_0 rfl (lv_at hl 1 rfl) ?_
  refine lv_iconst (v := 0) hx hb dX7_turns_1 (by decide) ?_
  refine lv_iconst (v := 1) hx hb dX7_turns_2 (by decide) ?_
  obtain ⟨r1, hg2, hf⟩ := b1_el hf
  refine cc_S0 (st1 := [.int r1]) [.int x1, .int 0, .int 1] hx hb hml hown hu (tX7_within l D cs x1 0 1 r1 hg2) q331 q54 q329 q330 pdX7_within ⟨rfl, rfl, Nat.le_of_ble_eq_true rfl, Nat.le_of_ble_eq_true rfl⟩ hK hZ hP hD hS hA rfl hl.1 rfl (Nat.le_of_ble_eq_true rfl) dX7_turns_3 rfl (fun H locs hP hD hS => ?_)
  refine lv_if_ne (tgt := 16) hx hb dX7_turns_6 (by decide) (fun hc3 => ?_) (fun hc3 => ?_)
  · have hf := in_el hc3 hf
    refine lv_aload_n hx hb dX7_turns_16 rfl (lv_at hl 0 rfl) ?_
    refine va_get (D := D) (ci := 7) (v := .ref (h 0)) (C := RX7) (T := TX7) (N := 8) hx hb hu inX7 hown hK.1 hP 0 rfl rfl 3 (by decide) (hu _ q303) (fun _ h9 => h9) rfl dX7_turns_17 ?_
    obtain ⟨r4, Ch_5, Sc_6, Tr_7, Us_8, hg9, hf⟩ := b5_el hf
    refine cc_V (w' := ((kX7 cs x (.ref (g 0)) (.ref (g2 0)) (.ref (g3 0)) (.ref (h 0)) (.ref (t 0)) (.ref (sa 0)) Ma) ++ (kX2 cs g (.ref (b 0)) (.ref (c 0)) (.ref (d 0)) (.ref (a 0)) ) ++ (kX1 cs b  Fo) ++ (kX3 cs c  Sc_6) ++ (kX4 cs a (.ref (b 0)) (.ref (c 0)) (.ref (d 0)) Se) ++ (kX4 cs d (.ref (b 0)) (.ref (c 0)) .null Tr_7) ++ (kX0 cs h (.ref (g 0)) (.ref (u 0)) Ch_5) ++ (kX4 cs u (.ref (b 0)) (.ref (c 0)) (.ref (d 0)) Us_8))) (wr := (kX7 cs x (.ref (g 0)) (.ref (g2 0)) (.ref (g3 0)) (.ref (h 0)) (.ref (t 0)) (.ref (sa 0)) Ma)) (st1 := [.int r4]) [] hx hb hml hown hu (tX0_goRound l D cs h g u b c d a Ch Fo Sc Se Tr Us r4 Ch_5 Sc_6 Tr_7 Us_8 hg9) q579 q59 q576 q577 q578 pdX0_goRound ⟨rfl, rfl, Nat.le_of_ble_eq_true rfl, Nat.le_of_ble_eq_true rfl⟩ hK hZ hP hD hS hA [21, 22, 23, 24, 25, 2, 3, 4, 5, 6, 7, 8, 9, 10, 11, 12, 13, 14, 15, 16, 17, 18, 19, 20, 26, 27, 28, 29] [0, 1] [0, 1, 7, 8, 9, 10, 11, 12, 13, 14, 15, 16, 17, 18, 19, 20, 21, 22, 23, 24, 25, 2, 3, 4, 5, 6, 26, 27, 28, 29] rfl rfl rfl rfl rfl rfl rfl rfl rfl rfl hl.1 rfl (Nat.le_of_ble_eq_true rfl) dX7_turns_20 rfl (fun H locs hP hD hS => ?_)
    refine lv_if_ne (tgt := 33) hx hb dX7_turns_23 (by decide) (fun hc10 => ?_) (fun hc10 => ?_)
    · have hf := in_el hc10 hf
      refine lv_iload_n hx hb dX7_turns_33 rfl (lv_at hl 1 rfl) ?_
      refine lv_if_ne (tgt := 47) hx hb dX7_turns_34 (by decide) (fun hc11 => ?_) (fun hc11 => ?_)
      · have hf := in_el hc11 hf
        refine lv_aload_n hx hb dX7_turns_47 rfl (lv_at hl 0 rfl) ?_
        refine va_get (D := D) (ci := 7) (v := .ref (h 0)) (C := RX7) (T := TX7) (N := 8) hx hb hu inX7 hown hK.1 hP 0 rfl rfl 3 (by decide) (hu _ q303) (fun _ h9 => h9) rfl dX7_turns_48 ?_
        refine va_get (D := D) (ci := 0) (v := .int (Ch_5 0 7)) (C := RX0) (T := TX0) (N := 8) hx hb hu inX0 hown hK.1 hP 21 rfl rfl 7 (by decide) (hu _ q233) (fun _ h9 => h9) rfl dX7_turns_51 ?_
        refine lv_aload_n hx hb dX7_turns_54 rfl (lv_at hl 0 rfl) ?_
        refine va_get (D := D) (ci := 7) (v := .ref (h 0)) (C := RX7) (T := TX7) (N := 8) hx hb hu inX7 hown hK.1 hP 0 rfl rfl 3 (by decide) (hu _ q303) (fun _ h9 => h9) rfl dX7_turns_55 ?_
        refine va_get (D := D) (ci := 0) (v := .int (Ch_5 0 6)) (C := RX0) (T := TX0) (N := 8) hx hb hu inX0 hown hK.1 hP 21 rfl rfl 6 (by decide) (hu _ q231) (fun _ h9 => h9) rfl dX7_turns_58 ?_
        refine lv_isub hx hb dX7_turns_61 ?_
        have he := Option.some.inj hf
        obtain ⟨e0, ht0⟩ := Prod.mk.inj he
        obtain ⟨e1, ht1⟩ := Prod.mk.inj ht0
        obtain ⟨e2, ht2⟩ := Prod.mk.inj ht1
        obtain ⟨e3, ht3⟩ := Prod.mk.inj ht2
        obtain ⟨e4, e5⟩ := Prod.mk.inj ht3
        exact hri _ _ _ rfl (congrArg (fun z => some (Value.int z)) e0.symm) dX7_turns_62 _ _ _ (by rw [e1, e2, e3, e4, e5]) hP hD hS
      · have hf := ip_el hc11 hf
        refine lv_aload_n hx hb dX7_turns_37 rfl (lv_at hl 0 rfl) ?_
        refine va_get (D := D) (ci := 7) (v := .ref (h 0)) (C := RX7) (T := TX7) (N := 8) hx hb hu inX7 hown hK.1 hP 0 rfl rfl 3 (by decide) (hu _ q303) (fun _ h9 => h9) rfl dX7_turns_38 ?_
        refine va_get (D := D) (ci := 0) (v := .int (Ch_5 0 6)) (C := RX0) (T := TX0) (N := 8) hx hb hu inX0 hown hK.1 hP 21 rfl rfl 6 (by decide) (hu _ q231) (fun _ h9 => h9) rfl dX7_turns_41 ?_
        refine lv_goto (tgt := 62) hx hb dX7_turns_44 (by decide) ?_
        have he := Option.some.inj hf
        obtain ⟨e0, ht0⟩ := Prod.mk.inj he
        obtain ⟨e1, ht1⟩ := Prod.mk.inj ht0
        obtain ⟨e2, ht2⟩ := Prod.mk.inj ht1
        obtain ⟨e3, ht3⟩ := Prod.mk.inj ht2
        obtain ⟨e4, e5⟩ := Prod.mk.inj ht3
        exact hri _ _ _ rfl (congrArg (fun z => some (Value.int z)) e0.symm) dX7_turns_62 _ _ _ (by rw [e1, e2, e3, e4, e5]) hP hD hS
    · have hf := ip_el hc10 hf
      refine lv_aload_n hx hb dX7_turns_26 rfl (lv_at hl 0 rfl) ?_
      refine lv_ldc (v := (-1000000004)) hx hb hown (hu _ q586) dX7_turns_27 ?_
      obtain ⟨r12, Ma_13, hg14, hf⟩ := b2_el hf
      refine cc_V (w' := ((kX7 cs x (.ref (g 0)) (.ref (g2 0)) (.ref (g3 0)) (.ref (h 0)) (.ref (t 0)) (.ref (sa 0)) Ma_13) ++ (kX2 cs g (.ref (b 0)) (.ref (c 0)) (.ref (d 0)) (.ref (a 0)) ) ++ (kX1 cs b  Fo) ++ (kX3 cs c  Sc_6) ++ (kX4 cs a (.ref (b 0)) (.ref (c 0)) (.ref (d 0)) Se) ++ (kX4 cs d (.ref (b 0)) (.ref (c 0)) .null Tr_7) ++ (kX0 cs h (.ref (g 0)) (.ref (u 0)) Ch_5) ++ (kX4 cs u (.ref (b 0)) (.ref (c 0)) (.ref (d 0)) Us_8))) (wr := ((kX2 cs g (.ref (b 0)) (.ref (c 0)) (.ref (d 0)) (.ref (a 0)) ) ++ (kX1 cs b  Fo) ++ (kX3 cs c  Sc_6) ++ (kX4 cs a (.ref (b 0)) (.ref (c 0)) (.ref (d 0)) Se) ++ (kX4 cs d (.ref (b 0)) (.ref (c 0)) .null Tr_7) ++ (kX0 cs h (.ref (g 0)) (.ref (u 0)) Ch_5) ++ (kX4 cs u (.ref (b 0)) (.ref (c 0)) (.ref (d 0)) Us_8))) (st1 := [.int r12]) [.int (-1000000004)] hx hb hml hown hu (tX7_finding l D cs x g g2 g3 h t sa (-1000000004) Ma r12 Ma_13 hg14) q339 q54 q336 q338 q0 pdX7_finding ⟨rfl, rfl, Nat.le_of_ble_eq_true rfl, Nat.le_of_ble_eq_true rfl⟩ hK hZ hP hD hS hA [0, 1] [2, 3, 4, 5, 6, 7, 8, 9, 10, 11, 12, 13, 14, 15, 16, 17, 18, 19, 20, 21, 22, 23, 24, 25, 26, 27, 28, 29] [28, 29, 0, 1, 2, 3, 4, 5, 6, 7, 8, 9, 10, 11, 12, 13, 14, 15, 16, 17, 18, 19, 20, 21, 22, 23, 24, 25, 26, 27] rfl rfl rfl rfl rfl rfl rfl rfl rfl rfl hl.1 rfl (Nat.le_of_ble_eq_true rfl) dX7_turns_29 rfl (fun H locs hP hD hS => ?_)
      have he := Option.some.inj hf
      obtain ⟨e0, ht0⟩ := Prod.mk.inj he
      obtain ⟨e1, ht1⟩ := Prod.mk.inj ht0
      obtain ⟨e2, ht2⟩ := Prod.mk.inj ht1
      obtain ⟨e3, ht3⟩ := Prod.mk.inj ht2
      obtain ⟨e4, e5⟩ := Prod.mk.inj ht3
      exact hri _ _ _ rfl (congrArg (fun z => some (Value.int z)) e0.symm) dX7_turns_32 _ _ _ (by rw [e1, e2, e3, e4, e5]) hP hD hS
  · have hf := ip_el hc3 hf
    refine lv_aload_n hx hb dX7_turns_9 rfl (lv_at hl 0 rfl) ?_
    refine lv_ldc (v := (-1000000001)) hx hb hown (hu _ q335) dX7_turns_10 ?_
    obtain ⟨r15, Ma_16, hg17, hf⟩ := b2_el hf
    refine cc_V (w' := ((kX7 cs x (.ref (g 0)) (.ref (g2 0)) (.ref (g3 0)) (.ref (h 0)) (.ref (t 0)) (.ref (sa 0)) Ma_16) ++ (kX2 cs g (.ref (b 0)) (.ref (c 0)) (.ref (d 0)) (.ref (a 0)) ) ++ (kX1 cs b  Fo) ++ (kX3 cs c  Sc) ++ (kX4 cs a (.ref (b 0)) (.ref (c 0)) (.ref (d 0)) Se) ++ (kX4 cs d (.ref (b 0)) (.ref (c 0)) .null Tr) ++ (kX0 cs h (.ref (g 0)) (.ref (u 0)) Ch) ++ (kX4 cs u (.ref (b 0)) (.ref (c 0)) (.ref (d 0)) Us))) (wr := ((kX2 cs g (.ref (b 0)) (.ref (c 0)) (.ref (d 0)) (.ref (a 0)) ) ++ (kX1 cs b  Fo) ++ (kX3 cs c  Sc) ++ (kX4 cs a (.ref (b 0)) (.ref (c 0)) (.ref (d 0)) Se) ++ (kX4 cs d (.ref (b 0)) (.ref (c 0)) .null Tr) ++ (kX0 cs h (.ref (g 0)) (.ref (u 0)) Ch) ++ (kX4 cs u (.ref (b 0)) (.ref (c 0)) (.ref (d 0)) Us))) (st1 := [.int r15]) [.int (-1000000001)] hx hb hml hown hu (tX7_finding l D cs x g g2 g3 h t sa (-1000000001) Ma r15 Ma_16 hg17) q339 q54 q336 q338 q0 pdX7_finding ⟨rfl, rfl, Nat.le_of_ble_eq_true rfl, Nat.le_of_ble_eq_true rfl⟩ hK hZ hP hD hS hA [0, 1] [2, 3, 4, 5, 6, 7, 8, 9, 10, 11, 12, 13, 14, 15, 16, 17, 18, 19, 20, 21, 22, 23, 24, 25, 26, 27, 28, 29] [28, 29, 0, 1, 2, 3, 4, 5, 6, 7, 8, 9, 10, 11, 12, 13, 14, 15, 16, 17, 18, 19, 20, 21, 22, 23, 24, 25, 26, 27] rfl rfl rfl rfl rfl rfl rfl rfl rfl rfl hl.1 rfl (Nat.le_of_ble_eq_true rfl) dX7_turns_12 rfl (fun H locs hP hD hS => ?_)
    have he := Option.some.inj hf
    obtain ⟨e0, ht0⟩ := Prod.mk.inj he
    obtain ⟨e1, ht1⟩ := Prod.mk.inj ht0
    obtain ⟨e2, ht2⟩ := Prod.mk.inj ht1
    obtain ⟨e3, ht3⟩ := Prod.mk.inj ht2
    obtain ⟨e4, e5⟩ := Prod.mk.inj ht3
    exact hri _ _ _ rfl (congrArg (fun z => some (Value.int z)) e0.symm) dX7_turns_15 _ _ _ (by rw [e1, e2, e3, e4, e5]) hP hD hS

def fX7_share_14 (Fo : ST) (Se : ST) (Ma : ST) (Sc : ST) (Tr : ST) (Ch : ST) (Us : ST) : Option (Int32 × ST × ST × ST × ST × ST) :=
  dc_b2 (fX7_finding (-1000000001) Ma) (fun r4 Ma_5 => some (r4, Ma_5, Sc, Tr, Ch, Us))
def fX7_share (x1 : Int32) (x2 : Int32) (Ma : ST) (Fo : ST) (Sc : ST) (Se : ST) (Tr : ST) (Ch : ST) (Us : ST) : Option (Int32 × ST × ST × ST × ST × ST) :=
  dc_b1 (fX7_isSort x1) (fun r1 => (if r1 = 0 then fX7_share_14 Fo Se Ma Sc Tr Ch Us else dc_b1 (fX7_isChairs x2) (fun r7 => (if r7 = 0 then fX7_share_14 Fo Se Ma Sc Tr Ch Us else dc_b1 (fX0_start Ch Se Us) (fun Us_10 => dc_b4 (fX0_tally x2 Ch Fo Sc Tr Us_10) (fun Ch_12 Sc_13 Tr_14 Us_15 => dc_ck x1 4 (some ((Ch_12 3 (Int32.toNatClampNeg x1)), Ma, Sc_13, Tr_14, Ch_12, Us_15))))))))
abbrev rmX7_share : Room := { frames := 11, cells := 0, slots := 0, locals := 279 }
set_option maxRecDepth 100000 in
set_option maxHeartbeats 4000000 in
theorem tX7_share (l : Launch) (D : va_G) (cs : Nat → ClassId) (x : Nat → Nat) (g : Nat → Nat) (g2 : Nat → Nat) (g3 : Nat → Nat) (h : Nat → Nat) (t : Nat → Nat) (sa : Nat → Nat) (b : Nat → Nat) (c : Nat → Nat) (d : Nat → Nat) (a : Nat → Nat) (u : Nat → Nat) (x1 : Int32) (x2 : Int32) (Ma : ST) (Fo : ST) (Sc : ST) (Se : ST) (Tr : ST) (Ch : ST) (Us : ST) (r0 : Int32) (Maz : ST) (Scz : ST) (Trz : ST) (Chz : ST) (Usz : ST) (hf : fX7_share x1 x2 Ma Fo Sc Se Tr Ch Us = some (r0, Maz, Scz, Trz, Chz, Usz)) : CG l yX7_share (wsm yX7_share cX7_share 3 (some .int)) rmX7_share D cs [.ref (x 0), .int x1, .int x2] (some (.int r0)) ((kX7 cs x (.ref (g 0)) (.ref (g2 0)) (.ref (g3 0)) (.ref (h 0)) (.ref (t 0)) (.ref (sa 0)) Ma) ++ (kX2 cs g (.ref (b 0)) (.ref (c 0)) (.ref (d 0)) (.ref (a 0)) ) ++ (kX1 cs b  Fo) ++ (kX3 cs c  Sc) ++ (kX4 cs a (.ref (b 0)) (.ref (c 0)) (.ref (d 0)) Se) ++ (kX4 cs d (.ref (b 0)) (.ref (c 0)) .null Tr) ++ (kX0 cs h (.ref (g 0)) (.ref (u 0)) Ch) ++ (kX4 cs u (.ref (b 0)) (.ref (c 0)) (.ref (d 0)) Us)) ((kX7 cs x (.ref (g 0)) (.ref (g2 0)) (.ref (g3 0)) (.ref (h 0)) (.ref (t 0)) (.ref (sa 0)) Maz) ++ (kX2 cs g (.ref (b 0)) (.ref (c 0)) (.ref (d 0)) (.ref (a 0)) ) ++ (kX1 cs b  Fo) ++ (kX3 cs c  Scz) ++ (kX4 cs a (.ref (b 0)) (.ref (c 0)) (.ref (d 0)) Se) ++ (kX4 cs d (.ref (b 0)) (.ref (c 0)) .null Trz) ++ (kX0 cs h (.ref (g 0)) (.ref (u 0)) Chz) ++ (kX4 cs u (.ref (b 0)) (.ref (c 0)) (.ref (d 0)) Usz)) := by
  refine CG.intro (by decide) (Nat.le_of_ble_eq_true rfl) ?_
  intro p e s m below meth c A Q hx hb hml hown hu hK hZ hP0 hD0 hS0 hA hri hrz hrl hrv hra ls0 hl0
  have h14 : ∀ (Ma : ST) (Sc : ST) (Tr : ST) (Ch : ST) (Us : ST) (H : Heap) (locs : List Loc) (ls : Array Slot), va_P D vwCl ((kX7 cs x (.ref (g 0)) (.ref (g2 0)) (.ref (g3 0)) (.ref (h 0)) (.ref (t 0)) (.ref (sa 0)) Ma) ++ (kX2 cs g (.ref (b 0)) (.ref (c 0)) (.ref (d 0)) (.ref (a 0)) ) ++ (kX1 cs b  Fo) ++ (kX3 cs c  Sc) ++ (kX4 cs a (.ref (b 0)) (.ref (c 0)) (.ref (d 0)) Se) ++ (kX4 cs d (.ref (b 0)) (.ref (c 0)) .null Tr) ++ (kX0 cs h (.ref (g 0)) (.ref (u 0)) Ch) ++ (kX4 cs u (.ref (b 0)) (.ref (c 0)) (.ref (d 0)) Us)) H → va_D A ((kX7 cs x (.ref (g 0)) (.ref (g2 0)) (.ref (g3 0)) (.ref (h 0)) (.ref (t 0)) (.ref (sa 0)) Ma) ++ (kX2 cs g (.ref (b 0)) (.ref (c 0)) (.ref (d 0)) (.ref (a 0)) ) ++ (kX1 cs b  Fo) ++ (kX3 cs c  Sc) ++ (kX4 cs a (.ref (b 0)) (.ref (c 0)) (.ref (d 0)) Se) ++ (kX4 cs d (.ref (b 0)) (.ref (c 0)) .null Tr) ++ (kX0 cs h (.ref (g 0)) (.ref (u 0)) Ch) ++ (kX4 cs u (.ref (b 0)) (.ref (c 0)) (.ref (d 0)) Us)) → va_S A s.heap H locs → lv_has ls 3 [(0, .ref (x 0))] → fX7_share_14 Fo Se Ma Sc Tr Ch Us = some (r0, Maz, Scz, Trz, Chz, Usz) → W p l e rmX7_share s m [.ref (x 0), .int x1, .int x2].toArray below meth c H locs 0 0 Q (F0 m 14 ls []) := by
    intro Ma Sc Tr Ch Us H locs ls hP hD hS hl hf
    unfold fX7_share_14 at hf
    refine lv_aload_n hx hb dX7_share_14 rfl (lv_at hl 0 rfl) ?_
    refine lv_ldc (v := (-1000000001)) hx hb hown (hu _ q335) dX7_share_15 ?_
    obtain ⟨r4, Ma_5, hg6, hf⟩ := b2_el hf
    refine cc_V (w' := ((kX7 cs x (.ref (g 0)) (.ref (g2 0)) (.ref (g3 0)) (.ref (h 0)) (.ref (t 0)) (.ref (sa 0)) Ma_5) ++ (kX2 cs g (.ref (b 0)) (.ref (c 0)) (.ref (d 0)) (.ref (a 0)) ) ++ (kX1 cs b  Fo) ++ (kX3 cs c  Sc) ++ (kX4 cs a (.ref (b 0)) (.ref (c 0)) (.ref (d 0)) Se) ++ (kX4 cs d (.ref (b 0)) (.ref (c 0)) .null Tr) ++ (kX0 cs h (.ref (g 0)) (.ref (u 0)) Ch) ++ (kX4 cs u (.ref (b 0)) (.ref (c 0)) (.ref (d 0)) Us))) (wr := ((kX2 cs g (.ref (b 0)) (.ref (c 0)) (.ref (d 0)) (.ref (a 0)) ) ++ (kX1 cs b  Fo) ++ (kX3 cs c  Sc) ++ (kX4 cs a (.ref (b 0)) (.ref (c 0)) (.ref (d 0)) Se) ++ (kX4 cs d (.ref (b 0)) (.ref (c 0)) .null Tr) ++ (kX0 cs h (.ref (g 0)) (.ref (u 0)) Ch) ++ (kX4 cs u (.ref (b 0)) (.ref (c 0)) (.ref (d 0)) Us))) (st1 := [.int r4]) [.int (-1000000001)] hx hb hml hown hu (tX7_finding l D cs x g g2 g3 h t sa (-1000000001) Ma r4 Ma_5 hg6) q339 q54 q336 q338 q0 pdX7_finding ⟨rfl, rfl, Nat.le_of_ble_eq_true rfl, Nat.le_of_ble_eq_true rfl⟩ hK hZ hP hD hS hA [0, 1] [2, 3, 4, 5, 6, 7, 8, 9, 10, 11, 12, 13, 14, 15, 16, 17, 18, 19, 20, 21, 22, 23, 24, 25, 26, 27, 28, 29] [28, 29, 0, 1, 2, 3, 4, 5, 6, 7, 8, 9, 10, 11, 12, 13, 14, 15, 16, 17, 18, 19, 20, 21, 22, 23, 24, 25, 26, 27] rfl rfl rfl rfl rfl rfl rfl rfl rfl rfl hl.1 rfl (Nat.le_of_ble_eq_true rfl) dX7_share_17 rfl (fun H locs hP hD hS => ?_)
    have he := Option.some.inj hf
    obtain ⟨e0, ht0⟩ := Prod.mk.inj he
    obtain ⟨e1, ht1⟩ := Prod.mk.inj ht0
    obtain ⟨e2, ht2⟩ := Prod.mk.inj ht1
    obtain ⟨e3, ht3⟩ := Prod.mk.inj ht2
    obtain ⟨e4, e5⟩ := Prod.mk.inj ht3
    exact hri _ _ _ rfl (congrArg (fun z => some (Value.int z)) e0.symm) dX7_share_20 _ _ _ (by rw [e1, e2, e3, e4, e5]) hP hD hS
  have hl : lv_has ls0 3 [(0, .ref (x 0)), (1, .int x1), (2, .int x2)] := hl0
  have hP := hP0
  have hD := hD0
  have hS := hS0
  unfold fX7_share at hf
  refine lv_iload_n hx hb dX7_share_0 rfl (lv_at hl 1 rfl) ?_
  obtain ⟨r1, hg2, hf⟩ := b1_el hf
  refine cc_S0 (st1 := [.int r1]) [.int x1] hx hb hml hown hu (tX7_isSort l D cs x1 r1 hg2) q334 q54 q332 q333 pdX7_isSort ⟨rfl, rfl, Nat.le_of_ble_eq_true rfl, Nat.le_of_ble_eq_true rfl⟩ hK hZ hP hD hS hA rfl hl.1 rfl (Nat.le_of_ble_eq_true rfl) dX7_share_1 rfl (fun H locs hP hD hS => ?_)
  refine lv_if_eq (tgt := 14) hx hb dX7_share_4 (by decide) (fun hc3 => ?_) (fun hc3 => ?_)
  · have hf := ip_el hc3 hf
    exact h14 Ma Sc Tr Ch Us _ _ _ hP hD hS (lv_sub hl [0] rfl) hf
  · have hf := in_el hc3 hf
    refine lv_iload_n hx hb dX7_share_7 rfl (lv_at hl 2 rfl) ?_
    obtain ⟨r7, hg8, hf⟩ := b1_el hf
    refine cc_S0 (st1 := [.int r7]) [.int x2] hx hb hml hown hu (tX7_isChairs l D cs x2 r7 hg8) q566 q54 q564 q565 pdX7_isChairs ⟨rfl, rfl, Nat.le_of_ble_eq_true rfl, Nat.le_of_ble_eq_true rfl⟩ hK hZ hP hD hS hA rfl hl.1 rfl (Nat.le_of_ble_eq_true rfl) dX7_share_8 rfl (fun H locs hP hD hS => ?_)
    refine lv_if_ne (tgt := 21) hx hb dX7_share_11 (by decide) (fun hc9 => ?_) (fun hc9 => ?_)
    · have hf := in_el hc9 hf
      refine lv_aload_n hx hb dX7_share_21 rfl (lv_at hl 0 rfl) ?_
      refine va_get (D := D) (ci := 7) (v := .ref (h 0)) (C := RX7) (T := TX7) (N := 8) hx hb hu inX7 hown hK.1 hP 0 rfl rfl 3 (by decide) (hu _ q303) (fun _ h9 => h9) rfl dX7_share_22 ?_
      obtain ⟨Us_10, hg11, hf⟩ := b1_el hf
      refine cc_V (w' := ((kX7 cs x (.ref (g 0)) (.ref (g2 0)) (.ref (g3 0)) (.ref (h 0)) (.ref (t 0)) (.ref (sa 0)) Ma) ++ (kX2 cs g (.ref (b 0)) (.ref (c 0)) (.ref (d 0)) (.ref (a 0)) ) ++ (kX1 cs b  Fo) ++ (kX3 cs c  Sc) ++ (kX4 cs a (.ref (b 0)) (.ref (c 0)) (.ref (d 0)) Se) ++ (kX4 cs d (.ref (b 0)) (.ref (c 0)) .null Tr) ++ (kX0 cs h (.ref (g 0)) (.ref (u 0)) Ch) ++ (kX4 cs u (.ref (b 0)) (.ref (c 0)) (.ref (d 0)) Us_10))) (wr := ((kX7 cs x (.ref (g 0)) (.ref (g2 0)) (.ref (g3 0)) (.ref (h 0)) (.ref (t 0)) (.ref (sa 0)) Ma) ++ (kX1 cs b  Fo) ++ (kX3 cs c  Sc) ++ (kX4 cs d (.ref (b 0)) (.ref (c 0)) .null Tr))) (st1 := []) [] hx hb hml hown hu (tX0_start l D cs h g u b c d a Ch Se Us Us_10 hg11) q570 q59 q567 q568 q569 pdX0_start ⟨rfl, rfl, Nat.le_of_ble_eq_true rfl, Nat.le_of_ble_eq_true rfl⟩ hK hZ hP hD hS hA [21, 22, 23, 24, 25, 2, 13, 14, 15, 16, 26, 27, 28, 29] [0, 1, 3, 4, 5, 6, 7, 8, 9, 10, 11, 12, 17, 18, 19, 20] [0, 1, 21, 2, 3, 4, 5, 6, 7, 8, 9, 10, 11, 22, 23, 24, 25, 12, 13, 14, 15, 16, 17, 18, 19, 20, 26, 27, 28, 29] rfl rfl rfl rfl rfl rfl rfl rfl rfl rfl hl.1 rfl (Nat.le_of_ble_eq_true rfl) dX7_share_25 rfl (fun H locs hP hD hS => ?_)
      refine lv_aload_n hx hb dX7_share_28 rfl (lv_at hl 0 rfl) ?_
      refine va_get (D := D) (ci := 7) (v := .ref (h 0)) (C := RX7) (T := TX7) (N := 8) hx hb hu inX7 hown hK.1 hP 0 rfl rfl 3 (by decide) (hu _ q303) (fun _ h9 => h9) rfl dX7_share_29 ?_
      refine lv_iload_n hx hb dX7_share_32 rfl (lv_at hl 2 rfl) ?_
      obtain ⟨Ch_12, Sc_13, Tr_14, Us_15, hg16, hf⟩ := b4_el hf
      refine cc_V (w' := ((kX7 cs x (.ref (g 0)) (.ref (g2 0)) (.ref (g3 0)) (.ref (h 0)) (.ref (t 0)) (.ref (sa 0)) Ma) ++ (kX2 cs g (.ref (b 0)) (.ref (c 0)) (.ref (d 0)) (.ref (a 0)) ) ++ (kX1 cs b  Fo) ++ (kX3 cs c  Sc_13) ++ (kX4 cs a (.ref (b 0)) (.ref (c 0)) (.ref (d 0)) Se) ++ (kX4 cs d (.ref (b 0)) (.ref (c 0)) .null Tr_14) ++ (kX0 cs h (.ref (g 0)) (.ref (u 0)) Ch_12) ++ (kX4 cs u (.ref (b 0)) (.ref (c 0)) (.ref (d 0)) Us_15))) (wr := ((kX7 cs x (.ref (g 0)) (.ref (g2 0)) (.ref (g3 0)) (.ref (h 0)) (.ref (t 0)) (.ref (sa 0)) Ma) ++ (kX4 cs a (.ref (b 0)) (.ref (c 0)) (.ref (d 0)) Se))) (st1 := []) [.int x2] hx hb hml hown hu (tX0_tally l D cs h g u b c d a x2 Ch Fo Sc Tr Us_10 Ch_12 Sc_13 Tr_14 Us_15 hg16) q602 q59 q599 q600 q601 pdX0_tally ⟨rfl, rfl, Nat.le_of_ble_eq_true rfl, Nat.le_of_ble_eq_true rfl⟩ hK hZ hP hD hS hA [21, 22, 23, 24, 25, 2, 3, 4, 5, 6, 7, 8, 9, 10, 11, 12, 17, 18, 19, 20, 26, 27, 28, 29] [0, 1, 13, 14, 15, 16] [0, 1, 11, 12, 13, 14, 15, 16, 17, 18, 19, 20, 21, 2, 3, 4, 5, 22, 23, 24, 25, 6, 7, 8, 9, 10, 26, 27, 28, 29] rfl rfl rfl rfl rfl rfl rfl rfl rfl rfl hl.1 rfl (Nat.le_of_ble_eq_true rfl) dX7_share_33 rfl (fun H locs hP hD hS => ?_)
      refine lv_aload_n hx hb dX7_share_36 rfl (lv_at hl 0 rfl) ?_
      refine va_get (D := D) (ci := 7) (v := .ref (h 0)) (C := RX7) (T := TX7) (N := 8) hx hb hu inX7 hown hK.1 hP 0 rfl rfl 3 (by decide) (hu _ q303) (fun _ h9 => h9) rfl dX7_share_37 ?_
      refine va_get (D := D) (ci := 0) (v := .ref (h 3)) (C := RX0) (T := TX0) (N := 8) hx hb hu inX0 hown hK.1 hP 21 rfl rfl 2 (by decide) (hu _ q226) (fun _ h9 => h9) rfl dX7_share_40 ?_
      refine lv_iload_n hx hb dX7_share_43 rfl (lv_at hl 1 rfl) ?_
      obtain ⟨hi17, hf⟩ := ck_el hf
      refine va_iald hx hb hK.1 hP 22 0 rfl rfl hi17 dX7_share_44 ?_
      have he := Option.some.inj hf
      obtain ⟨e0, ht0⟩ := Prod.mk.inj he
      obtain ⟨e1, ht1⟩ := Prod.mk.inj ht0
      obtain ⟨e2, ht2⟩ := Prod.mk.inj ht1
      obtain ⟨e3, ht3⟩ := Prod.mk.inj ht2
      obtain ⟨e4, e5⟩ := Prod.mk.inj ht3
      exact hri _ _ _ rfl (congrArg (fun z => some (Value.int z)) e0.symm) dX7_share_45 _ _ _ (by rw [e1, e2, e3, e4, e5]) hP hD hS
    · have hf := ip_el hc9 hf
      exact h14 Ma Sc Tr Ch Us _ _ _ hP hD hS (lv_sub hl [0] rfl) hf

def fX7_has_14 (Fo : ST) (Se : ST) (Ma : ST) (Sc : ST) (Tr : ST) (Ch : ST) (Us : ST) : Option (Int32 × ST × ST × ST × ST × ST) :=
  dc_b2 (fX7_finding (-1000000001) Ma) (fun r4 Ma_5 => some (r4, Ma_5, Sc, Tr, Ch, Us))
def fX7_has (x1 : Int32) (x2 : Int32) (Ma : ST) (Fo : ST) (Sc : ST) (Se : ST) (Tr : ST) (Ch : ST) (Us : ST) : Option (Int32 × ST × ST × ST × ST × ST) :=
  dc_b1 (fX7_isSort x1) (fun r1 => (if r1 = 0 then fX7_has_14 Fo Se Ma Sc Tr Ch Us else dc_b1 (fX7_isChairs x2) (fun r7 => (if r7 = 0 then fX7_has_14 Fo Se Ma Sc Tr Ch Us else dc_b1 (fX0_start Ch Se Us) (fun Us_10 => dc_b4 (fX0_tally x2 Ch Fo Sc Tr Us_10) (fun Ch_12 Sc_13 Tr_14 Us_15 => dc_b1 (fX0_worthFor x1 Ch_12 Fo) (fun r17 => some (r17, Ma, Sc_13, Tr_14, Ch_12, Us_15))))))))
abbrev rmX7_has : Room := { frames := 11, cells := 0, slots := 0, locals := 279 }
set_option maxRecDepth 100000 in
set_option maxHeartbeats 4000000 in
theorem tX7_has (l : Launch) (D : va_G) (cs : Nat → ClassId) (x : Nat → Nat) (g : Nat → Nat) (g2 : Nat → Nat) (g3 : Nat → Nat) (h : Nat → Nat) (t : Nat → Nat) (sa : Nat → Nat) (b : Nat → Nat) (c : Nat → Nat) (d : Nat → Nat) (a : Nat → Nat) (u : Nat → Nat) (x1 : Int32) (x2 : Int32) (Ma : ST) (Fo : ST) (Sc : ST) (Se : ST) (Tr : ST) (Ch : ST) (Us : ST) (r0 : Int32) (Maz : ST) (Scz : ST) (Trz : ST) (Chz : ST) (Usz : ST) (hf : fX7_has x1 x2 Ma Fo Sc Se Tr Ch Us = some (r0, Maz, Scz, Trz, Chz, Usz)) : CG l yX7_has (wsm yX7_has cX7_has 3 (some .int)) rmX7_has D cs [.ref (x 0), .int x1, .int x2] (some (.int r0)) ((kX7 cs x (.ref (g 0)) (.ref (g2 0)) (.ref (g3 0)) (.ref (h 0)) (.ref (t 0)) (.ref (sa 0)) Ma) ++ (kX2 cs g (.ref (b 0)) (.ref (c 0)) (.ref (d 0)) (.ref (a 0)) ) ++ (kX1 cs b  Fo) ++ (kX3 cs c  Sc) ++ (kX4 cs a (.ref (b 0)) (.ref (c 0)) (.ref (d 0)) Se) ++ (kX4 cs d (.ref (b 0)) (.ref (c 0)) .null Tr) ++ (kX0 cs h (.ref (g 0)) (.ref (u 0)) Ch) ++ (kX4 cs u (.ref (b 0)) (.ref (c 0)) (.ref (d 0)) Us)) ((kX7 cs x (.ref (g 0)) (.ref (g2 0)) (.ref (g3 0)) (.ref (h 0)) (.ref (t 0)) (.ref (sa 0)) Maz) ++ (kX2 cs g (.ref (b 0)) (.ref (c 0)) (.ref (d 0)) (.ref (a 0)) ) ++ (kX1 cs b  Fo) ++ (kX3 cs c  Scz) ++ (kX4 cs a (.ref (b 0)) (.ref (c 0)) (.ref (d 0)) Se) ++ (kX4 cs d (.ref (b 0)) (.ref (c 0)) .null Trz) ++ (kX0 cs h (.ref (g 0)) (.ref (u 0)) Chz) ++ (kX4 cs u (.ref (b 0)) (.ref (c 0)) (.ref (d 0)) Usz)) := by
  refine CG.intro (by decide) (Nat.le_of_ble_eq_true rfl) ?_
  intro p e s m below meth c A Q hx hb hml hown hu hK hZ hP0 hD0 hS0 hA hri hrz hrl hrv hra ls0 hl0
  have h14 : ∀ (Ma : ST) (Sc : ST) (Tr : ST) (Ch : ST) (Us : ST) (H : Heap) (locs : List Loc) (ls : Array Slot), va_P D vwCl ((kX7 cs x (.ref (g 0)) (.ref (g2 0)) (.ref (g3 0)) (.ref (h 0)) (.ref (t 0)) (.ref (sa 0)) Ma) ++ (kX2 cs g (.ref (b 0)) (.ref (c 0)) (.ref (d 0)) (.ref (a 0)) ) ++ (kX1 cs b  Fo) ++ (kX3 cs c  Sc) ++ (kX4 cs a (.ref (b 0)) (.ref (c 0)) (.ref (d 0)) Se) ++ (kX4 cs d (.ref (b 0)) (.ref (c 0)) .null Tr) ++ (kX0 cs h (.ref (g 0)) (.ref (u 0)) Ch) ++ (kX4 cs u (.ref (b 0)) (.ref (c 0)) (.ref (d 0)) Us)) H → va_D A ((kX7 cs x (.ref (g 0)) (.ref (g2 0)) (.ref (g3 0)) (.ref (h 0)) (.ref (t 0)) (.ref (sa 0)) Ma) ++ (kX2 cs g (.ref (b 0)) (.ref (c 0)) (.ref (d 0)) (.ref (a 0)) ) ++ (kX1 cs b  Fo) ++ (kX3 cs c  Sc) ++ (kX4 cs a (.ref (b 0)) (.ref (c 0)) (.ref (d 0)) Se) ++ (kX4 cs d (.ref (b 0)) (.ref (c 0)) .null Tr) ++ (kX0 cs h (.ref (g 0)) (.ref (u 0)) Ch) ++ (kX4 cs u (.ref (b 0)) (.ref (c 0)) (.ref (d 0)) Us)) → va_S A s.heap H locs → lv_has ls 3 [(0, .ref (x 0))] → fX7_has_14 Fo Se Ma Sc Tr Ch Us = some (r0, Maz, Scz, Trz, Chz, Usz) → W p l e rmX7_has s m [.ref (x 0), .int x1, .int x2].toArray below meth c H locs 0 0 Q (F0 m 14 ls []) := by
    intro Ma Sc Tr Ch Us H locs ls hP hD hS hl hf
    unfold fX7_has_14 at hf
    refine lv_aload_n hx hb dX7_has_14 rfl (lv_at hl 0 rfl) ?_
    refine lv_ldc (v := (-1000000001)) hx hb hown (hu _ q335) dX7_has_15 ?_
    obtain ⟨r4, Ma_5, hg6, hf⟩ := b2_el hf
    refine cc_V (w' := ((kX7 cs x (.ref (g 0)) (.ref (g2 0)) (.ref (g3 0)) (.ref (h 0)) (.ref (t 0)) (.ref (sa 0)) Ma_5) ++ (kX2 cs g (.ref (b 0)) (.ref (c 0)) (.ref (d 0)) (.ref (a 0)) ) ++ (kX1 cs b  Fo) ++ (kX3 cs c  Sc) ++ (kX4 cs a (.ref (b 0)) (.ref (c 0)) (.ref (d 0)) Se) ++ (kX4 cs d (.ref (b 0)) (.ref (c 0)) .null Tr) ++ (kX0 cs h (.ref (g 0)) (.ref (u 0)) Ch) ++ (kX4 cs u (.ref (b 0)) (.ref (c 0)) (.ref (d 0)) Us))) (wr := ((kX2 cs g (.ref (b 0)) (.ref (c 0)) (.ref (d 0)) (.ref (a 0)) ) ++ (kX1 cs b  Fo) ++ (kX3 cs c  Sc) ++ (kX4 cs a (.ref (b 0)) (.ref (c 0)) (.ref (d 0)) Se) ++ (kX4 cs d (.ref (b 0)) (.ref (c 0)) .null Tr) ++ (kX0 cs h (.ref (g 0)) (.ref (u 0)) Ch) ++ (kX4 cs u (.ref (b 0)) (.ref (c 0)) (.ref (d 0)) Us))) (st1 := [.int r4]) [.int (-1000000001)] hx hb hml hown hu (tX7_finding l D cs x g g2 g3 h t sa (-1000000001) Ma r4 Ma_5 hg6) q339 q54 q336 q338 q0 pdX7_finding ⟨rfl, rfl, Nat.le_of_ble_eq_true rfl, Nat.le_of_ble_eq_true rfl⟩ hK hZ hP hD hS hA [0, 1] [2, 3, 4, 5, 6, 7, 8, 9, 10, 11, 12, 13, 14, 15, 16, 17, 18, 19, 20, 21, 22, 23, 24, 25, 26, 27, 28, 29] [28, 29, 0, 1, 2, 3, 4, 5, 6, 7, 8, 9, 10, 11, 12, 13, 14, 15, 16, 17, 18, 19, 20, 21, 22, 23, 24, 25, 26, 27] rfl rfl rfl rfl rfl rfl rfl rfl rfl rfl hl.1 rfl (Nat.le_of_ble_eq_true rfl) dX7_has_17 rfl (fun H locs hP hD hS => ?_)
    have he := Option.some.inj hf
    obtain ⟨e0, ht0⟩ := Prod.mk.inj he
    obtain ⟨e1, ht1⟩ := Prod.mk.inj ht0
    obtain ⟨e2, ht2⟩ := Prod.mk.inj ht1
    obtain ⟨e3, ht3⟩ := Prod.mk.inj ht2
    obtain ⟨e4, e5⟩ := Prod.mk.inj ht3
    exact hri _ _ _ rfl (congrArg (fun z => some (Value.int z)) e0.symm) dX7_has_20 _ _ _ (by rw [e1, e2, e3, e4, e5]) hP hD hS
  have hl : lv_has ls0 3 [(0, .ref (x 0)), (1, .int x1), (2, .int x2)] := hl0
  have hP := hP0
  have hD := hD0
  have hS := hS0
  unfold fX7_has at hf
  refine lv_iload_n hx hb dX7_has_0 rfl (lv_at hl 1 rfl) ?_
  obtain ⟨r1, hg2, hf⟩ := b1_el hf
  refine cc_S0 (st1 := [.int r1]) [.int x1] hx hb hml hown hu (tX7_isSort l D cs x1 r1 hg2) q334 q54 q332 q333 pdX7_isSort ⟨rfl, rfl, Nat.le_of_ble_eq_true rfl, Nat.le_of_ble_eq_true rfl⟩ hK hZ hP hD hS hA rfl hl.1 rfl (Nat.le_of_ble_eq_true rfl) dX7_has_1 rfl (fun H locs hP hD hS => ?_)
  refine lv_if_eq (tgt := 14) hx hb dX7_has_4 (by decide) (fun hc3 => ?_) (fun hc3 => ?_)
  · have hf := ip_el hc3 hf
    exact h14 Ma Sc Tr Ch Us _ _ _ hP hD hS (lv_sub hl [0] rfl) hf
  · have hf := in_el hc3 hf
    refine lv_iload_n hx hb dX7_has_7 rfl (lv_at hl 2 rfl) ?_
    obtain ⟨r7, hg8, hf⟩ := b1_el hf
    refine cc_S0 (st1 := [.int r7]) [.int x2] hx hb hml hown hu (tX7_isChairs l D cs x2 r7 hg8) q566 q54 q564 q565 pdX7_isChairs ⟨rfl, rfl, Nat.le_of_ble_eq_true rfl, Nat.le_of_ble_eq_true rfl⟩ hK hZ hP hD hS hA rfl hl.1 rfl (Nat.le_of_ble_eq_true rfl) dX7_has_8 rfl (fun H locs hP hD hS => ?_)
    refine lv_if_ne (tgt := 21) hx hb dX7_has_11 (by decide) (fun hc9 => ?_) (fun hc9 => ?_)
    · have hf := in_el hc9 hf
      refine lv_aload_n hx hb dX7_has_21 rfl (lv_at hl 0 rfl) ?_
      refine va_get (D := D) (ci := 7) (v := .ref (h 0)) (C := RX7) (T := TX7) (N := 8) hx hb hu inX7 hown hK.1 hP 0 rfl rfl 3 (by decide) (hu _ q303) (fun _ h9 => h9) rfl dX7_has_22 ?_
      obtain ⟨Us_10, hg11, hf⟩ := b1_el hf
      refine cc_V (w' := ((kX7 cs x (.ref (g 0)) (.ref (g2 0)) (.ref (g3 0)) (.ref (h 0)) (.ref (t 0)) (.ref (sa 0)) Ma) ++ (kX2 cs g (.ref (b 0)) (.ref (c 0)) (.ref (d 0)) (.ref (a 0)) ) ++ (kX1 cs b  Fo) ++ (kX3 cs c  Sc) ++ (kX4 cs a (.ref (b 0)) (.ref (c 0)) (.ref (d 0)) Se) ++ (kX4 cs d (.ref (b 0)) (.ref (c 0)) .null Tr) ++ (kX0 cs h (.ref (g 0)) (.ref (u 0)) Ch) ++ (kX4 cs u (.ref (b 0)) (.ref (c 0)) (.ref (d 0)) Us_10))) (wr := ((kX7 cs x (.ref (g 0)) (.ref (g2 0)) (.ref (g3 0)) (.ref (h 0)) (.ref (t 0)) (.ref (sa 0)) Ma) ++ (kX1 cs b  Fo) ++ (kX3 cs c  Sc) ++ (kX4 cs d (.ref (b 0)) (.ref (c 0)) .null Tr))) (st1 := []) [] hx hb hml hown hu (tX0_start l D cs h g u b c d a Ch Se Us Us_10 hg11) q570 q59 q567 q568 q569 pdX0_start ⟨rfl, rfl, Nat.le_of_ble_eq_true rfl, Nat.le_of_ble_eq_true rfl⟩ hK hZ hP hD hS hA [21, 22, 23, 24, 25, 2, 13, 14, 15, 16, 26, 27, 28, 29] [0, 1, 3, 4, 5, 6, 7, 8, 9, 10, 11, 12, 17, 18, 19, 20] [0, 1, 21, 2, 3, 4, 5, 6, 7, 8, 9, 10, 11, 22, 23, 24, 25, 12, 13, 14, 15, 16, 17, 18, 19, 20, 26, 27, 28, 29] rfl rfl rfl rfl rfl rfl rfl rfl rfl rfl hl.1 rfl (Nat.le_of_ble_eq_true rfl) dX7_has_25 rfl (fun H locs hP hD hS => ?_)
      refine lv_aload_n hx hb dX7_has_28 rfl (lv_at hl 0 rfl) ?_
      refine va_get (D := D) (ci := 7) (v := .ref (h 0)) (C := RX7) (T := TX7) (N := 8) hx hb hu inX7 hown hK.1 hP 0 rfl rfl 3 (by decide) (hu _ q303) (fun _ h9 => h9) rfl dX7_has_29 ?_
      refine lv_iload_n hx hb dX7_has_32 rfl (lv_at hl 2 rfl) ?_
      obtain ⟨Ch_12, Sc_13, Tr_14, Us_15, hg16, hf⟩ := b4_el hf
      refine cc_V (w' := ((kX7 cs x (.ref (g 0)) (.ref (g2 0)) (.ref (g3 0)) (.ref (h 0)) (.ref (t 0)) (.ref (sa 0)) Ma) ++ (kX2 cs g (.ref (b 0)) (.ref (c 0)) (.ref (d 0)) (.ref (a 0)) ) ++ (kX1 cs b  Fo) ++ (kX3 cs c  Sc_13) ++ (kX4 cs a (.ref (b 0)) (.ref (c 0)) (.ref (d 0)) Se) ++ (kX4 cs d (.ref (b 0)) (.ref (c 0)) .null Tr_14) ++ (kX0 cs h (.ref (g 0)) (.ref (u 0)) Ch_12) ++ (kX4 cs u (.ref (b 0)) (.ref (c 0)) (.ref (d 0)) Us_15))) (wr := ((kX7 cs x (.ref (g 0)) (.ref (g2 0)) (.ref (g3 0)) (.ref (h 0)) (.ref (t 0)) (.ref (sa 0)) Ma) ++ (kX4 cs a (.ref (b 0)) (.ref (c 0)) (.ref (d 0)) Se))) (st1 := []) [.int x2] hx hb hml hown hu (tX0_tally l D cs h g u b c d a x2 Ch Fo Sc Tr Us_10 Ch_12 Sc_13 Tr_14 Us_15 hg16) q602 q59 q599 q600 q601 pdX0_tally ⟨rfl, rfl, Nat.le_of_ble_eq_true rfl, Nat.le_of_ble_eq_true rfl⟩ hK hZ hP hD hS hA [21, 22, 23, 24, 25, 2, 3, 4, 5, 6, 7, 8, 9, 10, 11, 12, 17, 18, 19, 20, 26, 27, 28, 29] [0, 1, 13, 14, 15, 16] [0, 1, 11, 12, 13, 14, 15, 16, 17, 18, 19, 20, 21, 2, 3, 4, 5, 22, 23, 24, 25, 6, 7, 8, 9, 10, 26, 27, 28, 29] rfl rfl rfl rfl rfl rfl rfl rfl rfl rfl hl.1 rfl (Nat.le_of_ble_eq_true rfl) dX7_has_33 rfl (fun H locs hP hD hS => ?_)
      refine lv_aload_n hx hb dX7_has_36 rfl (lv_at hl 0 rfl) ?_
      refine va_get (D := D) (ci := 7) (v := .ref (h 0)) (C := RX7) (T := TX7) (N := 8) hx hb hu inX7 hown hK.1 hP 0 rfl rfl 3 (by decide) (hu _ q303) (fun _ h9 => h9) rfl dX7_has_37 ?_
      refine lv_iload_n hx hb dX7_has_40 rfl (lv_at hl 1 rfl) ?_
      obtain ⟨r17, hg18, hf⟩ := b1_el hf
      refine cc_V (w' := ((kX7 cs x (.ref (g 0)) (.ref (g2 0)) (.ref (g3 0)) (.ref (h 0)) (.ref (t 0)) (.ref (sa 0)) Ma) ++ (kX2 cs g (.ref (b 0)) (.ref (c 0)) (.ref (d 0)) (.ref (a 0)) ) ++ (kX1 cs b  Fo) ++ (kX3 cs c  Sc_13) ++ (kX4 cs a (.ref (b 0)) (.ref (c 0)) (.ref (d 0)) Se) ++ (kX4 cs d (.ref (b 0)) (.ref (c 0)) .null Tr_14) ++ (kX0 cs h (.ref (g 0)) (.ref (u 0)) Ch_12) ++ (kX4 cs u (.ref (b 0)) (.ref (c 0)) (.ref (d 0)) Us_15))) (wr := ((kX7 cs x (.ref (g 0)) (.ref (g2 0)) (.ref (g3 0)) (.ref (h 0)) (.ref (t 0)) (.ref (sa 0)) Ma) ++ (kX3 cs c  Sc_13) ++ (kX4 cs a (.ref (b 0)) (.ref (c 0)) (.ref (d 0)) Se) ++ (kX4 cs d (.ref (b 0)) (.ref (c 0)) .null Tr_14) ++ (kX4 cs u (.ref (b 0)) (.ref (c 0)) (.ref (d 0)) Us_15))) (st1 := [.int r17]) [.int x1] hx hb hml hown hu (tX0_worthFor l D cs h g u b c d a x1 Ch_12 Fo r17 hg18) q613 q59 q610 q611 q612 pdX0_worthFor ⟨rfl, rfl, Nat.le_of_ble_eq_true rfl, Nat.le_of_ble_eq_true rfl⟩ hK hZ hP hD hS hA [21, 22, 23, 24, 25, 2, 3, 4, 5, 6, 7, 8, 9] [0, 1, 10, 11, 12, 13, 14, 15, 16, 17, 18, 19, 20, 26, 27, 28, 29] [0, 1, 22, 23, 24, 25, 26, 27, 28, 29, 2, 3, 4, 5, 6, 7, 8, 9, 10, 11, 12, 17, 18, 19, 20, 21, 13, 14, 15, 16] rfl rfl rfl rfl rfl rfl rfl rfl rfl rfl hl.1 rfl (Nat.le_of_ble_eq_true rfl) dX7_has_41 rfl (fun H locs hP hD hS => ?_)
      have he := Option.some.inj hf
      obtain ⟨e0, ht0⟩ := Prod.mk.inj he
      obtain ⟨e1, ht1⟩ := Prod.mk.inj ht0
      obtain ⟨e2, ht2⟩ := Prod.mk.inj ht1
      obtain ⟨e3, ht3⟩ := Prod.mk.inj ht2
      obtain ⟨e4, e5⟩ := Prod.mk.inj ht3
      exact hri _ _ _ rfl (congrArg (fun z => some (Value.int z)) e0.symm) dX7_has_44 _ _ _ (by rw [e1, e2, e3, e4, e5]) hP hD hS
    · have hf := ip_el hc9 hf
      exact h14 Ma Sc Tr Ch Us _ _ _ hP hD hS (lv_sub hl [0] rfl) hf

def fX7_but_31 (Fo : ST) (Se : ST) (Ma : ST) (Sc : ST) (Tr : ST) (Ch : ST) (Us : ST) : Option (Int32 × ST × ST × ST × ST × ST) :=
  dc_b2 (fX7_finding (-1000000001) Ma) (fun r6 Ma_7 => some (r6, Ma_7, Sc, Tr, Ch, Us))
def fX7_but (x1 : Int32) (x2 : Int32) (x3 : Int32) (Ma : ST) (Fo : ST) (Sc : ST) (Se : ST) (Tr : ST) (Ch : ST) (Us : ST) : Option (Int32 × ST × ST × ST × ST × ST) :=
  dc_ck 0 6 (dc_ck 0 6 (dc_b1 (fX7_within x1 (tabL (Int32.toNatClampNeg 0)) (tabM (Int32.toNatClampNeg 0))) (fun r3 => (if r3 = 0 then fX7_but_31 Fo Se Ma Sc Tr Ch Us else dc_b1 (fX7_isSort x2) (fun r9 => (if r9 = 0 then fX7_but_31 Fo Se Ma Sc Tr Ch Us else dc_b1 (fX7_isChairs x3) (fun r12 => (if r12 = 0 then fX7_but_31 Fo Se Ma Sc Tr Ch Us else dc_b1 (fX0_start Ch Se Us) (fun Us_15 => dc_b1 (fX4_giveRule 0 x1 Us_15) (fun Us_17 => dc_b4 (fX0_tally x3 Ch Fo Sc Tr Us_17) (fun Ch_19 Sc_20 Tr_21 Us_22 => dc_b1 (fX0_worthFor x2 Ch_19 Fo) (fun r24 => some (r24, Ma, Sc_20, Tr_21, Ch_19, Us_22)))))))))))))
abbrev rmX7_but : Room := { frames := 11, cells := 0, slots := 0, locals := 279 }
set_option maxRecDepth 100000 in
set_option maxHeartbeats 4000000 in
theorem tX7_but (l : Launch) (D : va_G) (cs : Nat → ClassId) (x : Nat → Nat) (g : Nat → Nat) (g2 : Nat → Nat) (g3 : Nat → Nat) (h : Nat → Nat) (t : Nat → Nat) (sa : Nat → Nat) (b : Nat → Nat) (c : Nat → Nat) (d : Nat → Nat) (a : Nat → Nat) (u : Nat → Nat) (x1 : Int32) (x2 : Int32) (x3 : Int32) (Ma : ST) (Fo : ST) (Sc : ST) (Se : ST) (Tr : ST) (Ch : ST) (Us : ST) (r0 : Int32) (Maz : ST) (Scz : ST) (Trz : ST) (Chz : ST) (Usz : ST) (hf : fX7_but x1 x2 x3 Ma Fo Sc Se Tr Ch Us = some (r0, Maz, Scz, Trz, Chz, Usz)) : CG l yX7_but (wsm yX7_but cX7_but 4 (some .int)) rmX7_but D cs [.ref (x 0), .int x1, .int x2, .int x3] (some (.int r0)) ((kX7 cs x (.ref (g 0)) (.ref (g2 0)) (.ref (g3 0)) (.ref (h 0)) (.ref (t 0)) (.ref (sa 0)) Ma) ++ (kX2 cs g (.ref (b 0)) (.ref (c 0)) (.ref (d 0)) (.ref (a 0)) ) ++ (kX1 cs b  Fo) ++ (kX3 cs c  Sc) ++ (kX4 cs a (.ref (b 0)) (.ref (c 0)) (.ref (d 0)) Se) ++ (kX4 cs d (.ref (b 0)) (.ref (c 0)) .null Tr) ++ (kX0 cs h (.ref (g 0)) (.ref (u 0)) Ch) ++ (kX4 cs u (.ref (b 0)) (.ref (c 0)) (.ref (d 0)) Us)) ((kX7 cs x (.ref (g 0)) (.ref (g2 0)) (.ref (g3 0)) (.ref (h 0)) (.ref (t 0)) (.ref (sa 0)) Maz) ++ (kX2 cs g (.ref (b 0)) (.ref (c 0)) (.ref (d 0)) (.ref (a 0)) ) ++ (kX1 cs b  Fo) ++ (kX3 cs c  Scz) ++ (kX4 cs a (.ref (b 0)) (.ref (c 0)) (.ref (d 0)) Se) ++ (kX4 cs d (.ref (b 0)) (.ref (c 0)) .null Trz) ++ (kX0 cs h (.ref (g 0)) (.ref (u 0)) Chz) ++ (kX4 cs u (.ref (b 0)) (.ref (c 0)) (.ref (d 0)) Usz)) := by
  refine CG.intro (by decide) (Nat.le_of_ble_eq_true rfl) ?_
  intro p e s m below meth c A Q hx hb hml hown hu hK hZ hP0 hD0 hS0 hA hri hrz hrl hrv hra ls0 hl0
  have h31 : ∀ (Ma : ST) (Sc : ST) (Tr : ST) (Ch : ST) (Us : ST) (H : Heap) (locs : List Loc) (ls : Array Slot), va_P D vwCl ((kX7 cs x (.ref (g 0)) (.ref (g2 0)) (.ref (g3 0)) (.ref (h 0)) (.ref (t 0)) (.ref (sa 0)) Ma) ++ (kX2 cs g (.ref (b 0)) (.ref (c 0)) (.ref (d 0)) (.ref (a 0)) ) ++ (kX1 cs b  Fo) ++ (kX3 cs c  Sc) ++ (kX4 cs a (.ref (b 0)) (.ref (c 0)) (.ref (d 0)) Se) ++ (kX4 cs d (.ref (b 0)) (.ref (c 0)) .null Tr) ++ (kX0 cs h (.ref (g 0)) (.ref (u 0)) Ch) ++ (kX4 cs u (.ref (b 0)) (.ref (c 0)) (.ref (d 0)) Us)) H → va_D A ((kX7 cs x (.ref (g 0)) (.ref (g2 0)) (.ref (g3 0)) (.ref (h 0)) (.ref (t 0)) (.ref (sa 0)) Ma) ++ (kX2 cs g (.ref (b 0)) (.ref (c 0)) (.ref (d 0)) (.ref (a 0)) ) ++ (kX1 cs b  Fo) ++ (kX3 cs c  Sc) ++ (kX4 cs a (.ref (b 0)) (.ref (c 0)) (.ref (d 0)) Se) ++ (kX4 cs d (.ref (b 0)) (.ref (c 0)) .null Tr) ++ (kX0 cs h (.ref (g 0)) (.ref (u 0)) Ch) ++ (kX4 cs u (.ref (b 0)) (.ref (c 0)) (.ref (d 0)) Us)) → va_S A s.heap H locs → lv_has ls 4 [(0, .ref (x 0))] → fX7_but_31 Fo Se Ma Sc Tr Ch Us = some (r0, Maz, Scz, Trz, Chz, Usz) → W p l e rmX7_but s m [.ref (x 0), .int x1, .int x2, .int x3].toArray below meth c H locs 0 0 Q (F0 m 31 ls []) := by
    intro Ma Sc Tr Ch Us H locs ls hP hD hS hl hf
    unfold fX7_but_31 at hf
    refine lv_aload_n hx hb dX7_but_31 rfl (lv_at hl 0 rfl) ?_
    refine lv_ldc (v := (-1000000001)) hx hb hown (hu _ q335) dX7_but_32 ?_
    obtain ⟨r6, Ma_7, hg8, hf⟩ := b2_el hf
    refine cc_V (w' := ((kX7 cs x (.ref (g 0)) (.ref (g2 0)) (.ref (g3 0)) (.ref (h 0)) (.ref (t 0)) (.ref (sa 0)) Ma_7) ++ (kX2 cs g (.ref (b 0)) (.ref (c 0)) (.ref (d 0)) (.ref (a 0)) ) ++ (kX1 cs b  Fo) ++ (kX3 cs c  Sc) ++ (kX4 cs a (.ref (b 0)) (.ref (c 0)) (.ref (d 0)) Se) ++ (kX4 cs d (.ref (b 0)) (.ref (c 0)) .null Tr) ++ (kX0 cs h (.ref (g 0)) (.ref (u 0)) Ch) ++ (kX4 cs u (.ref (b 0)) (.ref (c 0)) (.ref (d 0)) Us))) (wr := ((kX2 cs g (.ref (b 0)) (.ref (c 0)) (.ref (d 0)) (.ref (a 0)) ) ++ (kX1 cs b  Fo) ++ (kX3 cs c  Sc) ++ (kX4 cs a (.ref (b 0)) (.ref (c 0)) (.ref (d 0)) Se) ++ (kX4 cs d (.ref (b 0)) (.ref (c 0)) .null Tr) ++ (kX0 cs h (.ref (g 0)) (.ref (u 0)) Ch) ++ (kX4 cs u (.ref (b 0)) (.ref (c 0)) (.ref (d 0)) Us))) (st1 := [.int r6]) [.int (-1000000001)] hx hb hml hown hu (tX7_finding l D cs x g g2 g3 h t sa (-1000000001) Ma r6 Ma_7 hg8) q339 q54 q336 q338 q0 pdX7_finding ⟨rfl, rfl, Nat.le_of_ble_eq_true rfl, Nat.le_of_ble_eq_true rfl⟩ hK hZ hP hD hS hA [0, 1] [2, 3, 4, 5, 6, 7, 8, 9, 10, 11, 12, 13, 14, 15, 16, 17, 18, 19, 20, 21, 22, 23, 24, 25, 26, 27, 28, 29] [28, 29, 0, 1, 2, 3, 4, 5, 6, 7, 8, 9, 10, 11, 12, 13, 14, 15, 16, 17, 18, 19, 20, 21, 22, 23, 24, 25, 26, 27] rfl rfl rfl rfl rfl rfl rfl rfl rfl rfl hl.1 rfl (Nat.le_of_ble_eq_true rfl) dX7_but_34 rfl (fun H locs hP hD hS => ?_)
    have he := Option.some.inj hf
    obtain ⟨e0, ht0⟩ := Prod.mk.inj he
    obtain ⟨e1, ht1⟩ := Prod.mk.inj ht0
    obtain ⟨e2, ht2⟩ := Prod.mk.inj ht1
    obtain ⟨e3, ht3⟩ := Prod.mk.inj ht2
    obtain ⟨e4, e5⟩ := Prod.mk.inj ht3
    exact hri _ _ _ rfl (congrArg (fun z => some (Value.int z)) e0.symm) dX7_but_37 _ _ _ (by rw [e1, e2, e3, e4, e5]) hP hD hS
  have hl : lv_has ls0 4 [(0, .ref (x 0)), (1, .int x1), (2, .int x2), (3, .int x3)] := hl0
  have hP := hP0
  have hD := hD0
  have hS := hS0
  unfold fX7_but at hf
  refine lv_iload_n hx hb dX7_but_0 rfl (lv_at hl 1 rfl) ?_
  refine va_gets hx hb hZ.2.1.1 hS hown (hu _ q482) (fun _ h9 => h9) dX7_but_1 ?_
  refine lv_iconst (v := 0) hx hb dX7_but_4 (by decide) ?_
  obtain ⟨hi1, hf⟩ := ck_el hf
  refine va_ti (v := .int (tabL (Int32.toNatClampNeg 0))) hx hb hZ.2.1.2 hS hi1 rfl dX7_but_5 ?_
  refine va_gets hx hb hZ.2.2.1.1 hS hown (hu _ q484) (fun _ h9 => h9) dX7_but_6 ?_
  refine lv_iconst (v := 0) hx hb dX7_but_9 (by decide) ?_
  obtain ⟨hi2, hf⟩ := ck_el hf
  refine va_ti (v := .int (tabM (Int32.toNatClampNeg 0))) hx hb hZ.2.2.1.2 hS hi2 rfl dX7_but_10 ?_
  obtain ⟨r3, hg4, hf⟩ := b1_el hf
  refine cc_S0 (st1 := [.int r3]) [.int x1, .int (tabL (Int32.toNatClampNeg 0)), .int (tabM (Int32.toNatClampNeg 0))] hx hb hml hown hu (tX7_within l D cs x1 (tabL (Int32.toNatClampNeg 0)) (tabM (Int32.toNatClampNeg 0)) r3 hg4) q331 q54 q329 q330 pdX7_within ⟨rfl, rfl, Nat.le_of_ble_eq_true rfl, Nat.le_of_ble_eq_true rfl⟩ hK hZ hP hD hS hA rfl hl.1 rfl (Nat.le_of_ble_eq_true rfl) dX7_but_11 rfl (fun H locs hP hD hS => ?_)
  refine lv_if_eq (tgt := 31) hx hb dX7_but_14 (by decide) (fun hc5 => ?_) (fun hc5 => ?_)
  · have hf := ip_el hc5 hf
    exact h31 Ma Sc Tr Ch Us _ _ _ hP hD hS (lv_sub hl [0] rfl) hf
  · have hf := in_el hc5 hf
    refine lv_iload_n hx hb dX7_but_17 rfl (lv_at hl 2 rfl) ?_
    obtain ⟨r9, hg10, hf⟩ := b1_el hf
    refine cc_S0 (st1 := [.int r9]) [.int x2] hx hb hml hown hu (tX7_isSort l D cs x2 r9 hg10) q334 q54 q332 q333 pdX7_isSort ⟨rfl, rfl, Nat.le_of_ble_eq_true rfl, Nat.le_of_ble_eq_true rfl⟩ hK hZ hP hD hS hA rfl hl.1 rfl (Nat.le_of_ble_eq_true rfl) dX7_but_18 rfl (fun H locs hP hD hS => ?_)
    refine lv_if_eq (tgt := 31) hx hb dX7_but_21 (by decide) (fun hc11 => ?_) (fun hc11 => ?_)
    · have hf := ip_el hc11 hf
      exact h31 Ma Sc Tr Ch Us _ _ _ hP hD hS (lv_sub hl [0] rfl) hf
    · have hf := in_el hc11 hf
      refine lv_iload_n hx hb dX7_but_24 rfl (lv_at hl 3 rfl) ?_
      obtain ⟨r12, hg13, hf⟩ := b1_el hf
      refine cc_S0 (st1 := [.int r12]) [.int x3] hx hb hml hown hu (tX7_isChairs l D cs x3 r12 hg13) q566 q54 q564 q565 pdX7_isChairs ⟨rfl, rfl, Nat.le_of_ble_eq_true rfl, Nat.le_of_ble_eq_true rfl⟩ hK hZ hP hD hS hA rfl hl.1 rfl (Nat.le_of_ble_eq_true rfl) dX7_but_25 rfl (fun H locs hP hD hS => ?_)
      refine lv_if_ne (tgt := 38) hx hb dX7_but_28 (by decide) (fun hc14 => ?_) (fun hc14 => ?_)
      · have hf := in_el hc14 hf
        refine lv_aload_n hx hb dX7_but_38 rfl (lv_at hl 0 rfl) ?_
        refine va_get (D := D) (ci := 7) (v := .ref (h 0)) (C := RX7) (T := TX7) (N := 8) hx hb hu inX7 hown hK.1 hP 0 rfl rfl 3 (by decide) (hu _ q303) (fun _ h9 => h9) rfl dX7_but_39 ?_
        obtain ⟨Us_15, hg16, hf⟩ := b1_el hf
        refine cc_V (w' := ((kX7 cs x (.ref (g 0)) (.ref (g2 0)) (.ref (g3 0)) (.ref (h 0)) (.ref (t 0)) (.ref (sa 0)) Ma) ++ (kX2 cs g (.ref (b 0)) (.ref (c 0)) (.ref (d 0)) (.ref (a 0)) ) ++ (kX1 cs b  Fo) ++ (kX3 cs c  Sc) ++ (kX4 cs a (.ref (b 0)) (.ref (c 0)) (.ref (d 0)) Se) ++ (kX4 cs d (.ref (b 0)) (.ref (c 0)) .null Tr) ++ (kX0 cs h (.ref (g 0)) (.ref (u 0)) Ch) ++ (kX4 cs u (.ref (b 0)) (.ref (c 0)) (.ref (d 0)) Us_15))) (wr := ((kX7 cs x (.ref (g 0)) (.ref (g2 0)) (.ref (g3 0)) (.ref (h 0)) (.ref (t 0)) (.ref (sa 0)) Ma) ++ (kX1 cs b  Fo) ++ (kX3 cs c  Sc) ++ (kX4 cs d (.ref (b 0)) (.ref (c 0)) .null Tr))) (st1 := []) [] hx hb hml hown hu (tX0_start l D cs h g u b c d a Ch Se Us Us_15 hg16) q570 q59 q567 q568 q569 pdX0_start ⟨rfl, rfl, Nat.le_of_ble_eq_true rfl, Nat.le_of_ble_eq_true rfl⟩ hK hZ hP hD hS hA [21, 22, 23, 24, 25, 2, 13, 14, 15, 16, 26, 27, 28, 29] [0, 1, 3, 4, 5, 6, 7, 8, 9, 10, 11, 12, 17, 18, 19, 20] [0, 1, 21, 2, 3, 4, 5, 6, 7, 8, 9, 10, 11, 22, 23, 24, 25, 12, 13, 14, 15, 16, 17, 18, 19, 20, 26, 27, 28, 29] rfl rfl rfl rfl rfl rfl rfl rfl rfl rfl hl.1 rfl (Nat.le_of_ble_eq_true rfl) dX7_but_42 rfl (fun H locs hP hD hS => ?_)
        refine lv_aload_n hx hb dX7_but_45 rfl (lv_at hl 0 rfl) ?_
        refine va_get (D := D) (ci := 7) (v := .ref (h 0)) (C := RX7) (T := TX7) (N := 8) hx hb hu inX7 hown hK.1 hP 0 rfl rfl 3 (by decide) (hu _ q303) (fun _ h9 => h9) rfl dX7_but_46 ?_
        refine va_get (D := D) (ci := 0) (v := .ref (u 0)) (C := RX0) (T := TX0) (N := 8) hx hb hu inX0 hown hK.1 hP 21 rfl rfl 1 (by decide) (hu _ q224) (fun _ h9 => h9) rfl dX7_but_49 ?_
        refine lv_iconst (v := 0) hx hb dX7_but_52 (by decide) ?_
        refine lv_iload_n hx hb dX7_but_53 rfl (lv_at hl 1 rfl) ?_
        obtain ⟨Us_17, hg18, hf⟩ := b1_el hf
        refine cc_V (w' := ((kX7 cs x (.ref (g 0)) (.ref (g2 0)) (.ref (g3 0)) (.ref (h 0)) (.ref (t 0)) (.ref (sa 0)) Ma) ++ (kX2 cs g (.ref (b 0)) (.ref (c 0)) (.ref (d 0)) (.ref (a 0)) ) ++ (kX1 cs b  Fo) ++ (kX3 cs c  Sc) ++ (kX4 cs a (.ref (b 0)) (.ref (c 0)) (.ref (d 0)) Se) ++ (kX4 cs d (.ref (b 0)) (.ref (c 0)) .null Tr) ++ (kX0 cs h (.ref (g 0)) (.ref (u 0)) Ch) ++ (kX4 cs u (.ref (b 0)) (.ref (c 0)) (.ref (d 0)) Us_17))) (wr := ((kX7 cs x (.ref (g 0)) (.ref (g2 0)) (.ref (g3 0)) (.ref (h 0)) (.ref (t 0)) (.ref (sa 0)) Ma) ++ (kX2 cs g (.ref (b 0)) (.ref (c 0)) (.ref (d 0)) (.ref (a 0)) ) ++ (kX1 cs b  Fo) ++ (kX3 cs c  Sc) ++ (kX4 cs a (.ref (b 0)) (.ref (c 0)) (.ref (d 0)) Se) ++ (kX4 cs d (.ref (b 0)) (.ref (c 0)) .null Tr) ++ (kX0 cs h (.ref (g 0)) (.ref (u 0)) Ch))) (st1 := []) [.int 0, .int x1] hx hb hml hown hu (tX4_giveRule l D cs u (.ref (b 0)) (.ref (c 0)) (.ref (d 0)) 0 x1 Us_15 Us_17 hg18) q489 q58 q486 q487 q488 pdX4_giveRule ⟨rfl, rfl, Nat.le_of_ble_eq_true rfl, Nat.le_of_ble_eq_true rfl⟩ hK hZ hP hD hS hA [26, 27, 28, 29] [0, 1, 2, 3, 4, 5, 6, 7, 8, 9, 10, 11, 12, 13, 14, 15, 16, 17, 18, 19, 20, 21, 22, 23, 24, 25] [0, 1, 2, 3, 4, 5, 6, 7, 8, 9, 10, 11, 12, 13, 14, 15, 16, 17, 18, 19, 20, 21, 22, 23, 24, 25, 26, 27, 28, 29] rfl rfl rfl rfl rfl rfl rfl rfl rfl rfl hl.1 rfl (Nat.le_of_ble_eq_true rfl) dX7_but_54 rfl (fun H locs hP hD hS => ?_)
        refine lv_aload_n hx hb dX7_but_57 rfl (lv_at hl 0 rfl) ?_
        refine va_get (D := D) (ci := 7) (v := .ref (h 0)) (C := RX7) (T := TX7) (N := 8) hx hb hu inX7 hown hK.1 hP 0 rfl rfl 3 (by decide) (hu _ q303) (fun _ h9 => h9) rfl dX7_but_58 ?_
        refine lv_iload_n hx hb dX7_but_61 rfl (lv_at hl 3 rfl) ?_
        obtain ⟨Ch_19, Sc_20, Tr_21, Us_22, hg23, hf⟩ := b4_el hf
        refine cc_V (w' := ((kX7 cs x (.ref (g 0)) (.ref (g2 0)) (.ref (g3 0)) (.ref (h 0)) (.ref (t 0)) (.ref (sa 0)) Ma) ++ (kX2 cs g (.ref (b 0)) (.ref (c 0)) (.ref (d 0)) (.ref (a 0)) ) ++ (kX1 cs b  Fo) ++ (kX3 cs c  Sc_20) ++ (kX4 cs a (.ref (b 0)) (.ref (c 0)) (.ref (d 0)) Se) ++ (kX4 cs d (.ref (b 0)) (.ref (c 0)) .null Tr_21) ++ (kX0 cs h (.ref (g 0)) (.ref (u 0)) Ch_19) ++ (kX4 cs u (.ref (b 0)) (.ref (c 0)) (.ref (d 0)) Us_22))) (wr := ((kX7 cs x (.ref (g 0)) (.ref (g2 0)) (.ref (g3 0)) (.ref (h 0)) (.ref (t 0)) (.ref (sa 0)) Ma) ++ (kX4 cs a (.ref (b 0)) (.ref (c 0)) (.ref (d 0)) Se))) (st1 := []) [.int x3] hx hb hml hown hu (tX0_tally l D cs h g u b c d a x3 Ch Fo Sc Tr Us_17 Ch_19 Sc_20 Tr_21 Us_22 hg23) q602 q59 q599 q600 q601 pdX0_tally ⟨rfl, rfl, Nat.le_of_ble_eq_true rfl, Nat.le_of_ble_eq_true rfl⟩ hK hZ hP hD hS hA [21, 22, 23, 24, 25, 2, 3, 4, 5, 6, 7, 8, 9, 10, 11, 12, 17, 18, 19, 20, 26, 27, 28, 29] [0, 1, 13, 14, 15, 16] [0, 1, 11, 12, 13, 14, 15, 16, 17, 18, 19, 20, 21, 2, 3, 4, 5, 22, 23, 24, 25, 6, 7, 8, 9, 10, 26, 27, 28, 29] rfl rfl rfl rfl rfl rfl rfl rfl rfl rfl hl.1 rfl (Nat.le_of_ble_eq_true rfl) dX7_but_62 rfl (fun H locs hP hD hS => ?_)
        refine lv_aload_n hx hb dX7_but_65 rfl (lv_at hl 0 rfl) ?_
        refine va_get (D := D) (ci := 7) (v := .ref (h 0)) (C := RX7) (T := TX7) (N := 8) hx hb hu inX7 hown hK.1 hP 0 rfl rfl 3 (by decide) (hu _ q303) (fun _ h9 => h9) rfl dX7_but_66 ?_
        refine lv_iload_n hx hb dX7_but_69 rfl (lv_at hl 2 rfl) ?_
        obtain ⟨r24, hg25, hf⟩ := b1_el hf
        refine cc_V (w' := ((kX7 cs x (.ref (g 0)) (.ref (g2 0)) (.ref (g3 0)) (.ref (h 0)) (.ref (t 0)) (.ref (sa 0)) Ma) ++ (kX2 cs g (.ref (b 0)) (.ref (c 0)) (.ref (d 0)) (.ref (a 0)) ) ++ (kX1 cs b  Fo) ++ (kX3 cs c  Sc_20) ++ (kX4 cs a (.ref (b 0)) (.ref (c 0)) (.ref (d 0)) Se) ++ (kX4 cs d (.ref (b 0)) (.ref (c 0)) .null Tr_21) ++ (kX0 cs h (.ref (g 0)) (.ref (u 0)) Ch_19) ++ (kX4 cs u (.ref (b 0)) (.ref (c 0)) (.ref (d 0)) Us_22))) (wr := ((kX7 cs x (.ref (g 0)) (.ref (g2 0)) (.ref (g3 0)) (.ref (h 0)) (.ref (t 0)) (.ref (sa 0)) Ma) ++ (kX3 cs c  Sc_20) ++ (kX4 cs a (.ref (b 0)) (.ref (c 0)) (.ref (d 0)) Se) ++ (kX4 cs d (.ref (b 0)) (.ref (c 0)) .null Tr_21) ++ (kX4 cs u (.ref (b 0)) (.ref (c 0)) (.ref (d 0)) Us_22))) (st1 := [.int r24]) [.int x2] hx hb hml hown hu (tX0_worthFor l D cs h g u b c d a x2 Ch_19 Fo r24 hg25) q613 q59 q610 q611 q612 pdX0_worthFor ⟨rfl, rfl, Nat.le_of_ble_eq_true rfl, Nat.le_of_ble_eq_true rfl⟩ hK hZ hP hD hS hA [21, 22, 23, 24, 25, 2, 3, 4, 5, 6, 7, 8, 9] [0, 1, 10, 11, 12, 13, 14, 15, 16, 17, 18, 19, 20, 26, 27, 28, 29] [0, 1, 22, 23, 24, 25, 26, 27, 28, 29, 2, 3, 4, 5, 6, 7, 8, 9, 10, 11, 12, 17, 18, 19, 20, 21, 13, 14, 15, 16] rfl rfl rfl rfl rfl rfl rfl rfl rfl rfl hl.1 rfl (Nat.le_of_ble_eq_true rfl) dX7_but_70 rfl (fun H locs hP hD hS => ?_)
        have he := Option.some.inj hf
        obtain ⟨e0, ht0⟩ := Prod.mk.inj he
        obtain ⟨e1, ht1⟩ := Prod.mk.inj ht0
        obtain ⟨e2, ht2⟩ := Prod.mk.inj ht1
        obtain ⟨e3, ht3⟩ := Prod.mk.inj ht2
        obtain ⟨e4, e5⟩ := Prod.mk.inj ht3
        exact hri _ _ _ rfl (congrArg (fun z => some (Value.int z)) e0.symm) dX7_but_73 _ _ _ (by rw [e1, e2, e3, e4, e5]) hP hD hS
      · have hf := ip_el hc14 hf
        exact h31 Ma Sc Tr Ch Us _ _ _ hP hD hS (lv_sub hl [0] rfl) hf

def fX7_vote_6_s (Fo : ST) (k6 : Int32 → Int32 → Int32 → ST → Option (Int32 × ST)) (y1 : Int32) (y2 : Int32) (y3 : Int32) (Ma : ST) : Option (Int32 × ST) :=
  (if (Fo 0 0) ≤ y3 then (if y1 = (-1) then dc_b2 (fX7_finding (-1000000004) Ma) (fun r3 Ma_4 => some (r3, Ma_4)) else some (y1, Ma)) else dc_b1 (fX1_isAlive y3 Fo) (fun r6 => (if r6 = 0 then dc_lt (y3 + 1) (fun v9 => k6 y1 y2 v9 Ma) else dc_b1 (fX1_likedByOthers y3 Fo) (fun r10 => (if y1 = (-1) then dc_lt (y3 + 1) (fun v13 => k6 y3 r10 v13 Ma) else (if r10 ≤ y2 then dc_lt (y3 + 1) (fun v15 => k6 y1 y2 v15 Ma) else dc_lt (y3 + 1) (fun v16 => k6 y3 r10 v16 Ma)))))))
def fX7_vote_6 (Fo : ST) : Nat → Int32 → Int32 → Int32 → ST → Option (Int32 × ST)
  | 0 => fun _ _ _ _ => none
  | n + 1 => fX7_vote_6_s Fo (fX7_vote_6 Fo n)
def fX7_vote (Ma : ST) (Fo : ST) : Option (Int32 × ST) :=
  fX7_vote_6 Fo 400 (-1) 0 0 Ma
abbrev rmX7_vote : Room := { frames := 3, cells := 0, slots := 0, locals := 65 }
set_option maxRecDepth 100000 in
set_option maxHeartbeats 4000000 in
theorem tX7_vote (l : Launch) (D : va_G) (cs : Nat → ClassId) (x : Nat → Nat) (g : Nat → Nat) (g2 : Nat → Nat) (g3 : Nat → Nat) (h : Nat → Nat) (t : Nat → Nat) (sa : Nat → Nat) (b : Nat → Nat) (c : Nat → Nat) (d : Nat → Nat) (a : Nat → Nat) (Ma : ST) (Fo : ST) (r0 : Int32) (Maz : ST) (hf : fX7_vote Ma Fo = some (r0, Maz)) : CG l yX7_vote (wsm yX7_vote cX7_vote 5 (some .int)) rmX7_vote D cs [.ref (x 0)] (some (.int r0)) ((kX7 cs x (.ref (g 0)) (.ref (g2 0)) (.ref (g3 0)) (.ref (h 0)) (.ref (t 0)) (.ref (sa 0)) Ma) ++ (kX2 cs g (.ref (b 0)) (.ref (c 0)) (.ref (d 0)) (.ref (a 0)) ) ++ (kX1 cs b  Fo)) ((kX7 cs x (.ref (g 0)) (.ref (g2 0)) (.ref (g3 0)) (.ref (h 0)) (.ref (t 0)) (.ref (sa 0)) Maz) ++ (kX2 cs g (.ref (b 0)) (.ref (c 0)) (.ref (d 0)) (.ref (a 0)) ) ++ (kX1 cs b  Fo)) := by
  refine CG.intro (by decide) (Nat.le_of_ble_eq_true rfl) ?_
  intro p e s m below meth c A Q hx hb hml hown hu hK hZ hP0 hD0 hS0 hA hri hrz hrl hrv hra ls0 hl0
  have hs6 : ∀ (k6 : Int32 → Int32 → Int32 → ST → Option (Int32 × ST)), (∀ (y1 : Int32) (y2 : Int32) (y3 : Int32) (Ma : ST) (H : Heap) (locs : List Loc) (ls : Array Slot), va_P D vwCl ((kX7 cs x (.ref (g 0)) (.ref (g2 0)) (.ref (g3 0)) (.ref (h 0)) (.ref (t 0)) (.ref (sa 0)) Ma) ++ (kX2 cs g (.ref (b 0)) (.ref (c 0)) (.ref (d 0)) (.ref (a 0)) ) ++ (kX1 cs b  Fo)) H → va_D A ((kX7 cs x (.ref (g 0)) (.ref (g2 0)) (.ref (g3 0)) (.ref (h 0)) (.ref (t 0)) (.ref (sa 0)) Ma) ++ (kX2 cs g (.ref (b 0)) (.ref (c 0)) (.ref (d 0)) (.ref (a 0)) ) ++ (kX1 cs b  Fo)) → va_S A s.heap H locs → lv_has ls 5 [(0, .ref (x 0)), (1, .int y1), (2, .int y2), (3, .int y3)] → k6 y1 y2 y3 Ma = some (r0, Maz) → W p l e rmX7_vote s m [.ref (x 0)].toArray below meth c H locs 0 0 Q (F0 m 6 ls [])) → ∀ (y1 : Int32) (y2 : Int32) (y3 : Int32) (Ma : ST) (H : Heap) (locs : List Loc) (ls : Array Slot), va_P D vwCl ((kX7 cs x (.ref (g 0)) (.ref (g2 0)) (.ref (g3 0)) (.ref (h 0)) (.ref (t 0)) (.ref (sa 0)) Ma) ++ (kX2 cs g (.ref (b 0)) (.ref (c 0)) (.ref (d 0)) (.ref (a 0)) ) ++ (kX1 cs b  Fo)) H → va_D A ((kX7 cs x (.ref (g 0)) (.ref (g2 0)) (.ref (g3 0)) (.ref (h 0)) (.ref (t 0)) (.ref (sa 0)) Ma) ++ (kX2 cs g (.ref (b 0)) (.ref (c 0)) (.ref (d 0)) (.ref (a 0)) ) ++ (kX1 cs b  Fo)) → va_S A s.heap H locs → lv_has ls 5 [(0, .ref (x 0)), (1, .int y1), (2, .int y2), (3, .int y3)] → fX7_vote_6_s Fo k6 y1 y2 y3 Ma = some (r0, Maz) → W p l e rmX7_vote s m [.ref (x 0)].toArray below meth c H locs 0 0 Q (F0 m 6 ls []) := by
    intro k6 hk6 y1 y2 y3 Ma H locs ls hP hD hS hl hf
    unfold fX7_vote_6_s at hf
    refine lv_iload_n hx hb dX7_vote_6 rfl (lv_at hl 3 rfl) ?_
    refine lv_aload_n hx hb dX7_vote_7 rfl (lv_at hl 0 rfl) ?_
    refine va_get (D := D) (ci := 7) (v := .ref (g 0)) (C := RX7) (T := TX7) (N := 8) hx hb hu inX7 hown hK.1 hP 0 rfl rfl 0 (by decide) (hu _ q300) (fun _ h9 => h9) rfl dX7_vote_8 ?_
    refine va_get (D := D) (ci := 2) (v := .ref (b 0)) (C := RX2) (T := TX2) (N := 4) hx hb hu inX2 hown hK.1 hP 2 rfl rfl 0 (by decide) (hu _ q196) (fun _ h9 => h9) rfl dX7_vote_11 ?_
    refine va_get (D := D) (ci := 1) (v := .int (Fo 0 0)) (C := RX1) (T := TX1) (N := 9) hx hb hu inX1 hown hK.1 hP 3 rfl rfl 0 (by decide) (hu _ q93) (fun _ h9 => h9) rfl dX7_vote_14 ?_
    refine lv_icmp_ge (tgt := 69) hx hb dX7_vote_17 (by decide) (fun hc1 => ?_) (fun hc1 => ?_)
    · have hf := ip_el hc1 hf
      refine lv_iload_n hx hb dX7_vote_69 rfl (lv_at hl 1 rfl) ?_
      refine lv_iconst (v := (-1)) hx hb dX7_vote_70 (by decide) ?_
      refine lv_icmp_ne (tgt := 83) hx hb dX7_vote_71 (by decide) (fun hc2 => ?_) (fun hc2 => ?_)
      · have hf := in_el hc2 hf
        refine lv_iload_n hx hb dX7_vote_83 rfl (lv_at hl 1 rfl) ?_
        have he := Option.some.inj hf
        obtain ⟨e0, e1⟩ := Prod.mk.inj he
        exact hri _ _ _ rfl (congrArg (fun z => some (Value.int z)) e0.symm) dX7_vote_84 _ _ _ (by rw [e1]) hP hD hS
      · have hf := ip_el hc2 hf
        refine lv_aload_n hx hb dX7_vote_74 rfl (lv_at hl 0 rfl) ?_
        refine lv_ldc (v := (-1000000004)) hx hb hown (hu _ q586) dX7_vote_75 ?_
        obtain ⟨r3, Ma_4, hg5, hf⟩ := b2_el hf
        refine cc_V (w' := ((kX7 cs x (.ref (g 0)) (.ref (g2 0)) (.ref (g3 0)) (.ref (h 0)) (.ref (t 0)) (.ref (sa 0)) Ma_4) ++ (kX2 cs g (.ref (b 0)) (.ref (c 0)) (.ref (d 0)) (.ref (a 0)) ) ++ (kX1 cs b  Fo))) (wr := ((kX2 cs g (.ref (b 0)) (.ref (c 0)) (.ref (d 0)) (.ref (a 0)) ) ++ (kX1 cs b  Fo))) (st1 := [.int r3]) [.int (-1000000004)] hx hb hml hown hu (tX7_finding l D cs x g g2 g3 h t sa (-1000000004) Ma r3 Ma_4 hg5) q339 q54 q336 q338 q0 pdX7_finding ⟨rfl, rfl, Nat.le_of_ble_eq_true rfl, Nat.le_of_ble_eq_true rfl⟩ hK hZ hP hD hS hA [0, 1] [2, 3, 4, 5, 6, 7, 8, 9] [8, 9, 0, 1, 2, 3, 4, 5, 6, 7] rfl rfl rfl rfl rfl rfl rfl rfl rfl rfl hl.1 rfl (Nat.le_of_ble_eq_true rfl) dX7_vote_77 rfl (fun H locs hP hD hS => ?_)
        refine lv_goto (tgt := 84) hx hb dX7_vote_80 (by decide) ?_
        have he := Option.some.inj hf
        obtain ⟨e0, e1⟩ := Prod.mk.inj he
        exact hri _ _ _ rfl (congrArg (fun z => some (Value.int z)) e0.symm) dX7_vote_84 _ _ _ (by rw [e1]) hP hD hS
    · have hf := in_el hc1 hf
      refine lv_aload_n hx hb dX7_vote_20 rfl (lv_at hl 0 rfl) ?_
      refine va_get (D := D) (ci := 7) (v := .ref (g 0)) (C := RX7) (T := TX7) (N := 8) hx hb hu inX7 hown hK.1 hP 0 rfl rfl 0 (by decide) (hu _ q300) (fun _ h9 => h9) rfl dX7_vote_21 ?_
      refine va_get (D := D) (ci := 2) (v := .ref (b 0)) (C := RX2) (T := TX2) (N := 4) hx hb hu inX2 hown hK.1 hP 2 rfl rfl 0 (by decide) (hu _ q196) (fun _ h9 => h9) rfl dX7_vote_24 ?_
      refine lv_iload_n hx hb dX7_vote_27 rfl (lv_at hl 3 rfl) ?_
      obtain ⟨r6, hg7, hf⟩ := b1_el hf
      refine cc_V (w' := ((kX7 cs x (.ref (g 0)) (.ref (g2 0)) (.ref (g3 0)) (.ref (h 0)) (.ref (t 0)) (.ref (sa 0)) Ma) ++ (kX2 cs g (.ref (b 0)) (.ref (c 0)) (.ref (d 0)) (.ref (a 0)) ) ++ (kX1 cs b  Fo))) (wr := ((kX7 cs x (.ref (g 0)) (.ref (g2 0)) (.ref (g3 0)) (.ref (h 0)) (.ref (t 0)) (.ref (sa 0)) Ma) ++ (kX2 cs g (.ref (b 0)) (.ref (c 0)) (.ref (d 0)) (.ref (a 0)) ))) (st1 := [.int r6]) [.int y3] hx hb hml hown hu (tX1_isAlive l D cs b y3 Fo r6 hg7) q356 q56 q353 q354 q355 pdX1_isAlive ⟨rfl, rfl, Nat.le_of_ble_eq_true rfl, Nat.le_of_ble_eq_true rfl⟩ hK hZ hP hD hS hA [3, 4, 5, 6, 7, 8, 9] [0, 1, 2] [0, 1, 2, 3, 4, 5, 6, 7, 8, 9] rfl rfl rfl rfl rfl rfl rfl rfl rfl rfl hl.1 rfl (Nat.le_of_ble_eq_true rfl) dX7_vote_28 rfl (fun H locs hP hD hS => ?_)
      refine lv_if_eq (tgt := 63) hx hb dX7_vote_31 (by decide) (fun hc8 => ?_) (fun hc8 => ?_)
      · have hf := ip_el hc8 hf
        obtain ⟨v9, hv9, hf⟩ := lt_el hf
        refine lv_iinc (v := v9) (lv' := [(3, .int v9), (0, .ref (x 0)), (1, .int y1), (2, .int y2)]) hx hb dX7_vote_63 hl (k := 3) rfl (by rw [hv9]; rfl) (by decide) rfl (fun ls hl => ?_)
        refine lv_goto (tgt := 6) hx hb dX7_vote_66 (by decide) ?_
        exact hk6 y1 y2 v9 Ma _ _ _ hP hD hS (lv_sub hl [1, 2, 3, 0] rfl) hf
      · have hf := in_el hc8 hf
        refine lv_aload_n hx hb dX7_vote_34 rfl (lv_at hl 0 rfl) ?_
        refine va_get (D := D) (ci := 7) (v := .ref (g 0)) (C := RX7) (T := TX7) (N := 8) hx hb hu inX7 hown hK.1 hP 0 rfl rfl 0 (by decide) (hu _ q300) (fun _ h9 => h9) rfl dX7_vote_35 ?_
        refine va_get (D := D) (ci := 2) (v := .ref (b 0)) (C := RX2) (T := TX2) (N := 4) hx hb hu inX2 hown hK.1 hP 2 rfl rfl 0 (by decide) (hu _ q196) (fun _ h9 => h9) rfl dX7_vote_38 ?_
        refine lv_iload_n hx hb dX7_vote_41 rfl (lv_at hl 3 rfl) ?_
        obtain ⟨r10, hg11, hf⟩ := b1_el hf
        refine cc_V (w' := ((kX7 cs x (.ref (g 0)) (.ref (g2 0)) (.ref (g3 0)) (.ref (h 0)) (.ref (t 0)) (.ref (sa 0)) Ma) ++ (kX2 cs g (.ref (b 0)) (.ref (c 0)) (.ref (d 0)) (.ref (a 0)) ) ++ (kX1 cs b  Fo))) (wr := ((kX7 cs x (.ref (g 0)) (.ref (g2 0)) (.ref (g3 0)) (.ref (h 0)) (.ref (t 0)) (.ref (sa 0)) Ma) ++ (kX2 cs g (.ref (b 0)) (.ref (c 0)) (.ref (d 0)) (.ref (a 0)) ))) (st1 := [.int r10]) [.int y3] hx hb hml hown hu (tX1_likedByOthers l D cs b y3 Fo r10 hg11) q625 q56 q622 q623 q624 pdX1_likedByOthers ⟨rfl, rfl, Nat.le_of_ble_eq_true rfl, Nat.le_of_ble_eq_true rfl⟩ hK hZ hP hD hS hA [3, 4, 5, 6, 7, 8, 9] [0, 1, 2] [0, 1, 2, 3, 4, 5, 6, 7, 8, 9] rfl rfl rfl rfl rfl rfl rfl rfl rfl rfl hl.1 rfl (Nat.le_of_ble_eq_true rfl) dX7_vote_42 rfl (fun H locs hP hD hS => ?_)
        refine lv_istore (lv' := [(4, .int r10), (0, .ref (x 0)), (1, .int y1), (2, .int y2), (3, .int y3)]) hx hb dX7_vote_45 hl (by decide) rfl (fun ls hl => ?_)
        refine lv_iload_n hx hb dX7_vote_47 rfl (lv_at hl 2 rfl) ?_
        refine lv_iconst (v := (-1)) hx hb dX7_vote_48 (by decide) ?_
        refine lv_icmp_eq (tgt := 58) hx hb dX7_vote_49 (by decide) (fun hc12 => ?_) (fun hc12 => ?_)
        · have hf := ip_el hc12 hf
          refine lv_iload_n hx hb dX7_vote_58 rfl (lv_at hl 4 rfl) ?_
          refine lv_istore_n (lv' := [(1, .int y3), (4, .int r10), (0, .ref (x 0)), (2, .int y2), (3, .int y3)]) hx hb dX7_vote_59 rfl hl (by decide) rfl (fun ls hl => ?_)
          refine lv_iload hx hb dX7_vote_60 (lv_at hl 1 rfl) ?_
          refine lv_istore_n (lv' := [(2, .int r10), (1, .int y3), (4, .int r10), (0, .ref (x 0)), (3, .int y3)]) hx hb dX7_vote_62 rfl hl (by decide) rfl (fun ls hl => ?_)
          obtain ⟨v13, hv13, hf⟩ := lt_el hf
          refine lv_iinc (v := v13) (lv' := [(3, .int v13), (2, .int r10), (1, .int y3), (4, .int r10), (0, .ref (x 0))]) hx hb dX7_vote_63 hl (k := 4) rfl (by rw [hv13]; rfl) (by decide) rfl (fun ls hl => ?_)
          refine lv_goto (tgt := 6) hx hb dX7_vote_66 (by decide) ?_
          exact hk6 y3 r10 v13 Ma _ _ _ hP hD hS (lv_sub hl [4, 2, 1, 0] rfl) hf
        · have hf := in_el hc12 hf
          refine lv_iload hx hb dX7_vote_52 (lv_at hl 0 rfl) ?_
          refine lv_iload_n hx hb dX7_vote_54 rfl (lv_at hl 3 rfl) ?_
          refine lv_icmp_le (tgt := 63) hx hb dX7_vote_55 (by decide) (fun hc14 => ?_) (fun hc14 => ?_)
          · have hf := ip_el hc14 hf
            obtain ⟨v15, hv15, hf⟩ := lt_el hf
            refine lv_iinc (v := v15) (lv' := [(3, .int v15), (4, .int r10), (0, .ref (x 0)), (1, .int y1), (2, .int y2)]) hx hb dX7_vote_63 hl (k := 4) rfl (by rw [hv15]; rfl) (by decide) rfl (fun ls hl => ?_)
            refine lv_goto (tgt := 6) hx hb dX7_vote_66 (by decide) ?_
            exact hk6 y1 y2 v15 Ma _ _ _ hP hD hS (lv_sub hl [2, 3, 4, 0] rfl) hf
          · have hf := in_el hc14 hf
            refine lv_iload_n hx hb dX7_vote_58 rfl (lv_at hl 4 rfl) ?_
            refine lv_istore_n (lv' := [(1, .int y3), (4, .int r10), (0, .ref (x 0)), (2, .int y2), (3, .int y3)]) hx hb dX7_vote_59 rfl hl (by decide) rfl (fun ls hl => ?_)
            refine lv_iload hx hb dX7_vote_60 (lv_at hl 1 rfl) ?_
            refine lv_istore_n (lv' := [(2, .int r10), (1, .int y3), (4, .int r10), (0, .ref (x 0)), (3, .int y3)]) hx hb dX7_vote_62 rfl hl (by decide) rfl (fun ls hl => ?_)
            obtain ⟨v16, hv16, hf⟩ := lt_el hf
            refine lv_iinc (v := v16) (lv' := [(3, .int v16), (2, .int r10), (1, .int y3), (4, .int r10), (0, .ref (x 0))]) hx hb dX7_vote_63 hl (k := 4) rfl (by rw [hv16]; rfl) (by decide) rfl (fun ls hl => ?_)
            refine lv_goto (tgt := 6) hx hb dX7_vote_66 (by decide) ?_
            exact hk6 y3 r10 v16 Ma _ _ _ hP hD hS (lv_sub hl [4, 2, 1, 0] rfl) hf
  have h6 : ∀ (n : Nat), ∀ (y1 : Int32) (y2 : Int32) (y3 : Int32) (Ma : ST) (H : Heap) (locs : List Loc) (ls : Array Slot), va_P D vwCl ((kX7 cs x (.ref (g 0)) (.ref (g2 0)) (.ref (g3 0)) (.ref (h 0)) (.ref (t 0)) (.ref (sa 0)) Ma) ++ (kX2 cs g (.ref (b 0)) (.ref (c 0)) (.ref (d 0)) (.ref (a 0)) ) ++ (kX1 cs b  Fo)) H → va_D A ((kX7 cs x (.ref (g 0)) (.ref (g2 0)) (.ref (g3 0)) (.ref (h 0)) (.ref (t 0)) (.ref (sa 0)) Ma) ++ (kX2 cs g (.ref (b 0)) (.ref (c 0)) (.ref (d 0)) (.ref (a 0)) ) ++ (kX1 cs b  Fo)) → va_S A s.heap H locs → lv_has ls 5 [(0, .ref (x 0)), (1, .int y1), (2, .int y2), (3, .int y3)] → fX7_vote_6 Fo n y1 y2 y3 Ma = some (r0, Maz) → W p l e rmX7_vote s m [.ref (x 0)].toArray below meth c H locs 0 0 Q (F0 m 6 ls []) := by
    intro n
    induction n with
    | zero => intro y1 y2 y3 Ma H locs ls hP hD hS hl hf; exact no_el hf
    | succ n ih => intro y1 y2 y3 Ma H locs ls hP hD hS hl hf; exact hs6 _ ih y1 y2 y3 Ma _ _ _ hP hD hS hl hf
  have hl : lv_has ls0 5 [(0, .ref (x 0))] := hl0
  have hP := hP0
  have hD := hD0
  have hS := hS0
  unfold fX7_vote at hf
  refine lv_iconst (v := (-1)) hx hb dX7_vote_0 (by decide) ?_
  refine lv_istore_n (lv' := [(1, .int (-1)), (0, .ref (x 0))]) hx hb dX7_vote_1 rfl hl (by decide) rfl (fun ls hl => ?_)
  refine lv_iconst (v := 0) hx hb dX7_vote_2 (by decide) ?_
  refine lv_istore_n (lv' := [(2, .int 0), (1, .int (-1)), (0, .ref (x 0))]) hx hb dX7_vote_3 rfl hl (by decide) rfl (fun ls hl => ?_)
  refine lv_iconst (v := 0) hx hb dX7_vote_4 (by decide) ?_
  refine lv_istore_n (lv' := [(3, .int 0), (2, .int 0), (1, .int (-1)), (0, .ref (x 0))]) hx hb dX7_vote_5 rfl hl (by decide) rfl (fun ls hl => ?_)
  exact h6 400 (-1) 0 0 Ma _ _ _ hP hD hS (lv_sub hl [3, 2, 1, 0] rfl) hf

def fX7_kept_16 (Fo : ST) (Se : ST) (Ma : ST) (Sc : ST) (Tr : ST) (Ch : ST) (Us : ST) : Option (Int32 × ST × ST × ST × ST × ST) :=
  dc_b2 (fX7_finding (-1000000001) Ma) (fun r4 Ma_5 => some (r4, Ma_5, Sc, Tr, Ch, Us))
def fX7_kept_51 (Fo : ST) (Se : ST) (Ma : ST) (Sc : ST) (Tr : ST) (Ch : ST) (Us : ST) : Option (Int32 × ST × ST × ST × ST × ST) :=
  dc_b2 (fX7_finding (-1000000005) Ma) (fun r13 Ma_14 => some (r13, Ma_14, Sc, Tr, Ch, Us))
def fX7_kept (x1 : Int32) (x2 : Int32) (x3 : Int32) (Ma : ST) (Fo : ST) (Sc : ST) (Se : ST) (Tr : ST) (Ch : ST) (Us : ST) : Option (Int32 × ST × ST × ST × ST × ST) :=
  dc_b1 (fX7_areTwo x1 x2 Ma Fo) (fun r1 => (if r1 = 0 then fX7_kept_16 Fo Se Ma Sc Tr Ch Us else dc_b1 (fX7_isChairs x3) (fun r7 => (if r7 = 0 then fX7_kept_16 Fo Se Ma Sc Tr Ch Us else dc_b1 (fX1_isAlive x1 Fo) (fun r10 => (if r10 = 0 then fX7_kept_51 Fo Se Ma Sc Tr Ch Us else dc_b1 (fX1_isAlive x2 Fo) (fun r16 => (if r16 = 0 then fX7_kept_51 Fo Se Ma Sc Tr Ch Us else dc_b1 (fX0_start Ch Se Us) (fun Us_19 => dc_b4 (fX0_tally x3 Ch Fo Sc Tr Us_19) (fun Ch_21 Sc_22 Tr_23 Us_24 => dc_b1 (fX0_noteWithout Ch_21 Fo) (fun Ch_26 => dc_b1 (fX0_start Ch_26 Se Us_24) (fun Us_28 => dc_b1 (fX4_keepWord x1 x2 Us_28) (fun Us_30 => dc_b4 (fX0_tally x3 Ch_26 Fo Sc_22 Tr_23 Us_30) (fun Ch_32 Sc_33 Tr_34 Us_35 => dc_b1 (fX0_moreFor x1 Ch_32 Fo) (fun r37 => some (r37, Ma, Sc_33, Tr_34, Ch_32, Us_35))))))))))))))))
abbrev rmX7_kept : Room := { frames := 11, cells := 0, slots := 0, locals := 279 }
set_option maxRecDepth 100000 in
set_option maxHeartbeats 4000000 in
theorem tX7_kept (l : Launch) (D : va_G) (cs : Nat → ClassId) (x : Nat → Nat) (g : Nat → Nat) (g2 : Nat → Nat) (g3 : Nat → Nat) (h : Nat → Nat) (t : Nat → Nat) (sa : Nat → Nat) (b : Nat → Nat) (c : Nat → Nat) (d : Nat → Nat) (a : Nat → Nat) (u : Nat → Nat) (x1 : Int32) (x2 : Int32) (x3 : Int32) (Ma : ST) (Fo : ST) (Sc : ST) (Se : ST) (Tr : ST) (Ch : ST) (Us : ST) (r0 : Int32) (Maz : ST) (Scz : ST) (Trz : ST) (Chz : ST) (Usz : ST) (hf : fX7_kept x1 x2 x3 Ma Fo Sc Se Tr Ch Us = some (r0, Maz, Scz, Trz, Chz, Usz)) : CG l yX7_kept (wsm yX7_kept cX7_kept 4 (some .int)) rmX7_kept D cs [.ref (x 0), .int x1, .int x2, .int x3] (some (.int r0)) ((kX7 cs x (.ref (g 0)) (.ref (g2 0)) (.ref (g3 0)) (.ref (h 0)) (.ref (t 0)) (.ref (sa 0)) Ma) ++ (kX2 cs g (.ref (b 0)) (.ref (c 0)) (.ref (d 0)) (.ref (a 0)) ) ++ (kX1 cs b  Fo) ++ (kX3 cs c  Sc) ++ (kX4 cs a (.ref (b 0)) (.ref (c 0)) (.ref (d 0)) Se) ++ (kX4 cs d (.ref (b 0)) (.ref (c 0)) .null Tr) ++ (kX0 cs h (.ref (g 0)) (.ref (u 0)) Ch) ++ (kX4 cs u (.ref (b 0)) (.ref (c 0)) (.ref (d 0)) Us)) ((kX7 cs x (.ref (g 0)) (.ref (g2 0)) (.ref (g3 0)) (.ref (h 0)) (.ref (t 0)) (.ref (sa 0)) Maz) ++ (kX2 cs g (.ref (b 0)) (.ref (c 0)) (.ref (d 0)) (.ref (a 0)) ) ++ (kX1 cs b  Fo) ++ (kX3 cs c  Scz) ++ (kX4 cs a (.ref (b 0)) (.ref (c 0)) (.ref (d 0)) Se) ++ (kX4 cs d (.ref (b 0)) (.ref (c 0)) .null Trz) ++ (kX0 cs h (.ref (g 0)) (.ref (u 0)) Chz) ++ (kX4 cs u (.ref (b 0)) (.ref (c 0)) (.ref (d 0)) Usz)) := by
  refine CG.intro (by decide) (Nat.le_of_ble_eq_true rfl) ?_
  intro p e s m below meth c A Q hx hb hml hown hu hK hZ hP0 hD0 hS0 hA hri hrz hrl hrv hra ls0 hl0
  have h16 : ∀ (Ma : ST) (Sc : ST) (Tr : ST) (Ch : ST) (Us : ST) (H : Heap) (locs : List Loc) (ls : Array Slot), va_P D vwCl ((kX7 cs x (.ref (g 0)) (.ref (g2 0)) (.ref (g3 0)) (.ref (h 0)) (.ref (t 0)) (.ref (sa 0)) Ma) ++ (kX2 cs g (.ref (b 0)) (.ref (c 0)) (.ref (d 0)) (.ref (a 0)) ) ++ (kX1 cs b  Fo) ++ (kX3 cs c  Sc) ++ (kX4 cs a (.ref (b 0)) (.ref (c 0)) (.ref (d 0)) Se) ++ (kX4 cs d (.ref (b 0)) (.ref (c 0)) .null Tr) ++ (kX0 cs h (.ref (g 0)) (.ref (u 0)) Ch) ++ (kX4 cs u (.ref (b 0)) (.ref (c 0)) (.ref (d 0)) Us)) H → va_D A ((kX7 cs x (.ref (g 0)) (.ref (g2 0)) (.ref (g3 0)) (.ref (h 0)) (.ref (t 0)) (.ref (sa 0)) Ma) ++ (kX2 cs g (.ref (b 0)) (.ref (c 0)) (.ref (d 0)) (.ref (a 0)) ) ++ (kX1 cs b  Fo) ++ (kX3 cs c  Sc) ++ (kX4 cs a (.ref (b 0)) (.ref (c 0)) (.ref (d 0)) Se) ++ (kX4 cs d (.ref (b 0)) (.ref (c 0)) .null Tr) ++ (kX0 cs h (.ref (g 0)) (.ref (u 0)) Ch) ++ (kX4 cs u (.ref (b 0)) (.ref (c 0)) (.ref (d 0)) Us)) → va_S A s.heap H locs → lv_has ls 4 [(0, .ref (x 0))] → fX7_kept_16 Fo Se Ma Sc Tr Ch Us = some (r0, Maz, Scz, Trz, Chz, Usz) → W p l e rmX7_kept s m [.ref (x 0), .int x1, .int x2, .int x3].toArray below meth c H locs 0 0 Q (F0 m 16 ls []) := by
    intro Ma Sc Tr Ch Us H locs ls hP hD hS hl hf
    unfold fX7_kept_16 at hf
    refine lv_aload_n hx hb dX7_kept_16 rfl (lv_at hl 0 rfl) ?_
    refine lv_ldc (v := (-1000000001)) hx hb hown (hu _ q335) dX7_kept_17 ?_
    obtain ⟨r4, Ma_5, hg6, hf⟩ := b2_el hf
    refine cc_V (w' := ((kX7 cs x (.ref (g 0)) (.ref (g2 0)) (.ref (g3 0)) (.ref (h 0)) (.ref (t 0)) (.ref (sa 0)) Ma_5) ++ (kX2 cs g (.ref (b 0)) (.ref (c 0)) (.ref (d 0)) (.ref (a 0)) ) ++ (kX1 cs b  Fo) ++ (kX3 cs c  Sc) ++ (kX4 cs a (.ref (b 0)) (.ref (c 0)) (.ref (d 0)) Se) ++ (kX4 cs d (.ref (b 0)) (.ref (c 0)) .null Tr) ++ (kX0 cs h (.ref (g 0)) (.ref (u 0)) Ch) ++ (kX4 cs u (.ref (b 0)) (.ref (c 0)) (.ref (d 0)) Us))) (wr := ((kX2 cs g (.ref (b 0)) (.ref (c 0)) (.ref (d 0)) (.ref (a 0)) ) ++ (kX1 cs b  Fo) ++ (kX3 cs c  Sc) ++ (kX4 cs a (.ref (b 0)) (.ref (c 0)) (.ref (d 0)) Se) ++ (kX4 cs d (.ref (b 0)) (.ref (c 0)) .null Tr) ++ (kX0 cs h (.ref (g 0)) (.ref (u 0)) Ch) ++ (kX4 cs u (.ref (b 0)) (.ref (c 0)) (.ref (d 0)) Us))) (st1 := [.int r4]) [.int (-1000000001)] hx hb hml hown hu (tX7_finding l D cs x g g2 g3 h t sa (-1000000001) Ma r4 Ma_5 hg6) q339 q54 q336 q338 q0 pdX7_finding ⟨rfl, rfl, Nat.le_of_ble_eq_true rfl, Nat.le_of_ble_eq_true rfl⟩ hK hZ hP hD hS hA [0, 1] [2, 3, 4, 5, 6, 7, 8, 9, 10, 11, 12, 13, 14, 15, 16, 17, 18, 19, 20, 21, 22, 23, 24, 25, 26, 27, 28, 29] [28, 29, 0, 1, 2, 3, 4, 5, 6, 7, 8, 9, 10, 11, 12, 13, 14, 15, 16, 17, 18, 19, 20, 21, 22, 23, 24, 25, 26, 27] rfl rfl rfl rfl rfl rfl rfl rfl rfl rfl hl.1 rfl (Nat.le_of_ble_eq_true rfl) dX7_kept_19 rfl (fun H locs hP hD hS => ?_)
    have he := Option.some.inj hf
    obtain ⟨e0, ht0⟩ := Prod.mk.inj he
    obtain ⟨e1, ht1⟩ := Prod.mk.inj ht0
    obtain ⟨e2, ht2⟩ := Prod.mk.inj ht1
    obtain ⟨e3, ht3⟩ := Prod.mk.inj ht2
    obtain ⟨e4, e5⟩ := Prod.mk.inj ht3
    exact hri _ _ _ rfl (congrArg (fun z => some (Value.int z)) e0.symm) dX7_kept_22 _ _ _ (by rw [e1, e2, e3, e4, e5]) hP hD hS
  have h51 : ∀ (Ma : ST) (Sc : ST) (Tr : ST) (Ch : ST) (Us : ST) (H : Heap) (locs : List Loc) (ls : Array Slot), va_P D vwCl ((kX7 cs x (.ref (g 0)) (.ref (g2 0)) (.ref (g3 0)) (.ref (h 0)) (.ref (t 0)) (.ref (sa 0)) Ma) ++ (kX2 cs g (.ref (b 0)) (.ref (c 0)) (.ref (d 0)) (.ref (a 0)) ) ++ (kX1 cs b  Fo) ++ (kX3 cs c  Sc) ++ (kX4 cs a (.ref (b 0)) (.ref (c 0)) (.ref (d 0)) Se) ++ (kX4 cs d (.ref (b 0)) (.ref (c 0)) .null Tr) ++ (kX0 cs h (.ref (g 0)) (.ref (u 0)) Ch) ++ (kX4 cs u (.ref (b 0)) (.ref (c 0)) (.ref (d 0)) Us)) H → va_D A ((kX7 cs x (.ref (g 0)) (.ref (g2 0)) (.ref (g3 0)) (.ref (h 0)) (.ref (t 0)) (.ref (sa 0)) Ma) ++ (kX2 cs g (.ref (b 0)) (.ref (c 0)) (.ref (d 0)) (.ref (a 0)) ) ++ (kX1 cs b  Fo) ++ (kX3 cs c  Sc) ++ (kX4 cs a (.ref (b 0)) (.ref (c 0)) (.ref (d 0)) Se) ++ (kX4 cs d (.ref (b 0)) (.ref (c 0)) .null Tr) ++ (kX0 cs h (.ref (g 0)) (.ref (u 0)) Ch) ++ (kX4 cs u (.ref (b 0)) (.ref (c 0)) (.ref (d 0)) Us)) → va_S A s.heap H locs → lv_has ls 4 [(0, .ref (x 0))] → fX7_kept_51 Fo Se Ma Sc Tr Ch Us = some (r0, Maz, Scz, Trz, Chz, Usz) → W p l e rmX7_kept s m [.ref (x 0), .int x1, .int x2, .int x3].toArray below meth c H locs 0 0 Q (F0 m 51 ls []) := by
    intro Ma Sc Tr Ch Us H locs ls hP hD hS hl hf
    unfold fX7_kept_51 at hf
    refine lv_aload_n hx hb dX7_kept_51 rfl (lv_at hl 0 rfl) ?_
    refine lv_ldc (v := (-1000000005)) hx hb hown (hu _ q500) dX7_kept_52 ?_
    obtain ⟨r13, Ma_14, hg15, hf⟩ := b2_el hf
    refine cc_V (w' := ((kX7 cs x (.ref (g 0)) (.ref (g2 0)) (.ref (g3 0)) (.ref (h 0)) (.ref (t 0)) (.ref (sa 0)) Ma_14) ++ (kX2 cs g (.ref (b 0)) (.ref (c 0)) (.ref (d 0)) (.ref (a 0)) ) ++ (kX1 cs b  Fo) ++ (kX3 cs c  Sc) ++ (kX4 cs a (.ref (b 0)) (.ref (c 0)) (.ref (d 0)) Se) ++ (kX4 cs d (.ref (b 0)) (.ref (c 0)) .null Tr) ++ (kX0 cs h (.ref (g 0)) (.ref (u 0)) Ch) ++ (kX4 cs u (.ref (b 0)) (.ref (c 0)) (.ref (d 0)) Us))) (wr := ((kX2 cs g (.ref (b 0)) (.ref (c 0)) (.ref (d 0)) (.ref (a 0)) ) ++ (kX1 cs b  Fo) ++ (kX3 cs c  Sc) ++ (kX4 cs a (.ref (b 0)) (.ref (c 0)) (.ref (d 0)) Se) ++ (kX4 cs d (.ref (b 0)) (.ref (c 0)) .null Tr) ++ (kX0 cs h (.ref (g 0)) (.ref (u 0)) Ch) ++ (kX4 cs u (.ref (b 0)) (.ref (c 0)) (.ref (d 0)) Us))) (st1 := [.int r13]) [.int (-1000000005)] hx hb hml hown hu (tX7_finding l D cs x g g2 g3 h t sa (-1000000005) Ma r13 Ma_14 hg15) q339 q54 q336 q338 q0 pdX7_finding ⟨rfl, rfl, Nat.le_of_ble_eq_true rfl, Nat.le_of_ble_eq_true rfl⟩ hK hZ hP hD hS hA [0, 1] [2, 3, 4, 5, 6, 7, 8, 9, 10, 11, 12, 13, 14, 15, 16, 17, 18, 19, 20, 21, 22, 23, 24, 25, 26, 27, 28, 29] [28, 29, 0, 1, 2, 3, 4, 5, 6, 7, 8, 9, 10, 11, 12, 13, 14, 15, 16, 17, 18, 19, 20, 21, 22, 23, 24, 25, 26, 27] rfl rfl rfl rfl rfl rfl rfl rfl rfl rfl hl.1 rfl (Nat.le_of_ble_eq_true rfl) dX7_kept_54 rfl (fun H locs hP hD hS => ?_)
    have he := Option.some.inj hf
    obtain ⟨e0, ht0⟩ := Prod.mk.inj he
    obtain ⟨e1, ht1⟩ := Prod.mk.inj ht0
    obtain ⟨e2, ht2⟩ := Prod.mk.inj ht1
    obtain ⟨e3, ht3⟩ := Prod.mk.inj ht2
    obtain ⟨e4, e5⟩ := Prod.mk.inj ht3
    exact hri _ _ _ rfl (congrArg (fun z => some (Value.int z)) e0.symm) dX7_kept_57 _ _ _ (by rw [e1, e2, e3, e4, e5]) hP hD hS
  have hl : lv_has ls0 4 [(0, .ref (x 0)), (1, .int x1), (2, .int x2), (3, .int x3)] := hl0
  have hP := hP0
  have hD := hD0
  have hS := hS0
  unfold fX7_kept at hf
  refine lv_aload_n hx hb dX7_kept_0 rfl (lv_at hl 0 rfl) ?_
  refine lv_iload_n hx hb dX7_kept_1 rfl (lv_at hl 1 rfl) ?_
  refine lv_iload_n hx hb dX7_kept_2 rfl (lv_at hl 2 rfl) ?_
  obtain ⟨r1, hg2, hf⟩ := b1_el hf
  refine cc_V (w' := ((kX7 cs x (.ref (g 0)) (.ref (g2 0)) (.ref (g3 0)) (.ref (h 0)) (.ref (t 0)) (.ref (sa 0)) Ma) ++ (kX2 cs g (.ref (b 0)) (.ref (c 0)) (.ref (d 0)) (.ref (a 0)) ) ++ (kX1 cs b  Fo) ++ (kX3 cs c  Sc) ++ (kX4 cs a (.ref (b 0)) (.ref (c 0)) (.ref (d 0)) Se) ++ (kX4 cs d (.ref (b 0)) (.ref (c 0)) .null Tr) ++ (kX0 cs h (.ref (g 0)) (.ref (u 0)) Ch) ++ (kX4 cs u (.ref (b 0)) (.ref (c 0)) (.ref (d 0)) Us))) (wr := ((kX3 cs c  Sc) ++ (kX4 cs a (.ref (b 0)) (.ref (c 0)) (.ref (d 0)) Se) ++ (kX4 cs d (.ref (b 0)) (.ref (c 0)) .null Tr) ++ (kX0 cs h (.ref (g 0)) (.ref (u 0)) Ch) ++ (kX4 cs u (.ref (b 0)) (.ref (c 0)) (.ref (d 0)) Us))) (st1 := [.int r1]) [.int x1, .int x2] hx hb hml hown hu (tX7_areTwo l D cs x g g2 g3 h t sa b c d a x1 x2 Ma Fo r1 hg2) q473 q54 q470 q472 q5 pdX7_areTwo ⟨rfl, rfl, Nat.le_of_ble_eq_true rfl, Nat.le_of_ble_eq_true rfl⟩ hK hZ hP hD hS hA [0, 1, 2, 3, 4, 5, 6, 7, 8, 9] [10, 11, 12, 13, 14, 15, 16, 17, 18, 19, 20, 21, 22, 23, 24, 25, 26, 27, 28, 29] [20, 21, 22, 23, 24, 25, 26, 27, 28, 29, 0, 1, 2, 3, 4, 5, 6, 7, 8, 9, 10, 11, 12, 13, 14, 15, 16, 17, 18, 19] rfl rfl rfl rfl rfl rfl rfl rfl rfl rfl hl.1 rfl (Nat.le_of_ble_eq_true rfl) dX7_kept_3 rfl (fun H locs hP hD hS => ?_)
  refine lv_if_eq (tgt := 16) hx hb dX7_kept_6 (by decide) (fun hc3 => ?_) (fun hc3 => ?_)
  · have hf := ip_el hc3 hf
    exact h16 Ma Sc Tr Ch Us _ _ _ hP hD hS (lv_sub hl [0] rfl) hf
  · have hf := in_el hc3 hf
    refine lv_iload_n hx hb dX7_kept_9 rfl (lv_at hl 3 rfl) ?_
    obtain ⟨r7, hg8, hf⟩ := b1_el hf
    refine cc_S0 (st1 := [.int r7]) [.int x3] hx hb hml hown hu (tX7_isChairs l D cs x3 r7 hg8) q566 q54 q564 q565 pdX7_isChairs ⟨rfl, rfl, Nat.le_of_ble_eq_true rfl, Nat.le_of_ble_eq_true rfl⟩ hK hZ hP hD hS hA rfl hl.1 rfl (Nat.le_of_ble_eq_true rfl) dX7_kept_10 rfl (fun H locs hP hD hS => ?_)
    refine lv_if_ne (tgt := 23) hx hb dX7_kept_13 (by decide) (fun hc9 => ?_) (fun hc9 => ?_)
    · have hf := in_el hc9 hf
      refine lv_aload_n hx hb dX7_kept_23 rfl (lv_at hl 0 rfl) ?_
      refine va_get (D := D) (ci := 7) (v := .ref (g 0)) (C := RX7) (T := TX7) (N := 8) hx hb hu inX7 hown hK.1 hP 0 rfl rfl 0 (by decide) (hu _ q300) (fun _ h9 => h9) rfl dX7_kept_24 ?_
      refine va_get (D := D) (ci := 2) (v := .ref (b 0)) (C := RX2) (T := TX2) (N := 4) hx hb hu inX2 hown hK.1 hP 2 rfl rfl 0 (by decide) (hu _ q196) (fun _ h9 => h9) rfl dX7_kept_27 ?_
      refine lv_iload_n hx hb dX7_kept_30 rfl (lv_at hl 1 rfl) ?_
      obtain ⟨r10, hg11, hf⟩ := b1_el hf
      refine cc_V (w' := ((kX7 cs x (.ref (g 0)) (.ref (g2 0)) (.ref (g3 0)) (.ref (h 0)) (.ref (t 0)) (.ref (sa 0)) Ma) ++ (kX2 cs g (.ref (b 0)) (.ref (c 0)) (.ref (d 0)) (.ref (a 0)) ) ++ (kX1 cs b  Fo) ++ (kX3 cs c  Sc) ++ (kX4 cs a (.ref (b 0)) (.ref (c 0)) (.ref (d 0)) Se) ++ (kX4 cs d (.ref (b 0)) (.ref (c 0)) .null Tr) ++ (kX0 cs h (.ref (g 0)) (.ref (u 0)) Ch) ++ (kX4 cs u (.ref (b 0)) (.ref (c 0)) (.ref (d 0)) Us))) (wr := ((kX7 cs x (.ref (g 0)) (.ref (g2 0)) (.ref (g3 0)) (.ref (h 0)) (.ref (t 0)) (.ref (sa 0)) Ma) ++ (kX2 cs g (.ref (b 0)) (.ref (c 0)) (.ref (d 0)) (.ref (a 0)) ) ++ (kX3 cs c  Sc) ++ (kX4 cs a (.ref (b 0)) (.ref (c 0)) (.ref (d 0)) Se) ++ (kX4 cs d (.ref (b 0)) (.ref (c 0)) .null Tr) ++ (kX0 cs h (.ref (g 0)) (.ref (u 0)) Ch) ++ (kX4 cs u (.ref (b 0)) (.ref (c 0)) (.ref (d 0)) Us))) (st1 := [.int r10]) [.int x1] hx hb hml hown hu (tX1_isAlive l D cs b x1 Fo r10 hg11) q356 q56 q353 q354 q355 pdX1_isAlive ⟨rfl, rfl, Nat.le_of_ble_eq_true rfl, Nat.le_of_ble_eq_true rfl⟩ hK hZ hP hD hS hA [3, 4, 5, 6, 7, 8, 9] [0, 1, 2, 10, 11, 12, 13, 14, 15, 16, 17, 18, 19, 20, 21, 22, 23, 24, 25, 26, 27, 28, 29] [0, 1, 2, 23, 24, 25, 26, 27, 28, 29, 3, 4, 5, 6, 7, 8, 9, 10, 11, 12, 13, 14, 15, 16, 17, 18, 19, 20, 21, 22] rfl rfl rfl rfl rfl rfl rfl rfl rfl rfl hl.1 rfl (Nat.le_of_ble_eq_true rfl) dX7_kept_31 rfl (fun H locs hP hD hS => ?_)
      refine lv_if_eq (tgt := 51) hx hb dX7_kept_34 (by decide) (fun hc12 => ?_) (fun hc12 => ?_)
      · have hf := ip_el hc12 hf
        exact h51 Ma Sc Tr Ch Us _ _ _ hP hD hS (lv_sub hl [0] rfl) hf
      · have hf := in_el hc12 hf
        refine lv_aload_n hx hb dX7_kept_37 rfl (lv_at hl 0 rfl) ?_
        refine va_get (D := D) (ci := 7) (v := .ref (g 0)) (C := RX7) (T := TX7) (N := 8) hx hb hu inX7 hown hK.1 hP 0 rfl rfl 0 (by decide) (hu _ q300) (fun _ h9 => h9) rfl dX7_kept_38 ?_
        refine va_get (D := D) (ci := 2) (v := .ref (b 0)) (C := RX2) (T := TX2) (N := 4) hx hb hu inX2 hown hK.1 hP 2 rfl rfl 0 (by decide) (hu _ q196) (fun _ h9 => h9) rfl dX7_kept_41 ?_
        refine lv_iload_n hx hb dX7_kept_44 rfl (lv_at hl 2 rfl) ?_
        obtain ⟨r16, hg17, hf⟩ := b1_el hf
        refine cc_V (w' := ((kX7 cs x (.ref (g 0)) (.ref (g2 0)) (.ref (g3 0)) (.ref (h 0)) (.ref (t 0)) (.ref (sa 0)) Ma) ++ (kX2 cs g (.ref (b 0)) (.ref (c 0)) (.ref (d 0)) (.ref (a 0)) ) ++ (kX1 cs b  Fo) ++ (kX3 cs c  Sc) ++ (kX4 cs a (.ref (b 0)) (.ref (c 0)) (.ref (d 0)) Se) ++ (kX4 cs d (.ref (b 0)) (.ref (c 0)) .null Tr) ++ (kX0 cs h (.ref (g 0)) (.ref (u 0)) Ch) ++ (kX4 cs u (.ref (b 0)) (.ref (c 0)) (.ref (d 0)) Us))) (wr := ((kX7 cs x (.ref (g 0)) (.ref (g2 0)) (.ref (g3 0)) (.ref (h 0)) (.ref (t 0)) (.ref (sa 0)) Ma) ++ (kX2 cs g (.ref (b 0)) (.ref (c 0)) (.ref (d 0)) (.ref (a 0)) ) ++ (kX3 cs c  Sc) ++ (kX4 cs a (.ref (b 0)) (.ref (c 0)) (.ref (d 0)) Se) ++ (kX4 cs d (.ref (b 0)) (.ref (c 0)) .null Tr) ++ (kX0 cs h (.ref (g 0)) (.ref (u 0)) Ch) ++ (kX4 cs u (.ref (b 0)) (.ref (c 0)) (.ref (d 0)) Us))) (st1 := [.int r16]) [.int x2] hx hb hml hown hu (tX1_isAlive l D cs b x2 Fo r16 hg17) q356 q56 q353 q354 q355 pdX1_isAlive ⟨rfl, rfl, Nat.le_of_ble_eq_true rfl, Nat.le_of_ble_eq_true rfl⟩ hK hZ hP hD hS hA [3, 4, 5, 6, 7, 8, 9] [0, 1, 2, 10, 11, 12, 13, 14, 15, 16, 17, 18, 19, 20, 21, 22, 23, 24, 25, 26, 27, 28, 29] [0, 1, 2, 23, 24, 25, 26, 27, 28, 29, 3, 4, 5, 6, 7, 8, 9, 10, 11, 12, 13, 14, 15, 16, 17, 18, 19, 20, 21, 22] rfl rfl rfl rfl rfl rfl rfl rfl rfl rfl hl.1 rfl (Nat.le_of_ble_eq_true rfl) dX7_kept_45 rfl (fun H locs hP hD hS => ?_)
        refine lv_if_ne (tgt := 58) hx hb dX7_kept_48 (by decide) (fun hc18 => ?_) (fun hc18 => ?_)
        · have hf := in_el hc18 hf
          refine lv_aload_n hx hb dX7_kept_58 rfl (lv_at hl 0 rfl) ?_
          refine va_get (D := D) (ci := 7) (v := .ref (h 0)) (C := RX7) (T := TX7) (N := 8) hx hb hu inX7 hown hK.1 hP 0 rfl rfl 3 (by decide) (hu _ q303) (fun _ h9 => h9) rfl dX7_kept_59 ?_
          obtain ⟨Us_19, hg20, hf⟩ := b1_el hf
          refine cc_V (w' := ((kX7 cs x (.ref (g 0)) (.ref (g2 0)) (.ref (g3 0)) (.ref (h 0)) (.ref (t 0)) (.ref (sa 0)) Ma) ++ (kX2 cs g (.ref (b 0)) (.ref (c 0)) (.ref (d 0)) (.ref (a 0)) ) ++ (kX1 cs b  Fo) ++ (kX3 cs c  Sc) ++ (kX4 cs a (.ref (b 0)) (.ref (c 0)) (.ref (d 0)) Se) ++ (kX4 cs d (.ref (b 0)) (.ref (c 0)) .null Tr) ++ (kX0 cs h (.ref (g 0)) (.ref (u 0)) Ch) ++ (kX4 cs u (.ref (b 0)) (.ref (c 0)) (.ref (d 0)) Us_19))) (wr := ((kX7 cs x (.ref (g 0)) (.ref (g2 0)) (.ref (g3 0)) (.ref (h 0)) (.ref (t 0)) (.ref (sa 0)) Ma) ++ (kX1 cs b  Fo) ++ (kX3 cs c  Sc) ++ (kX4 cs d (.ref (b 0)) (.ref (c 0)) .null Tr))) (st1 := []) [] hx hb hml hown hu (tX0_start l D cs h g u b c d a Ch Se Us Us_19 hg20) q570 q59 q567 q568 q569 pdX0_start ⟨rfl, rfl, Nat.le_of_ble_eq_true rfl, Nat.le_of_ble_eq_true rfl⟩ hK hZ hP hD hS hA [21, 22, 23, 24, 25, 2, 13, 14, 15, 16, 26, 27, 28, 29] [0, 1, 3, 4, 5, 6, 7, 8, 9, 10, 11, 12, 17, 18, 19, 20] [0, 1, 21, 2, 3, 4, 5, 6, 7, 8, 9, 10, 11, 22, 23, 24, 25, 12, 13, 14, 15, 16, 17, 18, 19, 20, 26, 27, 28, 29] rfl rfl rfl rfl rfl rfl rfl rfl rfl rfl hl.1 rfl (Nat.le_of_ble_eq_true rfl) dX7_kept_62 rfl (fun H locs hP hD hS => ?_)
          refine lv_aload_n hx hb dX7_kept_65 rfl (lv_at hl 0 rfl) ?_
          refine va_get (D := D) (ci := 7) (v := .ref (h 0)) (C := RX7) (T := TX7) (N := 8) hx hb hu inX7 hown hK.1 hP 0 rfl rfl 3 (by decide) (hu _ q303) (fun _ h9 => h9) rfl dX7_kept_66 ?_
          refine lv_iload_n hx hb dX7_kept_69 rfl (lv_at hl 3 rfl) ?_
          obtain ⟨Ch_21, Sc_22, Tr_23, Us_24, hg25, hf⟩ := b4_el hf
          refine cc_V (w' := ((kX7 cs x (.ref (g 0)) (.ref (g2 0)) (.ref (g3 0)) (.ref (h 0)) (.ref (t 0)) (.ref (sa 0)) Ma) ++ (kX2 cs g (.ref (b 0)) (.ref (c 0)) (.ref (d 0)) (.ref (a 0)) ) ++ (kX1 cs b  Fo) ++ (kX3 cs c  Sc_22) ++ (kX4 cs a (.ref (b 0)) (.ref (c 0)) (.ref (d 0)) Se) ++ (kX4 cs d (.ref (b 0)) (.ref (c 0)) .null Tr_23) ++ (kX0 cs h (.ref (g 0)) (.ref (u 0)) Ch_21) ++ (kX4 cs u (.ref (b 0)) (.ref (c 0)) (.ref (d 0)) Us_24))) (wr := ((kX7 cs x (.ref (g 0)) (.ref (g2 0)) (.ref (g3 0)) (.ref (h 0)) (.ref (t 0)) (.ref (sa 0)) Ma) ++ (kX4 cs a (.ref (b 0)) (.ref (c 0)) (.ref (d 0)) Se))) (st1 := []) [.int x3] hx hb hml hown hu (tX0_tally l D cs h g u b c d a x3 Ch Fo Sc Tr Us_19 Ch_21 Sc_22 Tr_23 Us_24 hg25) q602 q59 q599 q600 q601 pdX0_tally ⟨rfl, rfl, Nat.le_of_ble_eq_true rfl, Nat.le_of_ble_eq_true rfl⟩ hK hZ hP hD hS hA [21, 22, 23, 24, 25, 2, 3, 4, 5, 6, 7, 8, 9, 10, 11, 12, 17, 18, 19, 20, 26, 27, 28, 29] [0, 1, 13, 14, 15, 16] [0, 1, 11, 12, 13, 14, 15, 16, 17, 18, 19, 20, 21, 2, 3, 4, 5, 22, 23, 24, 25, 6, 7, 8, 9, 10, 26, 27, 28, 29] rfl rfl rfl rfl rfl rfl rfl rfl rfl rfl hl.1 rfl (Nat.le_of_ble_eq_true rfl) dX7_kept_70 rfl (fun H locs hP hD hS => ?_)
          refine lv_aload_n hx hb dX7_kept_73 rfl (lv_at hl 0 rfl) ?_
          refine va_get (D := D) (ci := 7) (v := .ref (h 0)) (C := RX7) (T := TX7) (N := 8) hx hb hu inX7 hown hK.1 hP 0 rfl rfl 3 (by decide) (hu _ q303) (fun _ h9 => h9) rfl dX7_kept_74 ?_
          obtain ⟨Ch_26, hg27, hf⟩ := b1_el hf
          refine cc_V (w' := ((kX7 cs x (.ref (g 0)) (.ref (g2 0)) (.ref (g3 0)) (.ref (h 0)) (.ref (t 0)) (.ref (sa 0)) Ma) ++ (kX2 cs g (.ref (b 0)) (.ref (c 0)) (.ref (d 0)) (.ref (a 0)) ) ++ (kX1 cs b  Fo) ++ (kX3 cs c  Sc_22) ++ (kX4 cs a (.ref (b 0)) (.ref (c 0)) (.ref (d 0)) Se) ++ (kX4 cs d (.ref (b 0)) (.ref (c 0)) .null Tr_23) ++ (kX0 cs h (.ref (g 0)) (.ref (u 0)) Ch_26) ++ (kX4 cs u (.ref (b 0)) (.ref (c 0)) (.ref (d 0)) Us_24))) (wr := ((kX7 cs x (.ref (g 0)) (.ref (g2 0)) (.ref (g3 0)) (.ref (h 0)) (.ref (t 0)) (.ref (sa 0)) Ma) ++ (kX3 cs c  Sc_22) ++ (kX4 cs a (.ref (b 0)) (.ref (c 0)) (.ref (d 0)) Se) ++ (kX4 cs d (.ref (b 0)) (.ref (c 0)) .null Tr_23) ++ (kX4 cs u (.ref (b 0)) (.ref (c 0)) (.ref (d 0)) Us_24))) (st1 := []) [] hx hb hml hown hu (tX0_noteWithout l D cs h g u b c d a Ch_21 Fo Ch_26 hg27) q633 q59 q630 q631 q632 pdX0_noteWithout ⟨rfl, rfl, Nat.le_of_ble_eq_true rfl, Nat.le_of_ble_eq_true rfl⟩ hK hZ hP hD hS hA [21, 22, 23, 24, 25, 2, 3, 4, 5, 6, 7, 8, 9] [0, 1, 10, 11, 12, 13, 14, 15, 16, 17, 18, 19, 20, 26, 27, 28, 29] [0, 1, 22, 23, 24, 25, 26, 27, 28, 29, 2, 3, 4, 5, 6, 7, 8, 9, 10, 11, 12, 17, 18, 19, 20, 21, 13, 14, 15, 16] rfl rfl rfl rfl rfl rfl rfl rfl rfl rfl hl.1 rfl (Nat.le_of_ble_eq_true rfl) dX7_kept_77 rfl (fun H locs hP hD hS => ?_)
          refine lv_aload_n hx hb dX7_kept_80 rfl (lv_at hl 0 rfl) ?_
          refine va_get (D := D) (ci := 7) (v := .ref (h 0)) (C := RX7) (T := TX7) (N := 8) hx hb hu inX7 hown hK.1 hP 0 rfl rfl 3 (by decide) (hu _ q303) (fun _ h9 => h9) rfl dX7_kept_81 ?_
          obtain ⟨Us_28, hg29, hf⟩ := b1_el hf
          refine cc_V (w' := ((kX7 cs x (.ref (g 0)) (.ref (g2 0)) (.ref (g3 0)) (.ref (h 0)) (.ref (t 0)) (.ref (sa 0)) Ma) ++ (kX2 cs g (.ref (b 0)) (.ref (c 0)) (.ref (d 0)) (.ref (a 0)) ) ++ (kX1 cs b  Fo) ++ (kX3 cs c  Sc_22) ++ (kX4 cs a (.ref (b 0)) (.ref (c 0)) (.ref (d 0)) Se) ++ (kX4 cs d (.ref (b 0)) (.ref (c 0)) .null Tr_23) ++ (kX0 cs h (.ref (g 0)) (.ref (u 0)) Ch_26) ++ (kX4 cs u (.ref (b 0)) (.ref (c 0)) (.ref (d 0)) Us_28))) (wr := ((kX7 cs x (.ref (g 0)) (.ref (g2 0)) (.ref (g3 0)) (.ref (h 0)) (.ref (t 0)) (.ref (sa 0)) Ma) ++ (kX1 cs b  Fo) ++ (kX3 cs c  Sc_22) ++ (kX4 cs d (.ref (b 0)) (.ref (c 0)) .null Tr_23))) (st1 := []) [] hx hb hml hown hu (tX0_start l D cs h g u b c d a Ch_26 Se Us_24 Us_28 hg29) q570 q59 q567 q568 q569 pdX0_start ⟨rfl, rfl, Nat.le_of_ble_eq_true rfl, Nat.le_of_ble_eq_true rfl⟩ hK hZ hP hD hS hA [21, 22, 23, 24, 25, 2, 13, 14, 15, 16, 26, 27, 28, 29] [0, 1, 3, 4, 5, 6, 7, 8, 9, 10, 11, 12, 17, 18, 19, 20] [0, 1, 21, 2, 3, 4, 5, 6, 7, 8, 9, 10, 11, 22, 23, 24, 25, 12, 13, 14, 15, 16, 17, 18, 19, 20, 26, 27, 28, 29] rfl rfl rfl rfl rfl rfl rfl rfl rfl rfl hl.1 rfl (Nat.le_of_ble_eq_true rfl) dX7_kept_84 rfl (fun H locs hP hD hS => ?_)
          refine lv_aload_n hx hb dX7_kept_87 rfl (lv_at hl 0 rfl) ?_
          refine va_get (D := D) (ci := 7) (v := .ref (h 0)) (C := RX7) (T := TX7) (N := 8) hx hb hu inX7 hown hK.1 hP 0 rfl rfl 3 (by decide) (hu _ q303) (fun _ h9 => h9) rfl dX7_kept_88 ?_
          refine va_get (D := D) (ci := 0) (v := .ref (u 0)) (C := RX0) (T := TX0) (N := 8) hx hb hu inX0 hown hK.1 hP 21 rfl rfl 1 (by decide) (hu _ q224) (fun _ h9 => h9) rfl dX7_kept_91 ?_
          refine lv_iload_n hx hb dX7_kept_94 rfl (lv_at hl 1 rfl) ?_
          refine lv_iload_n hx hb dX7_kept_95 rfl (lv_at hl 2 rfl) ?_
          obtain ⟨Us_30, hg31, hf⟩ := b1_el hf
          refine cc_V (w' := ((kX7 cs x (.ref (g 0)) (.ref (g2 0)) (.ref (g3 0)) (.ref (h 0)) (.ref (t 0)) (.ref (sa 0)) Ma) ++ (kX2 cs g (.ref (b 0)) (.ref (c 0)) (.ref (d 0)) (.ref (a 0)) ) ++ (kX1 cs b  Fo) ++ (kX3 cs c  Sc_22) ++ (kX4 cs a (.ref (b 0)) (.ref (c 0)) (.ref (d 0)) Se) ++ (kX4 cs d (.ref (b 0)) (.ref (c 0)) .null Tr_23) ++ (kX0 cs h (.ref (g 0)) (.ref (u 0)) Ch_26) ++ (kX4 cs u (.ref (b 0)) (.ref (c 0)) (.ref (d 0)) Us_30))) (wr := ((kX7 cs x (.ref (g 0)) (.ref (g2 0)) (.ref (g3 0)) (.ref (h 0)) (.ref (t 0)) (.ref (sa 0)) Ma) ++ (kX2 cs g (.ref (b 0)) (.ref (c 0)) (.ref (d 0)) (.ref (a 0)) ) ++ (kX1 cs b  Fo) ++ (kX3 cs c  Sc_22) ++ (kX4 cs a (.ref (b 0)) (.ref (c 0)) (.ref (d 0)) Se) ++ (kX4 cs d (.ref (b 0)) (.ref (c 0)) .null Tr_23) ++ (kX0 cs h (.ref (g 0)) (.ref (u 0)) Ch_26))) (st1 := []) [.int x1, .int x2] hx hb hml hown hu (tX4_keepWord l D cs u (.ref (b 0)) (.ref (c 0)) (.ref (d 0)) x1 x2 Us_28 Us_30 hg31) q435 q58 q635 q433 q434 pdX4_keepWord ⟨rfl, rfl, Nat.le_of_ble_eq_true rfl, Nat.le_of_ble_eq_true rfl⟩ hK hZ hP hD hS hA [26, 27, 28, 29] [0, 1, 2, 3, 4, 5, 6, 7, 8, 9, 10, 11, 12, 13, 14, 15, 16, 17, 18, 19, 20, 21, 22, 23, 24, 25] [0, 1, 2, 3, 4, 5, 6, 7, 8, 9, 10, 11, 12, 13, 14, 15, 16, 17, 18, 19, 20, 21, 22, 23, 24, 25, 26, 27, 28, 29] rfl rfl rfl rfl rfl rfl rfl rfl rfl rfl hl.1 rfl (Nat.le_of_ble_eq_true rfl) dX7_kept_96 rfl (fun H locs hP hD hS => ?_)
          refine lv_aload_n hx hb dX7_kept_99 rfl (lv_at hl 0 rfl) ?_
          refine va_get (D := D) (ci := 7) (v := .ref (h 0)) (C := RX7) (T := TX7) (N := 8) hx hb hu inX7 hown hK.1 hP 0 rfl rfl 3 (by decide) (hu _ q303) (fun _ h9 => h9) rfl dX7_kept_100 ?_
          refine lv_iload_n hx hb dX7_kept_103 rfl (lv_at hl 3 rfl) ?_
          obtain ⟨Ch_32, Sc_33, Tr_34, Us_35, hg36, hf⟩ := b4_el hf
          refine cc_V (w' := ((kX7 cs x (.ref (g 0)) (.ref (g2 0)) (.ref (g3 0)) (.ref (h 0)) (.ref (t 0)) (.ref (sa 0)) Ma) ++ (kX2 cs g (.ref (b 0)) (.ref (c 0)) (.ref (d 0)) (.ref (a 0)) ) ++ (kX1 cs b  Fo) ++ (kX3 cs c  Sc_33) ++ (kX4 cs a (.ref (b 0)) (.ref (c 0)) (.ref (d 0)) Se) ++ (kX4 cs d (.ref (b 0)) (.ref (c 0)) .null Tr_34) ++ (kX0 cs h (.ref (g 0)) (.ref (u 0)) Ch_32) ++ (kX4 cs u (.ref (b 0)) (.ref (c 0)) (.ref (d 0)) Us_35))) (wr := ((kX7 cs x (.ref (g 0)) (.ref (g2 0)) (.ref (g3 0)) (.ref (h 0)) (.ref (t 0)) (.ref (sa 0)) Ma) ++ (kX4 cs a (.ref (b 0)) (.ref (c 0)) (.ref (d 0)) Se))) (st1 := []) [.int x3] hx hb hml hown hu (tX0_tally l D cs h g u b c d a x3 Ch_26 Fo Sc_22 Tr_23 Us_30 Ch_32 Sc_33 Tr_34 Us_35 hg36) q602 q59 q599 q600 q601 pdX0_tally ⟨rfl, rfl, Nat.le_of_ble_eq_true rfl, Nat.le_of_ble_eq_true rfl⟩ hK hZ hP hD hS hA [21, 22, 23, 24, 25, 2, 3, 4, 5, 6, 7, 8, 9, 10, 11, 12, 17, 18, 19, 20, 26, 27, 28, 29] [0, 1, 13, 14, 15, 16] [0, 1, 11, 12, 13, 14, 15, 16, 17, 18, 19, 20, 21, 2, 3, 4, 5, 22, 23, 24, 25, 6, 7, 8, 9, 10, 26, 27, 28, 29] rfl rfl rfl rfl rfl rfl rfl rfl rfl rfl hl.1 rfl (Nat.le_of_ble_eq_true rfl) dX7_kept_104 rfl (fun H locs hP hD hS => ?_)
          refine lv_aload_n hx hb dX7_kept_107 rfl (lv_at hl 0 rfl) ?_
          refine va_get (D := D) (ci := 7) (v := .ref (h 0)) (C := RX7) (T := TX7) (N := 8) hx hb hu inX7 hown hK.1 hP 0 rfl rfl 3 (by decide) (hu _ q303) (fun _ h9 => h9) rfl dX7_kept_108 ?_
          refine lv_iload_n hx hb dX7_kept_111 rfl (lv_at hl 1 rfl) ?_
          obtain ⟨r37, hg38, hf⟩ := b1_el hf
          refine cc_V (w' := ((kX7 cs x (.ref (g 0)) (.ref (g2 0)) (.ref (g3 0)) (.ref (h 0)) (.ref (t 0)) (.ref (sa 0)) Ma) ++ (kX2 cs g (.ref (b 0)) (.ref (c 0)) (.ref (d 0)) (.ref (a 0)) ) ++ (kX1 cs b  Fo) ++ (kX3 cs c  Sc_33) ++ (kX4 cs a (.ref (b 0)) (.ref (c 0)) (.ref (d 0)) Se) ++ (kX4 cs d (.ref (b 0)) (.ref (c 0)) .null Tr_34) ++ (kX0 cs h (.ref (g 0)) (.ref (u 0)) Ch_32) ++ (kX4 cs u (.ref (b 0)) (.ref (c 0)) (.ref (d 0)) Us_35))) (wr := ((kX7 cs x (.ref (g 0)) (.ref (g2 0)) (.ref (g3 0)) (.ref (h 0)) (.ref (t 0)) (.ref (sa 0)) Ma) ++ (kX3 cs c  Sc_33) ++ (kX4 cs a (.ref (b 0)) (.ref (c 0)) (.ref (d 0)) Se) ++ (kX4 cs d (.ref (b 0)) (.ref (c 0)) .null Tr_34) ++ (kX4 cs u (.ref (b 0)) (.ref (c 0)) (.ref (d 0)) Us_35))) (st1 := [.int r37]) [.int x1] hx hb hml hown hu (tX0_moreFor l D cs h g u b c d a x1 Ch_32 Fo r37 hg38) q639 q59 q636 q637 q638 pdX0_moreFor ⟨rfl, rfl, Nat.le_of_ble_eq_true rfl, Nat.le_of_ble_eq_true rfl⟩ hK hZ hP hD hS hA [21, 22, 23, 24, 25, 2, 3, 4, 5, 6, 7, 8, 9] [0, 1, 10, 11, 12, 13, 14, 15, 16, 17, 18, 19, 20, 26, 27, 28, 29] [0, 1, 22, 23, 24, 25, 26, 27, 28, 29, 2, 3, 4, 5, 6, 7, 8, 9, 10, 11, 12, 17, 18, 19, 20, 21, 13, 14, 15, 16] rfl rfl rfl rfl rfl rfl rfl rfl rfl rfl hl.1 rfl (Nat.le_of_ble_eq_true rfl) dX7_kept_112 rfl (fun H locs hP hD hS => ?_)
          have he := Option.some.inj hf
          obtain ⟨e0, ht0⟩ := Prod.mk.inj he
          obtain ⟨e1, ht1⟩ := Prod.mk.inj ht0
          obtain ⟨e2, ht2⟩ := Prod.mk.inj ht1
          obtain ⟨e3, ht3⟩ := Prod.mk.inj ht2
          obtain ⟨e4, e5⟩ := Prod.mk.inj ht3
          exact hri _ _ _ rfl (congrArg (fun z => some (Value.int z)) e0.symm) dX7_kept_115 _ _ _ (by rw [e1, e2, e3, e4, e5]) hP hD hS
        · have hf := ip_el hc18 hf
          exact h51 Ma Sc Tr Ch Us _ _ _ hP hD hS (lv_sub hl [0] rfl) hf
    · have hf := ip_el hc9 hf
      exact h16 Ma Sc Tr Ch Us _ _ _ hP hD hS (lv_sub hl [0] rfl) hf

def fX7_pact_197 (Fo : ST) (Se : ST) (k70 : Int32 → Int32 → Int32 → Int32 → ST → ST → ST → ST → ST → Option (Int32 × ST × ST × ST × ST × ST)) (k91 : Int32 → Int32 → Int32 → Int32 → Int32 → ST → ST → ST → ST → ST → Option (Int32 × ST × ST × ST × ST × ST)) (y1 : Int32) (y4 : Int32) (y5 : Int32) (y6 : Int32) (Ma : ST) (Sc : ST) (Tr : ST) (Ch : ST) (Us : ST) : Option (Int32 × ST × ST × ST × ST × ST) :=
  dc_lt ((10 * y4) + y5) (fun v45 => dc_lt (y5 + 1) (fun v46 => k91 y1 v45 y6 y4 v46 Ma Sc Tr Ch Us))
def fX7_pact_91_s (Fo : ST) (Se : ST) (k70 : Int32 → Int32 → Int32 → Int32 → ST → ST → ST → ST → ST → Option (Int32 × ST × ST × ST × ST × ST)) (k91 : Int32 → Int32 → Int32 → Int32 → Int32 → ST → ST → ST → ST → ST → Option (Int32 × ST × ST × ST × ST × ST)) (y1 : Int32) (y2 : Int32) (y3 : Int32) (y4 : Int32) (y5 : Int32) (Ma : ST) (Sc : ST) (Tr : ST) (Ch : ST) (Us : ST) : Option (Int32 × ST × ST × ST × ST × ST) :=
  (if (Fo 0 0) ≤ y5 then dc_lt (y4 + 1) (fun v21 => k70 y1 y2 y3 v21 Ma Sc Tr Ch Us) else dc_b1 (fX1_isAlive y4 Fo) (fun r22 => (if r22 = 0 then dc_lt (y5 + 1) (fun v25 => k91 y1 y2 y3 y4 v25 Ma Sc Tr Ch Us) else dc_b1 (fX1_isAlive y5 Fo) (fun r26 => (if r26 = 0 then dc_lt (y5 + 1) (fun v29 => k91 y1 y2 y3 y4 v29 Ma Sc Tr Ch Us) else dc_b1 (fX0_start Ch Se Us) (fun Us_30 => dc_b1 (fX4_keepWord y4 y5 Us_30) (fun Us_32 => dc_b4 (fX0_tally y1 Ch Fo Sc Tr Us_32) (fun Ch_34 Sc_35 Tr_36 Us_37 => dc_b1 (fX0_moreFor y4 Ch_34 Fo) (fun r39 => dc_b1 (fX0_moreFor y5 Ch_34 Fo) (fun r41 => dc_lt (r39 + r41) (fun v43 => (if y2 = (-1) then fX7_pact_197 Fo Se k70 k91 y1 y4 y5 v43 Ma Sc_35 Tr_36 Ch_34 Us_37 else (if v43 ≤ y3 then dc_lt (y5 + 1) (fun v48 => k91 y1 y2 y3 y4 v48 Ma Sc_35 Tr_36 Ch_34 Us_37) else fX7_pact_197 Fo Se k70 k91 y1 y4 y5 v43 Ma Sc_35 Tr_36 Ch_34 Us_37)))))))))))))
def fX7_pact_91 (Fo : ST) (Se : ST) (k70 : Int32 → Int32 → Int32 → Int32 → ST → ST → ST → ST → ST → Option (Int32 × ST × ST × ST × ST × ST)) : Nat → Int32 → Int32 → Int32 → Int32 → Int32 → ST → ST → ST → ST → ST → Option (Int32 × ST × ST × ST × ST × ST)
  | 0 => fun _ _ _ _ _ _ _ _ _ _ => none
  | n + 1 => fX7_pact_91_s Fo Se k70 (fX7_pact_91 Fo Se k70 n)
def fX7_pact_70_s (Fo : ST) (Se : ST) (k70 : Int32 → Int32 → Int32 → Int32 → ST → ST → ST → ST → ST → Option (Int32 × ST × ST × ST × ST × ST)) (y1 : Int32) (y2 : Int32) (y3 : Int32) (y4 : Int32) (Ma : ST) (Sc : ST) (Tr : ST) (Ch : ST) (Us : ST) : Option (Int32 × ST × ST × ST × ST × ST) :=
  (if (Fo 0 0) ≤ y4 then some (y2, Ma, Sc, Tr, Ch, Us) else dc_lt (y4 + 1) (fun v19 => fX7_pact_91 Fo Se k70 400 y1 y2 y3 y4 v19 Ma Sc Tr Ch Us))
def fX7_pact_70 (Fo : ST) (Se : ST) : Nat → Int32 → Int32 → Int32 → Int32 → ST → ST → ST → ST → ST → Option (Int32 × ST × ST × ST × ST × ST)
  | 0 => fun _ _ _ _ _ _ _ _ _ => none
  | n + 1 => fX7_pact_70_s Fo Se (fX7_pact_70 Fo Se n)
def fX7_pact (x1 : Int32) (Ma : ST) (Fo : ST) (Sc : ST) (Se : ST) (Tr : ST) (Ch : ST) (Us : ST) : Option (Int32 × ST × ST × ST × ST × ST) :=
  dc_b1 (fX7_within x1 1 40) (fun r1 => (if r1 = 0 then dc_b2 (fX7_finding (-1000000001) Ma) (fun r52 Ma_53 => some (r52, Ma_53, Sc, Tr, Ch, Us)) else dc_b1 (fX1_alive Fo) (fun r4 => dc_b1 (fJ6_bitCount_0f7a4 r4) (fun r6 => (if 2 ≤ r6 then dc_b1 (fX0_start Ch Se Us) (fun Us_9 => dc_b4 (fX0_tally x1 Ch Fo Sc Tr Us_9) (fun Ch_11 Sc_12 Tr_13 Us_14 => dc_b1 (fX0_noteWithout Ch_11 Fo) (fun Ch_16 => fX7_pact_70 Fo Se 400 x1 (-1) 0 0 Ma Sc_12 Tr_13 Ch_16 Us_14))) else dc_b2 (fX7_finding (-1000000004) Ma) (fun r49 Ma_50 => some (r49, Ma_50, Sc, Tr, Ch, Us)))))))
abbrev rmX7_pact : Room := { frames := 11, cells := 0, slots := 0, locals := 279 }
set_option maxRecDepth 100000 in
set_option maxHeartbeats 4000000 in
theorem tX7_pact (l : Launch) (D : va_G) (cs : Nat → ClassId) (x : Nat → Nat) (g : Nat → Nat) (g2 : Nat → Nat) (g3 : Nat → Nat) (h : Nat → Nat) (t : Nat → Nat) (sa : Nat → Nat) (b : Nat → Nat) (c : Nat → Nat) (d : Nat → Nat) (a : Nat → Nat) (u : Nat → Nat) (x1 : Int32) (Ma : ST) (Fo : ST) (Sc : ST) (Se : ST) (Tr : ST) (Ch : ST) (Us : ST) (r0 : Int32) (Maz : ST) (Scz : ST) (Trz : ST) (Chz : ST) (Usz : ST) (hf : fX7_pact x1 Ma Fo Sc Se Tr Ch Us = some (r0, Maz, Scz, Trz, Chz, Usz)) : CG l yX7_pact (wsm yX7_pact cX7_pact 7 (some .int)) rmX7_pact D cs [.ref (x 0), .int x1] (some (.int r0)) ((kX7 cs x (.ref (g 0)) (.ref (g2 0)) (.ref (g3 0)) (.ref (h 0)) (.ref (t 0)) (.ref (sa 0)) Ma) ++ (kX2 cs g (.ref (b 0)) (.ref (c 0)) (.ref (d 0)) (.ref (a 0)) ) ++ (kX1 cs b  Fo) ++ (kX3 cs c  Sc) ++ (kX4 cs a (.ref (b 0)) (.ref (c 0)) (.ref (d 0)) Se) ++ (kX4 cs d (.ref (b 0)) (.ref (c 0)) .null Tr) ++ (kX0 cs h (.ref (g 0)) (.ref (u 0)) Ch) ++ (kX4 cs u (.ref (b 0)) (.ref (c 0)) (.ref (d 0)) Us)) ((kX7 cs x (.ref (g 0)) (.ref (g2 0)) (.ref (g3 0)) (.ref (h 0)) (.ref (t 0)) (.ref (sa 0)) Maz) ++ (kX2 cs g (.ref (b 0)) (.ref (c 0)) (.ref (d 0)) (.ref (a 0)) ) ++ (kX1 cs b  Fo) ++ (kX3 cs c  Scz) ++ (kX4 cs a (.ref (b 0)) (.ref (c 0)) (.ref (d 0)) Se) ++ (kX4 cs d (.ref (b 0)) (.ref (c 0)) .null Trz) ++ (kX0 cs h (.ref (g 0)) (.ref (u 0)) Chz) ++ (kX4 cs u (.ref (b 0)) (.ref (c 0)) (.ref (d 0)) Usz)) := by
  refine CG.intro (by decide) (Nat.le_of_ble_eq_true rfl) ?_
  intro p e s m below meth c A Q hx hb hml hown hu hK hZ hP0 hD0 hS0 hA hri hrz hrl hrv hra ls0 hl0
  have h197 : ∀ (k70 : Int32 → Int32 → Int32 → Int32 → ST → ST → ST → ST → ST → Option (Int32 × ST × ST × ST × ST × ST)), (∀ (y1 : Int32) (y2 : Int32) (y3 : Int32) (y4 : Int32) (Ma : ST) (Sc : ST) (Tr : ST) (Ch : ST) (Us : ST) (H : Heap) (locs : List Loc) (ls : Array Slot), va_P D vwCl ((kX7 cs x (.ref (g 0)) (.ref (g2 0)) (.ref (g3 0)) (.ref (h 0)) (.ref (t 0)) (.ref (sa 0)) Ma) ++ (kX2 cs g (.ref (b 0)) (.ref (c 0)) (.ref (d 0)) (.ref (a 0)) ) ++ (kX1 cs b  Fo) ++ (kX3 cs c  Sc) ++ (kX4 cs a (.ref (b 0)) (.ref (c 0)) (.ref (d 0)) Se) ++ (kX4 cs d (.ref (b 0)) (.ref (c 0)) .null Tr) ++ (kX0 cs h (.ref (g 0)) (.ref (u 0)) Ch) ++ (kX4 cs u (.ref (b 0)) (.ref (c 0)) (.ref (d 0)) Us)) H → va_D A ((kX7 cs x (.ref (g 0)) (.ref (g2 0)) (.ref (g3 0)) (.ref (h 0)) (.ref (t 0)) (.ref (sa 0)) Ma) ++ (kX2 cs g (.ref (b 0)) (.ref (c 0)) (.ref (d 0)) (.ref (a 0)) ) ++ (kX1 cs b  Fo) ++ (kX3 cs c  Sc) ++ (kX4 cs a (.ref (b 0)) (.ref (c 0)) (.ref (d 0)) Se) ++ (kX4 cs d (.ref (b 0)) (.ref (c 0)) .null Tr) ++ (kX0 cs h (.ref (g 0)) (.ref (u 0)) Ch) ++ (kX4 cs u (.ref (b 0)) (.ref (c 0)) (.ref (d 0)) Us)) → va_S A s.heap H locs → lv_has ls 7 [(0, .ref (x 0)), (1, .int y1), (2, .int y2), (3, .int y3), (4, .int y4)] → k70 y1 y2 y3 y4 Ma Sc Tr Ch Us = some (r0, Maz, Scz, Trz, Chz, Usz) → W p l e rmX7_pact s m [.ref (x 0), .int x1].toArray below meth c H locs 0 0 Q (F0 m 70 ls [])) → ∀ (k91 : Int32 → Int32 → Int32 → Int32 → Int32 → ST → ST → ST → ST → ST → Option (Int32 × ST × ST × ST × ST × ST)), (∀ (y1 : Int32) (y2 : Int32) (y3 : Int32) (y4 : Int32) (y5 : Int32) (Ma : ST) (Sc : ST) (Tr : ST) (Ch : ST) (Us : ST) (H : Heap) (locs : List Loc) (ls : Array Slot), va_P D vwCl ((kX7 cs x (.ref (g 0)) (.ref (g2 0)) (.ref (g3 0)) (.ref (h 0)) (.ref (t 0)) (.ref (sa 0)) Ma) ++ (kX2 cs g (.ref (b 0)) (.ref (c 0)) (.ref (d 0)) (.ref (a 0)) ) ++ (kX1 cs b  Fo) ++ (kX3 cs c  Sc) ++ (kX4 cs a (.ref (b 0)) (.ref (c 0)) (.ref (d 0)) Se) ++ (kX4 cs d (.ref (b 0)) (.ref (c 0)) .null Tr) ++ (kX0 cs h (.ref (g 0)) (.ref (u 0)) Ch) ++ (kX4 cs u (.ref (b 0)) (.ref (c 0)) (.ref (d 0)) Us)) H → va_D A ((kX7 cs x (.ref (g 0)) (.ref (g2 0)) (.ref (g3 0)) (.ref (h 0)) (.ref (t 0)) (.ref (sa 0)) Ma) ++ (kX2 cs g (.ref (b 0)) (.ref (c 0)) (.ref (d 0)) (.ref (a 0)) ) ++ (kX1 cs b  Fo) ++ (kX3 cs c  Sc) ++ (kX4 cs a (.ref (b 0)) (.ref (c 0)) (.ref (d 0)) Se) ++ (kX4 cs d (.ref (b 0)) (.ref (c 0)) .null Tr) ++ (kX0 cs h (.ref (g 0)) (.ref (u 0)) Ch) ++ (kX4 cs u (.ref (b 0)) (.ref (c 0)) (.ref (d 0)) Us)) → va_S A s.heap H locs → lv_has ls 7 [(0, .ref (x 0)), (1, .int y1), (2, .int y2), (3, .int y3), (4, .int y4), (5, .int y5)] → k91 y1 y2 y3 y4 y5 Ma Sc Tr Ch Us = some (r0, Maz, Scz, Trz, Chz, Usz) → W p l e rmX7_pact s m [.ref (x 0), .int x1].toArray below meth c H locs 0 0 Q (F0 m 91 ls [])) → ∀ (y1 : Int32) (y4 : Int32) (y5 : Int32) (y6 : Int32) (Ma : ST) (Sc : ST) (Tr : ST) (Ch : ST) (Us : ST) (H : Heap) (locs : List Loc) (ls : Array Slot), va_P D vwCl ((kX7 cs x (.ref (g 0)) (.ref (g2 0)) (.ref (g3 0)) (.ref (h 0)) (.ref (t 0)) (.ref (sa 0)) Ma) ++ (kX2 cs g (.ref (b 0)) (.ref (c 0)) (.ref (d 0)) (.ref (a 0)) ) ++ (kX1 cs b  Fo) ++ (kX3 cs c  Sc) ++ (kX4 cs a (.ref (b 0)) (.ref (c 0)) (.ref (d 0)) Se) ++ (kX4 cs d (.ref (b 0)) (.ref (c 0)) .null Tr) ++ (kX0 cs h (.ref (g 0)) (.ref (u 0)) Ch) ++ (kX4 cs u (.ref (b 0)) (.ref (c 0)) (.ref (d 0)) Us)) H → va_D A ((kX7 cs x (.ref (g 0)) (.ref (g2 0)) (.ref (g3 0)) (.ref (h 0)) (.ref (t 0)) (.ref (sa 0)) Ma) ++ (kX2 cs g (.ref (b 0)) (.ref (c 0)) (.ref (d 0)) (.ref (a 0)) ) ++ (kX1 cs b  Fo) ++ (kX3 cs c  Sc) ++ (kX4 cs a (.ref (b 0)) (.ref (c 0)) (.ref (d 0)) Se) ++ (kX4 cs d (.ref (b 0)) (.ref (c 0)) .null Tr) ++ (kX0 cs h (.ref (g 0)) (.ref (u 0)) Ch) ++ (kX4 cs u (.ref (b 0)) (.ref (c 0)) (.ref (d 0)) Us)) → va_S A s.heap H locs → lv_has ls 7 [(0, .ref (x 0)), (1, .int y1), (4, .int y4), (5, .int y5), (6, .int y6)] → fX7_pact_197 Fo Se k70 k91 y1 y4 y5 y6 Ma Sc Tr Ch Us = some (r0, Maz, Scz, Trz, Chz, Usz) → W p l e rmX7_pact s m [.ref (x 0), .int x1].toArray below meth c H locs 0 0 Q (F0 m 197 ls []) := by
    intro k70 hk70 k91 hk91 y1 y4 y5 y6 Ma Sc Tr Ch Us H locs ls hP hD hS hl hf
    unfold fX7_pact_197 at hf
    refine lv_bipush (v := 10) hx hb dX7_pact_197 (by decide) ?_
    refine lv_iload hx hb dX7_pact_199 (lv_at hl 2 rfl) ?_
    refine lv_imul hx hb dX7_pact_201 ?_
    refine lv_iload hx hb dX7_pact_202 (lv_at hl 3 rfl) ?_
    refine lv_iadd hx hb dX7_pact_204 ?_
    obtain ⟨v45, hv45, hf⟩ := lt_el hf
    refine lv_tope hv45 ?_
    refine lv_istore_n (lv' := [(2, .int v45), (0, .ref (x 0)), (1, .int y1), (4, .int y4), (5, .int y5), (6, .int y6)]) hx hb dX7_pact_205 rfl hl (by decide) rfl (fun ls hl => ?_)
    refine lv_iload hx hb dX7_pact_206 (lv_at hl 5 rfl) ?_
    refine lv_istore_n (lv' := [(3, .int y6), (2, .int v45), (0, .ref (x 0)), (1, .int y1), (4, .int y4), (5, .int y5), (6, .int y6)]) hx hb dX7_pact_208 rfl hl (by decide) rfl (fun ls hl => ?_)
    obtain ⟨v46, hv46, hf⟩ := lt_el hf
    refine lv_iinc (v := v46) (lv' := [(5, .int v46), (3, .int y6), (2, .int v45), (0, .ref (x 0)), (1, .int y1), (4, .int y4), (6, .int y6)]) hx hb dX7_pact_209 hl (k := 5) rfl (by rw [hv46]; rfl) (by decide) rfl (fun ls hl => ?_)
    refine lv_goto (tgt := 91) hx hb dX7_pact_212 (by decide) ?_
    exact hk91 y1 v45 y6 y4 v46 Ma Sc Tr Ch Us _ _ _ hP hD hS (lv_sub hl [3, 4, 2, 1, 5, 0] rfl) hf
  have hs91 : ∀ (k70 : Int32 → Int32 → Int32 → Int32 → ST → ST → ST → ST → ST → Option (Int32 × ST × ST × ST × ST × ST)), (∀ (y1 : Int32) (y2 : Int32) (y3 : Int32) (y4 : Int32) (Ma : ST) (Sc : ST) (Tr : ST) (Ch : ST) (Us : ST) (H : Heap) (locs : List Loc) (ls : Array Slot), va_P D vwCl ((kX7 cs x (.ref (g 0)) (.ref (g2 0)) (.ref (g3 0)) (.ref (h 0)) (.ref (t 0)) (.ref (sa 0)) Ma) ++ (kX2 cs g (.ref (b 0)) (.ref (c 0)) (.ref (d 0)) (.ref (a 0)) ) ++ (kX1 cs b  Fo) ++ (kX3 cs c  Sc) ++ (kX4 cs a (.ref (b 0)) (.ref (c 0)) (.ref (d 0)) Se) ++ (kX4 cs d (.ref (b 0)) (.ref (c 0)) .null Tr) ++ (kX0 cs h (.ref (g 0)) (.ref (u 0)) Ch) ++ (kX4 cs u (.ref (b 0)) (.ref (c 0)) (.ref (d 0)) Us)) H → va_D A ((kX7 cs x (.ref (g 0)) (.ref (g2 0)) (.ref (g3 0)) (.ref (h 0)) (.ref (t 0)) (.ref (sa 0)) Ma) ++ (kX2 cs g (.ref (b 0)) (.ref (c 0)) (.ref (d 0)) (.ref (a 0)) ) ++ (kX1 cs b  Fo) ++ (kX3 cs c  Sc) ++ (kX4 cs a (.ref (b 0)) (.ref (c 0)) (.ref (d 0)) Se) ++ (kX4 cs d (.ref (b 0)) (.ref (c 0)) .null Tr) ++ (kX0 cs h (.ref (g 0)) (.ref (u 0)) Ch) ++ (kX4 cs u (.ref (b 0)) (.ref (c 0)) (.ref (d 0)) Us)) → va_S A s.heap H locs → lv_has ls 7 [(0, .ref (x 0)), (1, .int y1), (2, .int y2), (3, .int y3), (4, .int y4)] → k70 y1 y2 y3 y4 Ma Sc Tr Ch Us = some (r0, Maz, Scz, Trz, Chz, Usz) → W p l e rmX7_pact s m [.ref (x 0), .int x1].toArray below meth c H locs 0 0 Q (F0 m 70 ls [])) → ∀ (k91 : Int32 → Int32 → Int32 → Int32 → Int32 → ST → ST → ST → ST → ST → Option (Int32 × ST × ST × ST × ST × ST)), (∀ (y1 : Int32) (y2 : Int32) (y3 : Int32) (y4 : Int32) (y5 : Int32) (Ma : ST) (Sc : ST) (Tr : ST) (Ch : ST) (Us : ST) (H : Heap) (locs : List Loc) (ls : Array Slot), va_P D vwCl ((kX7 cs x (.ref (g 0)) (.ref (g2 0)) (.ref (g3 0)) (.ref (h 0)) (.ref (t 0)) (.ref (sa 0)) Ma) ++ (kX2 cs g (.ref (b 0)) (.ref (c 0)) (.ref (d 0)) (.ref (a 0)) ) ++ (kX1 cs b  Fo) ++ (kX3 cs c  Sc) ++ (kX4 cs a (.ref (b 0)) (.ref (c 0)) (.ref (d 0)) Se) ++ (kX4 cs d (.ref (b 0)) (.ref (c 0)) .null Tr) ++ (kX0 cs h (.ref (g 0)) (.ref (u 0)) Ch) ++ (kX4 cs u (.ref (b 0)) (.ref (c 0)) (.ref (d 0)) Us)) H → va_D A ((kX7 cs x (.ref (g 0)) (.ref (g2 0)) (.ref (g3 0)) (.ref (h 0)) (.ref (t 0)) (.ref (sa 0)) Ma) ++ (kX2 cs g (.ref (b 0)) (.ref (c 0)) (.ref (d 0)) (.ref (a 0)) ) ++ (kX1 cs b  Fo) ++ (kX3 cs c  Sc) ++ (kX4 cs a (.ref (b 0)) (.ref (c 0)) (.ref (d 0)) Se) ++ (kX4 cs d (.ref (b 0)) (.ref (c 0)) .null Tr) ++ (kX0 cs h (.ref (g 0)) (.ref (u 0)) Ch) ++ (kX4 cs u (.ref (b 0)) (.ref (c 0)) (.ref (d 0)) Us)) → va_S A s.heap H locs → lv_has ls 7 [(0, .ref (x 0)), (1, .int y1), (2, .int y2), (3, .int y3), (4, .int y4), (5, .int y5)] → k91 y1 y2 y3 y4 y5 Ma Sc Tr Ch Us = some (r0, Maz, Scz, Trz, Chz, Usz) → W p l e rmX7_pact s m [.ref (x 0), .int x1].toArray below meth c H locs 0 0 Q (F0 m 91 ls [])) → ∀ (y1 : Int32) (y2 : Int32) (y3 : Int32) (y4 : Int32) (y5 : Int32) (Ma : ST) (Sc : ST) (Tr : ST) (Ch : ST) (Us : ST) (H : Heap) (locs : List Loc) (ls : Array Slot), va_P D vwCl ((kX7 cs x (.ref (g 0)) (.ref (g2 0)) (.ref (g3 0)) (.ref (h 0)) (.ref (t 0)) (.ref (sa 0)) Ma) ++ (kX2 cs g (.ref (b 0)) (.ref (c 0)) (.ref (d 0)) (.ref (a 0)) ) ++ (kX1 cs b  Fo) ++ (kX3 cs c  Sc) ++ (kX4 cs a (.ref (b 0)) (.ref (c 0)) (.ref (d 0)) Se) ++ (kX4 cs d (.ref (b 0)) (.ref (c 0)) .null Tr) ++ (kX0 cs h (.ref (g 0)) (.ref (u 0)) Ch) ++ (kX4 cs u (.ref (b 0)) (.ref (c 0)) (.ref (d 0)) Us)) H → va_D A ((kX7 cs x (.ref (g 0)) (.ref (g2 0)) (.ref (g3 0)) (.ref (h 0)) (.ref (t 0)) (.ref (sa 0)) Ma) ++ (kX2 cs g (.ref (b 0)) (.ref (c 0)) (.ref (d 0)) (.ref (a 0)) ) ++ (kX1 cs b  Fo) ++ (kX3 cs c  Sc) ++ (kX4 cs a (.ref (b 0)) (.ref (c 0)) (.ref (d 0)) Se) ++ (kX4 cs d (.ref (b 0)) (.ref (c 0)) .null Tr) ++ (kX0 cs h (.ref (g 0)) (.ref (u 0)) Ch) ++ (kX4 cs u (.ref (b 0)) (.ref (c 0)) (.ref (d 0)) Us)) → va_S A s.heap H locs → lv_has ls 7 [(0, .ref (x 0)), (1, .int y1), (2, .int y2), (3, .int y3), (4, .int y4), (5, .int y5)] → fX7_pact_91_s Fo Se k70 k91 y1 y2 y3 y4 y5 Ma Sc Tr Ch Us = some (r0, Maz, Scz, Trz, Chz, Usz) → W p l e rmX7_pact s m [.ref (x 0), .int x1].toArray below meth c H locs 0 0 Q (F0 m 91 ls []) := by
    intro k70 hk70 k91 hk91 y1 y2 y3 y4 y5 Ma Sc Tr Ch Us H locs ls hP hD hS hl hf
    unfold fX7_pact_91_s at hf
    refine lv_iload hx hb dX7_pact_91 (lv_at hl 5 rfl) ?_
    refine lv_aload_n hx hb dX7_pact_93 rfl (lv_at hl 0 rfl) ?_
    refine va_get (D := D) (ci := 7) (v := .ref (g 0)) (C := RX7) (T := TX7) (N := 8) hx hb hu inX7 hown hK.1 hP 0 rfl rfl 0 (by decide) (hu _ q300) (fun _ h9 => h9) rfl dX7_pact_94 ?_
    refine va_get (D := D) (ci := 2) (v := .ref (b 0)) (C := RX2) (T := TX2) (N := 4) hx hb hu inX2 hown hK.1 hP 2 rfl rfl 0 (by decide) (hu _ q196) (fun _ h9 => h9) rfl dX7_pact_97 ?_
    refine va_get (D := D) (ci := 1) (v := .int (Fo 0 0)) (C := RX1) (T := TX1) (N := 9) hx hb hu inX1 hown hK.1 hP 3 rfl rfl 0 (by decide) (hu _ q93) (fun _ h9 => h9) rfl dX7_pact_100 ?_
    refine lv_icmp_ge (tgt := 215) hx hb dX7_pact_103 (by decide) (fun hc20 => ?_) (fun hc20 => ?_)
    · have hf := ip_el hc20 hf
      obtain ⟨v21, hv21, hf⟩ := lt_el hf
      refine lv_iinc (v := v21) (lv' := [(4, .int v21), (0, .ref (x 0)), (1, .int y1), (2, .int y2), (3, .int y3), (5, .int y5)]) hx hb dX7_pact_215 hl (k := 4) rfl (by rw [hv21]; rfl) (by decide) rfl (fun ls hl => ?_)
      refine lv_goto (tgt := 70) hx hb dX7_pact_218 (by decide) ?_
      exact hk70 y1 y2 y3 v21 Ma Sc Tr Ch Us _ _ _ hP hD hS (lv_sub hl [1, 2, 3, 4, 0] rfl) hf
    · have hf := in_el hc20 hf
      refine lv_aload_n hx hb dX7_pact_106 rfl (lv_at hl 0 rfl) ?_
      refine va_get (D := D) (ci := 7) (v := .ref (g 0)) (C := RX7) (T := TX7) (N := 8) hx hb hu inX7 hown hK.1 hP 0 rfl rfl 0 (by decide) (hu _ q300) (fun _ h9 => h9) rfl dX7_pact_107 ?_
      refine va_get (D := D) (ci := 2) (v := .ref (b 0)) (C := RX2) (T := TX2) (N := 4) hx hb hu inX2 hown hK.1 hP 2 rfl rfl 0 (by decide) (hu _ q196) (fun _ h9 => h9) rfl dX7_pact_110 ?_
      refine lv_iload hx hb dX7_pact_113 (lv_at hl 4 rfl) ?_
      obtain ⟨r22, hg23, hf⟩ := b1_el hf
      refine cc_V (w' := ((kX7 cs x (.ref (g 0)) (.ref (g2 0)) (.ref (g3 0)) (.ref (h 0)) (.ref (t 0)) (.ref (sa 0)) Ma) ++ (kX2 cs g (.ref (b 0)) (.ref (c 0)) (.ref (d 0)) (.ref (a 0)) ) ++ (kX1 cs b  Fo) ++ (kX3 cs c  Sc) ++ (kX4 cs a (.ref (b 0)) (.ref (c 0)) (.ref (d 0)) Se) ++ (kX4 cs d (.ref (b 0)) (.ref (c 0)) .null Tr) ++ (kX0 cs h (.ref (g 0)) (.ref (u 0)) Ch) ++ (kX4 cs u (.ref (b 0)) (.ref (c 0)) (.ref (d 0)) Us))) (wr := ((kX7 cs x (.ref (g 0)) (.ref (g2 0)) (.ref (g3 0)) (.ref (h 0)) (.ref (t 0)) (.ref (sa 0)) Ma) ++ (kX2 cs g (.ref (b 0)) (.ref (c 0)) (.ref (d 0)) (.ref (a 0)) ) ++ (kX3 cs c  Sc) ++ (kX4 cs a (.ref (b 0)) (.ref (c 0)) (.ref (d 0)) Se) ++ (kX4 cs d (.ref (b 0)) (.ref (c 0)) .null Tr) ++ (kX0 cs h (.ref (g 0)) (.ref (u 0)) Ch) ++ (kX4 cs u (.ref (b 0)) (.ref (c 0)) (.ref (d 0)) Us))) (st1 := [.int r22]) [.int y4] hx hb hml hown hu (tX1_isAlive l D cs b y4 Fo r22 hg23) q356 q56 q353 q354 q355 pdX1_isAlive ⟨rfl, rfl, Nat.le_of_ble_eq_true rfl, Nat.le_of_ble_eq_true rfl⟩ hK hZ hP hD hS hA [3, 4, 5, 6, 7, 8, 9] [0, 1, 2, 10, 11, 12, 13, 14, 15, 16, 17, 18, 19, 20, 21, 22, 23, 24, 25, 26, 27, 28, 29] [0, 1, 2, 23, 24, 25, 26, 27, 28, 29, 3, 4, 5, 6, 7, 8, 9, 10, 11, 12, 13, 14, 15, 16, 17, 18, 19, 20, 21, 22] rfl rfl rfl rfl rfl rfl rfl rfl rfl rfl hl.1 rfl (Nat.le_of_ble_eq_true rfl) dX7_pact_115 rfl (fun H locs hP hD hS => ?_)
      refine lv_if_eq (tgt := 209) hx hb dX7_pact_118 (by decide) (fun hc24 => ?_) (fun hc24 => ?_)
      · have hf := ip_el hc24 hf
        obtain ⟨v25, hv25, hf⟩ := lt_el hf
        refine lv_iinc (v := v25) (lv' := [(5, .int v25), (0, .ref (x 0)), (1, .int y1), (2, .int y2), (3, .int y3), (4, .int y4)]) hx hb dX7_pact_209 hl (k := 5) rfl (by rw [hv25]; rfl) (by decide) rfl (fun ls hl => ?_)
        refine lv_goto (tgt := 91) hx hb dX7_pact_212 (by decide) ?_
        exact hk91 y1 y2 y3 y4 v25 Ma Sc Tr Ch Us _ _ _ hP hD hS (lv_sub hl [1, 2, 3, 4, 5, 0] rfl) hf
      · have hf := in_el hc24 hf
        refine lv_aload_n hx hb dX7_pact_121 rfl (lv_at hl 0 rfl) ?_
        refine va_get (D := D) (ci := 7) (v := .ref (g 0)) (C := RX7) (T := TX7) (N := 8) hx hb hu inX7 hown hK.1 hP 0 rfl rfl 0 (by decide) (hu _ q300) (fun _ h9 => h9) rfl dX7_pact_122 ?_
        refine va_get (D := D) (ci := 2) (v := .ref (b 0)) (C := RX2) (T := TX2) (N := 4) hx hb hu inX2 hown hK.1 hP 2 rfl rfl 0 (by decide) (hu _ q196) (fun _ h9 => h9) rfl dX7_pact_125 ?_
        refine lv_iload hx hb dX7_pact_128 (lv_at hl 5 rfl) ?_
        obtain ⟨r26, hg27, hf⟩ := b1_el hf
        refine cc_V (w' := ((kX7 cs x (.ref (g 0)) (.ref (g2 0)) (.ref (g3 0)) (.ref (h 0)) (.ref (t 0)) (.ref (sa 0)) Ma) ++ (kX2 cs g (.ref (b 0)) (.ref (c 0)) (.ref (d 0)) (.ref (a 0)) ) ++ (kX1 cs b  Fo) ++ (kX3 cs c  Sc) ++ (kX4 cs a (.ref (b 0)) (.ref (c 0)) (.ref (d 0)) Se) ++ (kX4 cs d (.ref (b 0)) (.ref (c 0)) .null Tr) ++ (kX0 cs h (.ref (g 0)) (.ref (u 0)) Ch) ++ (kX4 cs u (.ref (b 0)) (.ref (c 0)) (.ref (d 0)) Us))) (wr := ((kX7 cs x (.ref (g 0)) (.ref (g2 0)) (.ref (g3 0)) (.ref (h 0)) (.ref (t 0)) (.ref (sa 0)) Ma) ++ (kX2 cs g (.ref (b 0)) (.ref (c 0)) (.ref (d 0)) (.ref (a 0)) ) ++ (kX3 cs c  Sc) ++ (kX4 cs a (.ref (b 0)) (.ref (c 0)) (.ref (d 0)) Se) ++ (kX4 cs d (.ref (b 0)) (.ref (c 0)) .null Tr) ++ (kX0 cs h (.ref (g 0)) (.ref (u 0)) Ch) ++ (kX4 cs u (.ref (b 0)) (.ref (c 0)) (.ref (d 0)) Us))) (st1 := [.int r26]) [.int y5] hx hb hml hown hu (tX1_isAlive l D cs b y5 Fo r26 hg27) q356 q56 q353 q354 q355 pdX1_isAlive ⟨rfl, rfl, Nat.le_of_ble_eq_true rfl, Nat.le_of_ble_eq_true rfl⟩ hK hZ hP hD hS hA [3, 4, 5, 6, 7, 8, 9] [0, 1, 2, 10, 11, 12, 13, 14, 15, 16, 17, 18, 19, 20, 21, 22, 23, 24, 25, 26, 27, 28, 29] [0, 1, 2, 23, 24, 25, 26, 27, 28, 29, 3, 4, 5, 6, 7, 8, 9, 10, 11, 12, 13, 14, 15, 16, 17, 18, 19, 20, 21, 22] rfl rfl rfl rfl rfl rfl rfl rfl rfl rfl hl.1 rfl (Nat.le_of_ble_eq_true rfl) dX7_pact_130 rfl (fun H locs hP hD hS => ?_)
        refine lv_if_eq (tgt := 209) hx hb dX7_pact_133 (by decide) (fun hc28 => ?_) (fun hc28 => ?_)
        · have hf := ip_el hc28 hf
          obtain ⟨v29, hv29, hf⟩ := lt_el hf
          refine lv_iinc (v := v29) (lv' := [(5, .int v29), (0, .ref (x 0)), (1, .int y1), (2, .int y2), (3, .int y3), (4, .int y4)]) hx hb dX7_pact_209 hl (k := 5) rfl (by rw [hv29]; rfl) (by decide) rfl (fun ls hl => ?_)
          refine lv_goto (tgt := 91) hx hb dX7_pact_212 (by decide) ?_
          exact hk91 y1 y2 y3 y4 v29 Ma Sc Tr Ch Us _ _ _ hP hD hS (lv_sub hl [1, 2, 3, 4, 5, 0] rfl) hf
        · have hf := in_el hc28 hf
          refine lv_aload_n hx hb dX7_pact_136 rfl (lv_at hl 0 rfl) ?_
          refine va_get (D := D) (ci := 7) (v := .ref (h 0)) (C := RX7) (T := TX7) (N := 8) hx hb hu inX7 hown hK.1 hP 0 rfl rfl 3 (by decide) (hu _ q303) (fun _ h9 => h9) rfl dX7_pact_137 ?_
          obtain ⟨Us_30, hg31, hf⟩ := b1_el hf
          refine cc_V (w' := ((kX7 cs x (.ref (g 0)) (.ref (g2 0)) (.ref (g3 0)) (.ref (h 0)) (.ref (t 0)) (.ref (sa 0)) Ma) ++ (kX2 cs g (.ref (b 0)) (.ref (c 0)) (.ref (d 0)) (.ref (a 0)) ) ++ (kX1 cs b  Fo) ++ (kX3 cs c  Sc) ++ (kX4 cs a (.ref (b 0)) (.ref (c 0)) (.ref (d 0)) Se) ++ (kX4 cs d (.ref (b 0)) (.ref (c 0)) .null Tr) ++ (kX0 cs h (.ref (g 0)) (.ref (u 0)) Ch) ++ (kX4 cs u (.ref (b 0)) (.ref (c 0)) (.ref (d 0)) Us_30))) (wr := ((kX7 cs x (.ref (g 0)) (.ref (g2 0)) (.ref (g3 0)) (.ref (h 0)) (.ref (t 0)) (.ref (sa 0)) Ma) ++ (kX1 cs b  Fo) ++ (kX3 cs c  Sc) ++ (kX4 cs d (.ref (b 0)) (.ref (c 0)) .null Tr))) (st1 := []) [] hx hb hml hown hu (tX0_start l D cs h g u b c d a Ch Se Us Us_30 hg31) q570 q59 q567 q568 q569 pdX0_start ⟨rfl, rfl, Nat.le_of_ble_eq_true rfl, Nat.le_of_ble_eq_true rfl⟩ hK hZ hP hD hS hA [21, 22, 23, 24, 25, 2, 13, 14, 15, 16, 26, 27, 28, 29] [0, 1, 3, 4, 5, 6, 7, 8, 9, 10, 11, 12, 17, 18, 19, 20] [0, 1, 21, 2, 3, 4, 5, 6, 7, 8, 9, 10, 11, 22, 23, 24, 25, 12, 13, 14, 15, 16, 17, 18, 19, 20, 26, 27, 28, 29] rfl rfl rfl rfl rfl rfl rfl rfl rfl rfl hl.1 rfl (Nat.le_of_ble_eq_true rfl) dX7_pact_140 rfl (fun H locs hP hD hS => ?_)
          refine lv_aload_n hx hb dX7_pact_143 rfl (lv_at hl 0 rfl) ?_
          refine va_get (D := D) (ci := 7) (v := .ref (h 0)) (C := RX7) (T := TX7) (N := 8) hx hb hu inX7 hown hK.1 hP 0 rfl rfl 3 (by decide) (hu _ q303) (fun _ h9 => h9) rfl dX7_pact_144 ?_
          refine va_get (D := D) (ci := 0) (v := .ref (u 0)) (C := RX0) (T := TX0) (N := 8) hx hb hu inX0 hown hK.1 hP 21 rfl rfl 1 (by decide) (hu _ q224) (fun _ h9 => h9) rfl dX7_pact_147 ?_
          refine lv_iload hx hb dX7_pact_150 (lv_at hl 4 rfl) ?_
          refine lv_iload hx hb dX7_pact_152 (lv_at hl 5 rfl) ?_
          obtain ⟨Us_32, hg33, hf⟩ := b1_el hf
          refine cc_V (w' := ((kX7 cs x (.ref (g 0)) (.ref (g2 0)) (.ref (g3 0)) (.ref (h 0)) (.ref (t 0)) (.ref (sa 0)) Ma) ++ (kX2 cs g (.ref (b 0)) (.ref (c 0)) (.ref (d 0)) (.ref (a 0)) ) ++ (kX1 cs b  Fo) ++ (kX3 cs c  Sc) ++ (kX4 cs a (.ref (b 0)) (.ref (c 0)) (.ref (d 0)) Se) ++ (kX4 cs d (.ref (b 0)) (.ref (c 0)) .null Tr) ++ (kX0 cs h (.ref (g 0)) (.ref (u 0)) Ch) ++ (kX4 cs u (.ref (b 0)) (.ref (c 0)) (.ref (d 0)) Us_32))) (wr := ((kX7 cs x (.ref (g 0)) (.ref (g2 0)) (.ref (g3 0)) (.ref (h 0)) (.ref (t 0)) (.ref (sa 0)) Ma) ++ (kX2 cs g (.ref (b 0)) (.ref (c 0)) (.ref (d 0)) (.ref (a 0)) ) ++ (kX1 cs b  Fo) ++ (kX3 cs c  Sc) ++ (kX4 cs a (.ref (b 0)) (.ref (c 0)) (.ref (d 0)) Se) ++ (kX4 cs d (.ref (b 0)) (.ref (c 0)) .null Tr) ++ (kX0 cs h (.ref (g 0)) (.ref (u 0)) Ch))) (st1 := []) [.int y4, .int y5] hx hb hml hown hu (tX4_keepWord l D cs u (.ref (b 0)) (.ref (c 0)) (.ref (d 0)) y4 y5 Us_30 Us_32 hg33) q435 q58 q635 q433 q434 pdX4_keepWord ⟨rfl, rfl, Nat.le_of_ble_eq_true rfl, Nat.le_of_ble_eq_true rfl⟩ hK hZ hP hD hS hA [26, 27, 28, 29] [0, 1, 2, 3, 4, 5, 6, 7, 8, 9, 10, 11, 12, 13, 14, 15, 16, 17, 18, 19, 20, 21, 22, 23, 24, 25] [0, 1, 2, 3, 4, 5, 6, 7, 8, 9, 10, 11, 12, 13, 14, 15, 16, 17, 18, 19, 20, 21, 22, 23, 24, 25, 26, 27, 28, 29] rfl rfl rfl rfl rfl rfl rfl rfl rfl rfl hl.1 rfl (Nat.le_of_ble_eq_true rfl) dX7_pact_154 rfl (fun H locs hP hD hS => ?_)
          refine lv_aload_n hx hb dX7_pact_157 rfl (lv_at hl 0 rfl) ?_
          refine va_get (D := D) (ci := 7) (v := .ref (h 0)) (C := RX7) (T := TX7) (N := 8) hx hb hu inX7 hown hK.1 hP 0 rfl rfl 3 (by decide) (hu _ q303) (fun _ h9 => h9) rfl dX7_pact_158 ?_
          refine lv_iload_n hx hb dX7_pact_161 rfl (lv_at hl 1 rfl) ?_
          obtain ⟨Ch_34, Sc_35, Tr_36, Us_37, hg38, hf⟩ := b4_el hf
          refine cc_V (w' := ((kX7 cs x (.ref (g 0)) (.ref (g2 0)) (.ref (g3 0)) (.ref (h 0)) (.ref (t 0)) (.ref (sa 0)) Ma) ++ (kX2 cs g (.ref (b 0)) (.ref (c 0)) (.ref (d 0)) (.ref (a 0)) ) ++ (kX1 cs b  Fo) ++ (kX3 cs c  Sc_35) ++ (kX4 cs a (.ref (b 0)) (.ref (c 0)) (.ref (d 0)) Se) ++ (kX4 cs d (.ref (b 0)) (.ref (c 0)) .null Tr_36) ++ (kX0 cs h (.ref (g 0)) (.ref (u 0)) Ch_34) ++ (kX4 cs u (.ref (b 0)) (.ref (c 0)) (.ref (d 0)) Us_37))) (wr := ((kX7 cs x (.ref (g 0)) (.ref (g2 0)) (.ref (g3 0)) (.ref (h 0)) (.ref (t 0)) (.ref (sa 0)) Ma) ++ (kX4 cs a (.ref (b 0)) (.ref (c 0)) (.ref (d 0)) Se))) (st1 := []) [.int y1] hx hb hml hown hu (tX0_tally l D cs h g u b c d a y1 Ch Fo Sc Tr Us_32 Ch_34 Sc_35 Tr_36 Us_37 hg38) q602 q59 q599 q600 q601 pdX0_tally ⟨rfl, rfl, Nat.le_of_ble_eq_true rfl, Nat.le_of_ble_eq_true rfl⟩ hK hZ hP hD hS hA [21, 22, 23, 24, 25, 2, 3, 4, 5, 6, 7, 8, 9, 10, 11, 12, 17, 18, 19, 20, 26, 27, 28, 29] [0, 1, 13, 14, 15, 16] [0, 1, 11, 12, 13, 14, 15, 16, 17, 18, 19, 20, 21, 2, 3, 4, 5, 22, 23, 24, 25, 6, 7, 8, 9, 10, 26, 27, 28, 29] rfl rfl rfl rfl rfl rfl rfl rfl rfl rfl hl.1 rfl (Nat.le_of_ble_eq_true rfl) dX7_pact_162 rfl (fun H locs hP hD hS => ?_)
          refine lv_aload_n hx hb dX7_pact_165 rfl (lv_at hl 0 rfl) ?_
          refine va_get (D := D) (ci := 7) (v := .ref (h 0)) (C := RX7) (T := TX7) (N := 8) hx hb hu inX7 hown hK.1 hP 0 rfl rfl 3 (by decide) (hu _ q303) (fun _ h9 => h9) rfl dX7_pact_166 ?_
          refine lv_iload hx hb dX7_pact_169 (lv_at hl 4 rfl) ?_
          obtain ⟨r39, hg40, hf⟩ := b1_el hf
          refine cc_V (w' := ((kX7 cs x (.ref (g 0)) (.ref (g2 0)) (.ref (g3 0)) (.ref (h 0)) (.ref (t 0)) (.ref (sa 0)) Ma) ++ (kX2 cs g (.ref (b 0)) (.ref (c 0)) (.ref (d 0)) (.ref (a 0)) ) ++ (kX1 cs b  Fo) ++ (kX3 cs c  Sc_35) ++ (kX4 cs a (.ref (b 0)) (.ref (c 0)) (.ref (d 0)) Se) ++ (kX4 cs d (.ref (b 0)) (.ref (c 0)) .null Tr_36) ++ (kX0 cs h (.ref (g 0)) (.ref (u 0)) Ch_34) ++ (kX4 cs u (.ref (b 0)) (.ref (c 0)) (.ref (d 0)) Us_37))) (wr := ((kX7 cs x (.ref (g 0)) (.ref (g2 0)) (.ref (g3 0)) (.ref (h 0)) (.ref (t 0)) (.ref (sa 0)) Ma) ++ (kX3 cs c  Sc_35) ++ (kX4 cs a (.ref (b 0)) (.ref (c 0)) (.ref (d 0)) Se) ++ (kX4 cs d (.ref (b 0)) (.ref (c 0)) .null Tr_36) ++ (kX4 cs u (.ref (b 0)) (.ref (c 0)) (.ref (d 0)) Us_37))) (st1 := [.int r39]) [.int y4] hx hb hml hown hu (tX0_moreFor l D cs h g u b c d a y4 Ch_34 Fo r39 hg40) q639 q59 q636 q637 q638 pdX0_moreFor ⟨rfl, rfl, Nat.le_of_ble_eq_true rfl, Nat.le_of_ble_eq_true rfl⟩ hK hZ hP hD hS hA [21, 22, 23, 24, 25, 2, 3, 4, 5, 6, 7, 8, 9] [0, 1, 10, 11, 12, 13, 14, 15, 16, 17, 18, 19, 20, 26, 27, 28, 29] [0, 1, 22, 23, 24, 25, 26, 27, 28, 29, 2, 3, 4, 5, 6, 7, 8, 9, 10, 11, 12, 17, 18, 19, 20, 21, 13, 14, 15, 16] rfl rfl rfl rfl rfl rfl rfl rfl rfl rfl hl.1 rfl (Nat.le_of_ble_eq_true rfl) dX7_pact_171 rfl (fun H locs hP hD hS => ?_)
          refine lv_aload_n hx hb dX7_pact_174 rfl (lv_at hl 0 rfl) ?_
          refine va_get (D := D) (ci := 7) (v := .ref (h 0)) (C := RX7) (T := TX7) (N := 8) hx hb hu inX7 hown hK.1 hP 0 rfl rfl 3 (by decide) (hu _ q303) (fun _ h9 => h9) rfl dX7_pact_175 ?_
          refine lv_iload hx hb dX7_pact_178 (lv_at hl 5 rfl) ?_
          obtain ⟨r41, hg42, hf⟩ := b1_el hf
          refine cc_V (w' := ((kX7 cs x (.ref (g 0)) (.ref (g2 0)) (.ref (g3 0)) (.ref (h 0)) (.ref (t 0)) (.ref (sa 0)) Ma) ++ (kX2 cs g (.ref (b 0)) (.ref (c 0)) (.ref (d 0)) (.ref (a 0)) ) ++ (kX1 cs b  Fo) ++ (kX3 cs c  Sc_35) ++ (kX4 cs a (.ref (b 0)) (.ref (c 0)) (.ref (d 0)) Se) ++ (kX4 cs d (.ref (b 0)) (.ref (c 0)) .null Tr_36) ++ (kX0 cs h (.ref (g 0)) (.ref (u 0)) Ch_34) ++ (kX4 cs u (.ref (b 0)) (.ref (c 0)) (.ref (d 0)) Us_37))) (wr := ((kX7 cs x (.ref (g 0)) (.ref (g2 0)) (.ref (g3 0)) (.ref (h 0)) (.ref (t 0)) (.ref (sa 0)) Ma) ++ (kX3 cs c  Sc_35) ++ (kX4 cs a (.ref (b 0)) (.ref (c 0)) (.ref (d 0)) Se) ++ (kX4 cs d (.ref (b 0)) (.ref (c 0)) .null Tr_36) ++ (kX4 cs u (.ref (b 0)) (.ref (c 0)) (.ref (d 0)) Us_37))) (st1 := [.int r41, .int r39]) [.int y5] hx hb hml hown hu (tX0_moreFor l D cs h g u b c d a y5 Ch_34 Fo r41 hg42) q639 q59 q636 q637 q638 pdX0_moreFor ⟨rfl, rfl, Nat.le_of_ble_eq_true rfl, Nat.le_of_ble_eq_true rfl⟩ hK hZ hP hD hS hA [21, 22, 23, 24, 25, 2, 3, 4, 5, 6, 7, 8, 9] [0, 1, 10, 11, 12, 13, 14, 15, 16, 17, 18, 19, 20, 26, 27, 28, 29] [0, 1, 22, 23, 24, 25, 26, 27, 28, 29, 2, 3, 4, 5, 6, 7, 8, 9, 10, 11, 12, 17, 18, 19, 20, 21, 13, 14, 15, 16] rfl rfl rfl rfl rfl rfl rfl rfl rfl rfl hl.1 rfl (Nat.le_of_ble_eq_true rfl) dX7_pact_180 rfl (fun H locs hP hD hS => ?_)
          refine lv_iadd hx hb dX7_pact_183 ?_
          obtain ⟨v43, hv43, hf⟩ := lt_el hf
          refine lv_tope hv43 ?_
          refine lv_istore (lv' := [(6, .int v43), (0, .ref (x 0)), (1, .int y1), (2, .int y2), (3, .int y3), (4, .int y4), (5, .int y5)]) hx hb dX7_pact_184 hl (by decide) rfl (fun ls hl => ?_)
          refine lv_iload_n hx hb dX7_pact_186 rfl (lv_at hl 3 rfl) ?_
          refine lv_iconst (v := (-1)) hx hb dX7_pact_187 (by decide) ?_
          refine lv_icmp_eq (tgt := 197) hx hb dX7_pact_188 (by decide) (fun hc44 => ?_) (fun hc44 => ?_)
          · have hf := ip_el hc44 hf
            exact h197 k70 hk70 k91 hk91 y1 y4 y5 v43 Ma Sc_35 Tr_36 Ch_34 Us_37 _ _ _ hP hD hS (lv_sub hl [1, 2, 5, 6, 0] rfl) hf
          · have hf := in_el hc44 hf
            refine lv_iload hx hb dX7_pact_191 (lv_at hl 0 rfl) ?_
            refine lv_iload_n hx hb dX7_pact_193 rfl (lv_at hl 4 rfl) ?_
            refine lv_icmp_le (tgt := 209) hx hb dX7_pact_194 (by decide) (fun hc47 => ?_) (fun hc47 => ?_)
            · have hf := ip_el hc47 hf
              obtain ⟨v48, hv48, hf⟩ := lt_el hf
              refine lv_iinc (v := v48) (lv' := [(5, .int v48), (6, .int v43), (0, .ref (x 0)), (1, .int y1), (2, .int y2), (3, .int y3), (4, .int y4)]) hx hb dX7_pact_209 hl (k := 6) rfl (by rw [hv48]; rfl) (by decide) rfl (fun ls hl => ?_)
              refine lv_goto (tgt := 91) hx hb dX7_pact_212 (by decide) ?_
              exact hk91 y1 y2 y3 y4 v48 Ma Sc_35 Tr_36 Ch_34 Us_37 _ _ _ hP hD hS (lv_sub hl [2, 3, 4, 5, 6, 0] rfl) hf
            · have hf := in_el hc47 hf
              exact h197 k70 hk70 k91 hk91 y1 y4 y5 v43 Ma Sc_35 Tr_36 Ch_34 Us_37 _ _ _ hP hD hS (lv_sub hl [1, 2, 5, 6, 0] rfl) hf
  have h91 : ∀ (k70 : Int32 → Int32 → Int32 → Int32 → ST → ST → ST → ST → ST → Option (Int32 × ST × ST × ST × ST × ST)), (∀ (y1 : Int32) (y2 : Int32) (y3 : Int32) (y4 : Int32) (Ma : ST) (Sc : ST) (Tr : ST) (Ch : ST) (Us : ST) (H : Heap) (locs : List Loc) (ls : Array Slot), va_P D vwCl ((kX7 cs x (.ref (g 0)) (.ref (g2 0)) (.ref (g3 0)) (.ref (h 0)) (.ref (t 0)) (.ref (sa 0)) Ma) ++ (kX2 cs g (.ref (b 0)) (.ref (c 0)) (.ref (d 0)) (.ref (a 0)) ) ++ (kX1 cs b  Fo) ++ (kX3 cs c  Sc) ++ (kX4 cs a (.ref (b 0)) (.ref (c 0)) (.ref (d 0)) Se) ++ (kX4 cs d (.ref (b 0)) (.ref (c 0)) .null Tr) ++ (kX0 cs h (.ref (g 0)) (.ref (u 0)) Ch) ++ (kX4 cs u (.ref (b 0)) (.ref (c 0)) (.ref (d 0)) Us)) H → va_D A ((kX7 cs x (.ref (g 0)) (.ref (g2 0)) (.ref (g3 0)) (.ref (h 0)) (.ref (t 0)) (.ref (sa 0)) Ma) ++ (kX2 cs g (.ref (b 0)) (.ref (c 0)) (.ref (d 0)) (.ref (a 0)) ) ++ (kX1 cs b  Fo) ++ (kX3 cs c  Sc) ++ (kX4 cs a (.ref (b 0)) (.ref (c 0)) (.ref (d 0)) Se) ++ (kX4 cs d (.ref (b 0)) (.ref (c 0)) .null Tr) ++ (kX0 cs h (.ref (g 0)) (.ref (u 0)) Ch) ++ (kX4 cs u (.ref (b 0)) (.ref (c 0)) (.ref (d 0)) Us)) → va_S A s.heap H locs → lv_has ls 7 [(0, .ref (x 0)), (1, .int y1), (2, .int y2), (3, .int y3), (4, .int y4)] → k70 y1 y2 y3 y4 Ma Sc Tr Ch Us = some (r0, Maz, Scz, Trz, Chz, Usz) → W p l e rmX7_pact s m [.ref (x 0), .int x1].toArray below meth c H locs 0 0 Q (F0 m 70 ls [])) → ∀ (n : Nat), ∀ (y1 : Int32) (y2 : Int32) (y3 : Int32) (y4 : Int32) (y5 : Int32) (Ma : ST) (Sc : ST) (Tr : ST) (Ch : ST) (Us : ST) (H : Heap) (locs : List Loc) (ls : Array Slot), va_P D vwCl ((kX7 cs x (.ref (g 0)) (.ref (g2 0)) (.ref (g3 0)) (.ref (h 0)) (.ref (t 0)) (.ref (sa 0)) Ma) ++ (kX2 cs g (.ref (b 0)) (.ref (c 0)) (.ref (d 0)) (.ref (a 0)) ) ++ (kX1 cs b  Fo) ++ (kX3 cs c  Sc) ++ (kX4 cs a (.ref (b 0)) (.ref (c 0)) (.ref (d 0)) Se) ++ (kX4 cs d (.ref (b 0)) (.ref (c 0)) .null Tr) ++ (kX0 cs h (.ref (g 0)) (.ref (u 0)) Ch) ++ (kX4 cs u (.ref (b 0)) (.ref (c 0)) (.ref (d 0)) Us)) H → va_D A ((kX7 cs x (.ref (g 0)) (.ref (g2 0)) (.ref (g3 0)) (.ref (h 0)) (.ref (t 0)) (.ref (sa 0)) Ma) ++ (kX2 cs g (.ref (b 0)) (.ref (c 0)) (.ref (d 0)) (.ref (a 0)) ) ++ (kX1 cs b  Fo) ++ (kX3 cs c  Sc) ++ (kX4 cs a (.ref (b 0)) (.ref (c 0)) (.ref (d 0)) Se) ++ (kX4 cs d (.ref (b 0)) (.ref (c 0)) .null Tr) ++ (kX0 cs h (.ref (g 0)) (.ref (u 0)) Ch) ++ (kX4 cs u (.ref (b 0)) (.ref (c 0)) (.ref (d 0)) Us)) → va_S A s.heap H locs → lv_has ls 7 [(0, .ref (x 0)), (1, .int y1), (2, .int y2), (3, .int y3), (4, .int y4), (5, .int y5)] → fX7_pact_91 Fo Se k70 n y1 y2 y3 y4 y5 Ma Sc Tr Ch Us = some (r0, Maz, Scz, Trz, Chz, Usz) → W p l e rmX7_pact s m [.ref (x 0), .int x1].toArray below meth c H locs 0 0 Q (F0 m 91 ls []) := by
    intro k70 hk70 n
    induction n with
    | zero => intro y1 y2 y3 y4 y5 Ma Sc Tr Ch Us H locs ls hP hD hS hl hf; exact no_el hf
    | succ n ih => intro y1 y2 y3 y4 y5 Ma Sc Tr Ch Us H locs ls hP hD hS hl hf; exact hs91 k70 hk70 _ ih y1 y2 y3 y4 y5 Ma Sc Tr Ch Us _ _ _ hP hD hS hl hf
  have hs70 : ∀ (k70 : Int32 → Int32 → Int32 → Int32 → ST → ST → ST → ST → ST → Option (Int32 × ST × ST × ST × ST × ST)), (∀ (y1 : Int32) (y2 : Int32) (y3 : Int32) (y4 : Int32) (Ma : ST) (Sc : ST) (Tr : ST) (Ch : ST) (Us : ST) (H : Heap) (locs : List Loc) (ls : Array Slot), va_P D vwCl ((kX7 cs x (.ref (g 0)) (.ref (g2 0)) (.ref (g3 0)) (.ref (h 0)) (.ref (t 0)) (.ref (sa 0)) Ma) ++ (kX2 cs g (.ref (b 0)) (.ref (c 0)) (.ref (d 0)) (.ref (a 0)) ) ++ (kX1 cs b  Fo) ++ (kX3 cs c  Sc) ++ (kX4 cs a (.ref (b 0)) (.ref (c 0)) (.ref (d 0)) Se) ++ (kX4 cs d (.ref (b 0)) (.ref (c 0)) .null Tr) ++ (kX0 cs h (.ref (g 0)) (.ref (u 0)) Ch) ++ (kX4 cs u (.ref (b 0)) (.ref (c 0)) (.ref (d 0)) Us)) H → va_D A ((kX7 cs x (.ref (g 0)) (.ref (g2 0)) (.ref (g3 0)) (.ref (h 0)) (.ref (t 0)) (.ref (sa 0)) Ma) ++ (kX2 cs g (.ref (b 0)) (.ref (c 0)) (.ref (d 0)) (.ref (a 0)) ) ++ (kX1 cs b  Fo) ++ (kX3 cs c  Sc) ++ (kX4 cs a (.ref (b 0)) (.ref (c 0)) (.ref (d 0)) Se) ++ (kX4 cs d (.ref (b 0)) (.ref (c 0)) .null Tr) ++ (kX0 cs h (.ref (g 0)) (.ref (u 0)) Ch) ++ (kX4 cs u (.ref (b 0)) (.ref (c 0)) (.ref (d 0)) Us)) → va_S A s.heap H locs → lv_has ls 7 [(0, .ref (x 0)), (1, .int y1), (2, .int y2), (3, .int y3), (4, .int y4)] → k70 y1 y2 y3 y4 Ma Sc Tr Ch Us = some (r0, Maz, Scz, Trz, Chz, Usz) → W p l e rmX7_pact s m [.ref (x 0), .int x1].toArray below meth c H locs 0 0 Q (F0 m 70 ls [])) → ∀ (y1 : Int32) (y2 : Int32) (y3 : Int32) (y4 : Int32) (Ma : ST) (Sc : ST) (Tr : ST) (Ch : ST) (Us : ST) (H : Heap) (locs : List Loc) (ls : Array Slot), va_P D vwCl ((kX7 cs x (.ref (g 0)) (.ref (g2 0)) (.ref (g3 0)) (.ref (h 0)) (.ref (t 0)) (.ref (sa 0)) Ma) ++ (kX2 cs g (.ref (b 0)) (.ref (c 0)) (.ref (d 0)) (.ref (a 0)) ) ++ (kX1 cs b  Fo) ++ (kX3 cs c  Sc) ++ (kX4 cs a (.ref (b 0)) (.ref (c 0)) (.ref (d 0)) Se) ++ (kX4 cs d (.ref (b 0)) (.ref (c 0)) .null Tr) ++ (kX0 cs h (.ref (g 0)) (.ref (u 0)) Ch) ++ (kX4 cs u (.ref (b 0)) (.ref (c 0)) (.ref (d 0)) Us)) H → va_D A ((kX7 cs x (.ref (g 0)) (.ref (g2 0)) (.ref (g3 0)) (.ref (h 0)) (.ref (t 0)) (.ref (sa 0)) Ma) ++ (kX2 cs g (.ref (b 0)) (.ref (c 0)) (.ref (d 0)) (.ref (a 0)) ) ++ (kX1 cs b  Fo) ++ (kX3 cs c  Sc) ++ (kX4 cs a (.ref (b 0)) (.ref (c 0)) (.ref (d 0)) Se) ++ (kX4 cs d (.ref (b 0)) (.ref (c 0)) .null Tr) ++ (kX0 cs h (.ref (g 0)) (.ref (u 0)) Ch) ++ (kX4 cs u (.ref (b 0)) (.ref (c 0)) (.ref (d 0)) Us)) → va_S A s.heap H locs → lv_has ls 7 [(0, .ref (x 0)), (1, .int y1), (2, .int y2), (3, .int y3), (4, .int y4)] → fX7_pact_70_s Fo Se k70 y1 y2 y3 y4 Ma Sc Tr Ch Us = some (r0, Maz, Scz, Trz, Chz, Usz) → W p l e rmX7_pact s m [.ref (x 0), .int x1].toArray below meth c H locs 0 0 Q (F0 m 70 ls []) := by
    intro k70 hk70 y1 y2 y3 y4 Ma Sc Tr Ch Us H locs ls hP hD hS hl hf
    unfold fX7_pact_70_s at hf
    refine lv_iload hx hb dX7_pact_70 (lv_at hl 4 rfl) ?_
    refine lv_aload_n hx hb dX7_pact_72 rfl (lv_at hl 0 rfl) ?_
    refine va_get (D := D) (ci := 7) (v := .ref (g 0)) (C := RX7) (T := TX7) (N := 8) hx hb hu inX7 hown hK.1 hP 0 rfl rfl 0 (by decide) (hu _ q300) (fun _ h9 => h9) rfl dX7_pact_73 ?_
    refine va_get (D := D) (ci := 2) (v := .ref (b 0)) (C := RX2) (T := TX2) (N := 4) hx hb hu inX2 hown hK.1 hP 2 rfl rfl 0 (by decide) (hu _ q196) (fun _ h9 => h9) rfl dX7_pact_76 ?_
    refine va_get (D := D) (ci := 1) (v := .int (Fo 0 0)) (C := RX1) (T := TX1) (N := 9) hx hb hu inX1 hown hK.1 hP 3 rfl rfl 0 (by decide) (hu _ q93) (fun _ h9 => h9) rfl dX7_pact_79 ?_
    refine lv_icmp_ge (tgt := 221) hx hb dX7_pact_82 (by decide) (fun hc18 => ?_) (fun hc18 => ?_)
    · have hf := ip_el hc18 hf
      refine lv_iload_n hx hb dX7_pact_221 rfl (lv_at hl 2 rfl) ?_
      have he := Option.some.inj hf
      obtain ⟨e0, ht0⟩ := Prod.mk.inj he
      obtain ⟨e1, ht1⟩ := Prod.mk.inj ht0
      obtain ⟨e2, ht2⟩ := Prod.mk.inj ht1
      obtain ⟨e3, ht3⟩ := Prod.mk.inj ht2
      obtain ⟨e4, e5⟩ := Prod.mk.inj ht3
      exact hri _ _ _ rfl (congrArg (fun z => some (Value.int z)) e0.symm) dX7_pact_222 _ _ _ (by rw [e1, e2, e3, e4, e5]) hP hD hS
    · have hf := in_el hc18 hf
      refine lv_iload hx hb dX7_pact_85 (lv_at hl 4 rfl) ?_
      refine lv_iconst (v := 1) hx hb dX7_pact_87 (by decide) ?_
      refine lv_iadd hx hb dX7_pact_88 ?_
      obtain ⟨v19, hv19, hf⟩ := lt_el hf
      refine lv_tope hv19 ?_
      refine lv_istore (lv' := [(5, .int v19), (0, .ref (x 0)), (1, .int y1), (2, .int y2), (3, .int y3), (4, .int y4)]) hx hb dX7_pact_89 hl (by decide) rfl (fun ls hl => ?_)
      exact h91 k70 hk70 400 y1 y2 y3 y4 v19 Ma Sc Tr Ch Us _ _ _ hP hD hS (lv_sub hl [1, 2, 3, 4, 5, 0] rfl) hf
  have h70 : ∀ (n : Nat), ∀ (y1 : Int32) (y2 : Int32) (y3 : Int32) (y4 : Int32) (Ma : ST) (Sc : ST) (Tr : ST) (Ch : ST) (Us : ST) (H : Heap) (locs : List Loc) (ls : Array Slot), va_P D vwCl ((kX7 cs x (.ref (g 0)) (.ref (g2 0)) (.ref (g3 0)) (.ref (h 0)) (.ref (t 0)) (.ref (sa 0)) Ma) ++ (kX2 cs g (.ref (b 0)) (.ref (c 0)) (.ref (d 0)) (.ref (a 0)) ) ++ (kX1 cs b  Fo) ++ (kX3 cs c  Sc) ++ (kX4 cs a (.ref (b 0)) (.ref (c 0)) (.ref (d 0)) Se) ++ (kX4 cs d (.ref (b 0)) (.ref (c 0)) .null Tr) ++ (kX0 cs h (.ref (g 0)) (.ref (u 0)) Ch) ++ (kX4 cs u (.ref (b 0)) (.ref (c 0)) (.ref (d 0)) Us)) H → va_D A ((kX7 cs x (.ref (g 0)) (.ref (g2 0)) (.ref (g3 0)) (.ref (h 0)) (.ref (t 0)) (.ref (sa 0)) Ma) ++ (kX2 cs g (.ref (b 0)) (.ref (c 0)) (.ref (d 0)) (.ref (a 0)) ) ++ (kX1 cs b  Fo) ++ (kX3 cs c  Sc) ++ (kX4 cs a (.ref (b 0)) (.ref (c 0)) (.ref (d 0)) Se) ++ (kX4 cs d (.ref (b 0)) (.ref (c 0)) .null Tr) ++ (kX0 cs h (.ref (g 0)) (.ref (u 0)) Ch) ++ (kX4 cs u (.ref (b 0)) (.ref (c 0)) (.ref (d 0)) Us)) → va_S A s.heap H locs → lv_has ls 7 [(0, .ref (x 0)), (1, .int y1), (2, .int y2), (3, .int y3), (4, .int y4)] → fX7_pact_70 Fo Se n y1 y2 y3 y4 Ma Sc Tr Ch Us = some (r0, Maz, Scz, Trz, Chz, Usz) → W p l e rmX7_pact s m [.ref (x 0), .int x1].toArray below meth c H locs 0 0 Q (F0 m 70 ls []) := by
    intro n
    induction n with
    | zero => intro y1 y2 y3 y4 Ma Sc Tr Ch Us H locs ls hP hD hS hl hf; exact no_el hf
    | succ n ih => intro y1 y2 y3 y4 Ma Sc Tr Ch Us H locs ls hP hD hS hl hf; exact hs70 _ ih y1 y2 y3 y4 Ma Sc Tr Ch Us _ _ _ hP hD hS hl hf
  have hl : lv_has ls0 7 [(0, .ref (x 0)), (1, .int x1)] := hl0
  have hP := hP0
  have hD := hD0
  have hS := hS0
  unfold fX7_pact at hf
  refine lv_iload_n hx hb dX7_pact_0 rfl (lv_at hl 1 rfl) ?_
  refine lv_iconst (v := 1) hx hb dX7_pact_1 (by decide) ?_
  refine lv_bipush (v := 40) hx hb dX7_pact_2 (by decide) ?_
  obtain ⟨r1, hg2, hf⟩ := b1_el hf
  refine cc_S0 (st1 := [.int r1]) [.int x1, .int 1, .int 40] hx hb hml hown hu (tX7_within l D cs x1 1 40 r1 hg2) q331 q54 q329 q330 pdX7_within ⟨rfl, rfl, Nat.le_of_ble_eq_true rfl, Nat.le_of_ble_eq_true rfl⟩ hK hZ hP hD hS hA rfl hl.1 rfl (Nat.le_of_ble_eq_true rfl) dX7_pact_4 rfl (fun H locs hP hD hS => ?_)
  refine lv_if_ne (tgt := 17) hx hb dX7_pact_7 (by decide) (fun hc3 => ?_) (fun hc3 => ?_)
  · have hf := in_el hc3 hf
    refine lv_aload_n hx hb dX7_pact_17 rfl (lv_at hl 0 rfl) ?_
    refine va_get (D := D) (ci := 7) (v := .ref (g 0)) (C := RX7) (T := TX7) (N := 8) hx hb hu inX7 hown hK.1 hP 0 rfl rfl 0 (by decide) (hu _ q300) (fun _ h9 => h9) rfl dX7_pact_18 ?_
    refine va_get (D := D) (ci := 2) (v := .ref (b 0)) (C := RX2) (T := TX2) (N := 4) hx hb hu inX2 hown hK.1 hP 2 rfl rfl 0 (by decide) (hu _ q196) (fun _ h9 => h9) rfl dX7_pact_21 ?_
    obtain ⟨r4, hg5, hf⟩ := b1_el hf
    refine cc_V (w' := ((kX7 cs x (.ref (g 0)) (.ref (g2 0)) (.ref (g3 0)) (.ref (h 0)) (.ref (t 0)) (.ref (sa 0)) Ma) ++ (kX2 cs g (.ref (b 0)) (.ref (c 0)) (.ref (d 0)) (.ref (a 0)) ) ++ (kX1 cs b  Fo) ++ (kX3 cs c  Sc) ++ (kX4 cs a (.ref (b 0)) (.ref (c 0)) (.ref (d 0)) Se) ++ (kX4 cs d (.ref (b 0)) (.ref (c 0)) .null Tr) ++ (kX0 cs h (.ref (g 0)) (.ref (u 0)) Ch) ++ (kX4 cs u (.ref (b 0)) (.ref (c 0)) (.ref (d 0)) Us))) (wr := ((kX7 cs x (.ref (g 0)) (.ref (g2 0)) (.ref (g3 0)) (.ref (h 0)) (.ref (t 0)) (.ref (sa 0)) Ma) ++ (kX2 cs g (.ref (b 0)) (.ref (c 0)) (.ref (d 0)) (.ref (a 0)) ) ++ (kX3 cs c  Sc) ++ (kX4 cs a (.ref (b 0)) (.ref (c 0)) (.ref (d 0)) Se) ++ (kX4 cs d (.ref (b 0)) (.ref (c 0)) .null Tr) ++ (kX0 cs h (.ref (g 0)) (.ref (u 0)) Ch) ++ (kX4 cs u (.ref (b 0)) (.ref (c 0)) (.ref (d 0)) Us))) (st1 := [.int r4]) [] hx hb hml hown hu (tX1_alive l D cs b Fo r4 hg5) q360 q56 q644 q358 q359 pdX1_alive ⟨rfl, rfl, Nat.le_of_ble_eq_true rfl, Nat.le_of_ble_eq_true rfl⟩ hK hZ hP hD hS hA [3, 4, 5, 6, 7, 8, 9] [0, 1, 2, 10, 11, 12, 13, 14, 15, 16, 17, 18, 19, 20, 21, 22, 23, 24, 25, 26, 27, 28, 29] [0, 1, 2, 23, 24, 25, 26, 27, 28, 29, 3, 4, 5, 6, 7, 8, 9, 10, 11, 12, 13, 14, 15, 16, 17, 18, 19, 20, 21, 22] rfl rfl rfl rfl rfl rfl rfl rfl rfl rfl hl.1 rfl (Nat.le_of_ble_eq_true rfl) dX7_pact_24 rfl (fun H locs hP hD hS => ?_)
    obtain ⟨r6, hg7, hf⟩ := b1_el hf
    refine cc_S0 (st1 := [.int r6]) [.int r4] hx hb hml hown hu (tJ6_bitCount_0f7a4 l D cs r4 r6 hg7) q647 q65 q645 q646 pdJ6_bitCount_0f7a4 ⟨rfl, rfl, Nat.le_of_ble_eq_true rfl, Nat.le_of_ble_eq_true rfl⟩ hK hZ hP hD hS hA rfl hl.1 rfl (Nat.le_of_ble_eq_true rfl) dX7_pact_27 rfl (fun H locs hP hD hS => ?_)
    refine lv_iconst (v := 2) hx hb dX7_pact_30 (by decide) ?_
    refine lv_icmp_ge (tgt := 41) hx hb dX7_pact_31 (by decide) (fun hc8 => ?_) (fun hc8 => ?_)
    · have hf := ip_el hc8 hf
      refine lv_aload_n hx hb dX7_pact_41 rfl (lv_at hl 0 rfl) ?_
      refine va_get (D := D) (ci := 7) (v := .ref (h 0)) (C := RX7) (T := TX7) (N := 8) hx hb hu inX7 hown hK.1 hP 0 rfl rfl 3 (by decide) (hu _ q303) (fun _ h9 => h9) rfl dX7_pact_42 ?_
      obtain ⟨Us_9, hg10, hf⟩ := b1_el hf
      refine cc_V (w' := ((kX7 cs x (.ref (g 0)) (.ref (g2 0)) (.ref (g3 0)) (.ref (h 0)) (.ref (t 0)) (.ref (sa 0)) Ma) ++ (kX2 cs g (.ref (b 0)) (.ref (c 0)) (.ref (d 0)) (.ref (a 0)) ) ++ (kX1 cs b  Fo) ++ (kX3 cs c  Sc) ++ (kX4 cs a (.ref (b 0)) (.ref (c 0)) (.ref (d 0)) Se) ++ (kX4 cs d (.ref (b 0)) (.ref (c 0)) .null Tr) ++ (kX0 cs h (.ref (g 0)) (.ref (u 0)) Ch) ++ (kX4 cs u (.ref (b 0)) (.ref (c 0)) (.ref (d 0)) Us_9))) (wr := ((kX7 cs x (.ref (g 0)) (.ref (g2 0)) (.ref (g3 0)) (.ref (h 0)) (.ref (t 0)) (.ref (sa 0)) Ma) ++ (kX1 cs b  Fo) ++ (kX3 cs c  Sc) ++ (kX4 cs d (.ref (b 0)) (.ref (c 0)) .null Tr))) (st1 := []) [] hx hb hml hown hu (tX0_start l D cs h g u b c d a Ch Se Us Us_9 hg10) q570 q59 q567 q568 q569 pdX0_start ⟨rfl, rfl, Nat.le_of_ble_eq_true rfl, Nat.le_of_ble_eq_true rfl⟩ hK hZ hP hD hS hA [21, 22, 23, 24, 25, 2, 13, 14, 15, 16, 26, 27, 28, 29] [0, 1, 3, 4, 5, 6, 7, 8, 9, 10, 11, 12, 17, 18, 19, 20] [0, 1, 21, 2, 3, 4, 5, 6, 7, 8, 9, 10, 11, 22, 23, 24, 25, 12, 13, 14, 15, 16, 17, 18, 19, 20, 26, 27, 28, 29] rfl rfl rfl rfl rfl rfl rfl rfl rfl rfl hl.1 rfl (Nat.le_of_ble_eq_true rfl) dX7_pact_45 rfl (fun H locs hP hD hS => ?_)
      refine lv_aload_n hx hb dX7_pact_48 rfl (lv_at hl 0 rfl) ?_
      refine va_get (D := D) (ci := 7) (v := .ref (h 0)) (C := RX7) (T := TX7) (N := 8) hx hb hu inX7 hown hK.1 hP 0 rfl rfl 3 (by decide) (hu _ q303) (fun _ h9 => h9) rfl dX7_pact_49 ?_
      refine lv_iload_n hx hb dX7_pact_52 rfl (lv_at hl 1 rfl) ?_
      obtain ⟨Ch_11, Sc_12, Tr_13, Us_14, hg15, hf⟩ := b4_el hf
      refine cc_V (w' := ((kX7 cs x (.ref (g 0)) (.ref (g2 0)) (.ref (g3 0)) (.ref (h 0)) (.ref (t 0)) (.ref (sa 0)) Ma) ++ (kX2 cs g (.ref (b 0)) (.ref (c 0)) (.ref (d 0)) (.ref (a 0)) ) ++ (kX1 cs b  Fo) ++ (kX3 cs c  Sc_12) ++ (kX4 cs a (.ref (b 0)) (.ref (c 0)) (.ref (d 0)) Se) ++ (kX4 cs d (.ref (b 0)) (.ref (c 0)) .null Tr_13) ++ (kX0 cs h (.ref (g 0)) (.ref (u 0)) Ch_11) ++ (kX4 cs u (.ref (b 0)) (.ref (c 0)) (.ref (d 0)) Us_14))) (wr := ((kX7 cs x (.ref (g 0)) (.ref (g2 0)) (.ref (g3 0)) (.ref (h 0)) (.ref (t 0)) (.ref (sa 0)) Ma) ++ (kX4 cs a (.ref (b 0)) (.ref (c 0)) (.ref (d 0)) Se))) (st1 := []) [.int x1] hx hb hml hown hu (tX0_tally l D cs h g u b c d a x1 Ch Fo Sc Tr Us_9 Ch_11 Sc_12 Tr_13 Us_14 hg15) q602 q59 q599 q600 q601 pdX0_tally ⟨rfl, rfl, Nat.le_of_ble_eq_true rfl, Nat.le_of_ble_eq_true rfl⟩ hK hZ hP hD hS hA [21, 22, 23, 24, 25, 2, 3, 4, 5, 6, 7, 8, 9, 10, 11, 12, 17, 18, 19, 20, 26, 27, 28, 29] [0, 1, 13, 14, 15, 16] [0, 1, 11, 12, 13, 14, 15, 16, 17, 18, 19, 20, 21, 2, 3, 4, 5, 22, 23, 24, 25, 6, 7, 8, 9, 10, 26, 27, 28, 29] rfl rfl rfl rfl rfl rfl rfl rfl rfl rfl hl.1 rfl (Nat.le_of_ble_eq_true rfl) dX7_pact_53 rfl (fun H locs hP hD hS => ?_)
      refine lv_aload_n hx hb dX7_pact_56 rfl (lv_at hl 0 rfl) ?_
      refine va_get (D := D) (ci := 7) (v := .ref (h 0)) (C := RX7) (T := TX7) (N := 8) hx hb hu inX7 hown hK.1 hP 0 rfl rfl 3 (by decide) (hu _ q303) (fun _ h9 => h9) rfl dX7_pact_57 ?_
      obtain ⟨Ch_16, hg17, hf⟩ := b1_el hf
      refine cc_V (w' := ((kX7 cs x (.ref (g 0)) (.ref (g2 0)) (.ref (g3 0)) (.ref (h 0)) (.ref (t 0)) (.ref (sa 0)) Ma) ++ (kX2 cs g (.ref (b 0)) (.ref (c 0)) (.ref (d 0)) (.ref (a 0)) ) ++ (kX1 cs b  Fo) ++ (kX3 cs c  Sc_12) ++ (kX4 cs a (.ref (b 0)) (.ref (c 0)) (.ref (d 0)) Se) ++ (kX4 cs d (.ref (b 0)) (.ref (c 0)) .null Tr_13) ++ (kX0 cs h (.ref (g 0)) (.ref (u 0)) Ch_16) ++ (kX4 cs u (.ref (b 0)) (.ref (c 0)) (.ref (d 0)) Us_14))) (wr := ((kX7 cs x (.ref (g 0)) (.ref (g2 0)) (.ref (g3 0)) (.ref (h 0)) (.ref (t 0)) (.ref (sa 0)) Ma) ++ (kX3 cs c  Sc_12) ++ (kX4 cs a (.ref (b 0)) (.ref (c 0)) (.ref (d 0)) Se) ++ (kX4 cs d (.ref (b 0)) (.ref (c 0)) .null Tr_13) ++ (kX4 cs u (.ref (b 0)) (.ref (c 0)) (.ref (d 0)) Us_14))) (st1 := []) [] hx hb hml hown hu (tX0_noteWithout l D cs h g u b c d a Ch_11 Fo Ch_16 hg17) q633 q59 q630 q631 q632 pdX0_noteWithout ⟨rfl, rfl, Nat.le_of_ble_eq_true rfl, Nat.le_of_ble_eq_true rfl⟩ hK hZ hP hD hS hA [21, 22, 23, 24, 25, 2, 3, 4, 5, 6, 7, 8, 9] [0, 1, 10, 11, 12, 13, 14, 15, 16, 17, 18, 19, 20, 26, 27, 28, 29] [0, 1, 22, 23, 24, 25, 26, 27, 28, 29, 2, 3, 4, 5, 6, 7, 8, 9, 10, 11, 12, 17, 18, 19, 20, 21, 13, 14, 15, 16] rfl rfl rfl rfl rfl rfl rfl rfl rfl rfl hl.1 rfl (Nat.le_of_ble_eq_true rfl) dX7_pact_60 rfl (fun H locs hP hD hS => ?_)
      refine lv_iconst (v := (-1)) hx hb dX7_pact_63 (by decide) ?_
      refine lv_istore_n (lv' := [(2, .int (-1)), (0, .ref (x 0)), (1, .int x1)]) hx hb dX7_pact_64 rfl hl (by decide) rfl (fun ls hl => ?_)
      refine lv_iconst (v := 0) hx hb dX7_pact_65 (by decide) ?_
      refine lv_istore_n (lv' := [(3, .int 0), (2, .int (-1)), (0, .ref (x 0)), (1, .int x1)]) hx hb dX7_pact_66 rfl hl (by decide) rfl (fun ls hl => ?_)
      refine lv_iconst (v := 0) hx hb dX7_pact_67 (by decide) ?_
      refine lv_istore (lv' := [(4, .int 0), (3, .int 0), (2, .int (-1)), (0, .ref (x 0)), (1, .int x1)]) hx hb dX7_pact_68 hl (by decide) rfl (fun ls hl => ?_)
      exact h70 400 x1 (-1) 0 0 Ma Sc_12 Tr_13 Ch_16 Us_14 _ _ _ hP hD hS (lv_sub hl [3, 4, 2, 1, 0] rfl) hf
    · have hf := in_el hc8 hf
      refine lv_aload_n hx hb dX7_pact_34 rfl (lv_at hl 0 rfl) ?_
      refine lv_ldc (v := (-1000000004)) hx hb hown (hu _ q586) dX7_pact_35 ?_
      obtain ⟨r49, Ma_50, hg51, hf⟩ := b2_el hf
      refine cc_V (w' := ((kX7 cs x (.ref (g 0)) (.ref (g2 0)) (.ref (g3 0)) (.ref (h 0)) (.ref (t 0)) (.ref (sa 0)) Ma_50) ++ (kX2 cs g (.ref (b 0)) (.ref (c 0)) (.ref (d 0)) (.ref (a 0)) ) ++ (kX1 cs b  Fo) ++ (kX3 cs c  Sc) ++ (kX4 cs a (.ref (b 0)) (.ref (c 0)) (.ref (d 0)) Se) ++ (kX4 cs d (.ref (b 0)) (.ref (c 0)) .null Tr) ++ (kX0 cs h (.ref (g 0)) (.ref (u 0)) Ch) ++ (kX4 cs u (.ref (b 0)) (.ref (c 0)) (.ref (d 0)) Us))) (wr := ((kX2 cs g (.ref (b 0)) (.ref (c 0)) (.ref (d 0)) (.ref (a 0)) ) ++ (kX1 cs b  Fo) ++ (kX3 cs c  Sc) ++ (kX4 cs a (.ref (b 0)) (.ref (c 0)) (.ref (d 0)) Se) ++ (kX4 cs d (.ref (b 0)) (.ref (c 0)) .null Tr) ++ (kX0 cs h (.ref (g 0)) (.ref (u 0)) Ch) ++ (kX4 cs u (.ref (b 0)) (.ref (c 0)) (.ref (d 0)) Us))) (st1 := [.int r49]) [.int (-1000000004)] hx hb hml hown hu (tX7_finding l D cs x g g2 g3 h t sa (-1000000004) Ma r49 Ma_50 hg51) q339 q54 q336 q338 q0 pdX7_finding ⟨rfl, rfl, Nat.le_of_ble_eq_true rfl, Nat.le_of_ble_eq_true rfl⟩ hK hZ hP hD hS hA [0, 1] [2, 3, 4, 5, 6, 7, 8, 9, 10, 11, 12, 13, 14, 15, 16, 17, 18, 19, 20, 21, 22, 23, 24, 25, 26, 27, 28, 29] [28, 29, 0, 1, 2, 3, 4, 5, 6, 7, 8, 9, 10, 11, 12, 13, 14, 15, 16, 17, 18, 19, 20, 21, 22, 23, 24, 25, 26, 27] rfl rfl rfl rfl rfl rfl rfl rfl rfl rfl hl.1 rfl (Nat.le_of_ble_eq_true rfl) dX7_pact_37 rfl (fun H locs hP hD hS => ?_)
      have he := Option.some.inj hf
      obtain ⟨e0, ht0⟩ := Prod.mk.inj he
      obtain ⟨e1, ht1⟩ := Prod.mk.inj ht0
      obtain ⟨e2, ht2⟩ := Prod.mk.inj ht1
      obtain ⟨e3, ht3⟩ := Prod.mk.inj ht2
      obtain ⟨e4, e5⟩ := Prod.mk.inj ht3
      exact hri _ _ _ rfl (congrArg (fun z => some (Value.int z)) e0.symm) dX7_pact_40 _ _ _ (by rw [e1, e2, e3, e4, e5]) hP hD hS
  · have hf := ip_el hc3 hf
    refine lv_aload_n hx hb dX7_pact_10 rfl (lv_at hl 0 rfl) ?_
    refine lv_ldc (v := (-1000000001)) hx hb hown (hu _ q335) dX7_pact_11 ?_
    obtain ⟨r52, Ma_53, hg54, hf⟩ := b2_el hf
    refine cc_V (w' := ((kX7 cs x (.ref (g 0)) (.ref (g2 0)) (.ref (g3 0)) (.ref (h 0)) (.ref (t 0)) (.ref (sa 0)) Ma_53) ++ (kX2 cs g (.ref (b 0)) (.ref (c 0)) (.ref (d 0)) (.ref (a 0)) ) ++ (kX1 cs b  Fo) ++ (kX3 cs c  Sc) ++ (kX4 cs a (.ref (b 0)) (.ref (c 0)) (.ref (d 0)) Se) ++ (kX4 cs d (.ref (b 0)) (.ref (c 0)) .null Tr) ++ (kX0 cs h (.ref (g 0)) (.ref (u 0)) Ch) ++ (kX4 cs u (.ref (b 0)) (.ref (c 0)) (.ref (d 0)) Us))) (wr := ((kX2 cs g (.ref (b 0)) (.ref (c 0)) (.ref (d 0)) (.ref (a 0)) ) ++ (kX1 cs b  Fo) ++ (kX3 cs c  Sc) ++ (kX4 cs a (.ref (b 0)) (.ref (c 0)) (.ref (d 0)) Se) ++ (kX4 cs d (.ref (b 0)) (.ref (c 0)) .null Tr) ++ (kX0 cs h (.ref (g 0)) (.ref (u 0)) Ch) ++ (kX4 cs u (.ref (b 0)) (.ref (c 0)) (.ref (d 0)) Us))) (st1 := [.int r52]) [.int (-1000000001)] hx hb hml hown hu (tX7_finding l D cs x g g2 g3 h t sa (-1000000001) Ma r52 Ma_53 hg54) q339 q54 q336 q338 q0 pdX7_finding ⟨rfl, rfl, Nat.le_of_ble_eq_true rfl, Nat.le_of_ble_eq_true rfl⟩ hK hZ hP hD hS hA [0, 1] [2, 3, 4, 5, 6, 7, 8, 9, 10, 11, 12, 13, 14, 15, 16, 17, 18, 19, 20, 21, 22, 23, 24, 25, 26, 27, 28, 29] [28, 29, 0, 1, 2, 3, 4, 5, 6, 7, 8, 9, 10, 11, 12, 13, 14, 15, 16, 17, 18, 19, 20, 21, 22, 23, 24, 25, 26, 27] rfl rfl rfl rfl rfl rfl rfl rfl rfl rfl hl.1 rfl (Nat.le_of_ble_eq_true rfl) dX7_pact_13 rfl (fun H locs hP hD hS => ?_)
    have he := Option.some.inj hf
    obtain ⟨e0, ht0⟩ := Prod.mk.inj he
    obtain ⟨e1, ht1⟩ := Prod.mk.inj ht0
    obtain ⟨e2, ht2⟩ := Prod.mk.inj ht1
    obtain ⟨e3, ht3⟩ := Prod.mk.inj ht2
    obtain ⟨e4, e5⟩ := Prod.mk.inj ht3
    exact hri _ _ _ rfl (congrArg (fun z => some (Value.int z)) e0.symm) dX7_pact_16 _ _ _ (by rw [e1, e2, e3, e4, e5]) hP hD hS

def fX7_odds_18 (Fo : ST) (Sc : ST) (Se : ST) (Ma : ST) (Fo3 : ST) (Sc3 : ST) (Se3 : ST) (Tr3 : ST) : Option (Int32 × ST × ST × ST × ST × ST) :=
  dc_b2 (fX7_finding (-1000000001) Ma) (fun r4 Ma_5 => some (r4, Ma_5, Fo3, Sc3, Se3, Tr3))
def fX7_odds_130 (Fo : ST) (Sc : ST) (Se : ST) (k42 : Int32 → Int32 → Int32 → Int32 → Int32 → ST → ST → ST → ST → ST → Option (Int32 × ST × ST × ST × ST × ST)) (y1 : Int32) (y2 : Int32) (y3 : Int32) (y5 : Int32) (Ma : ST) (Fo3 : ST) (Sc3 : ST) (Se3 : ST) (Tr3 : ST) : Option (Int32 × ST × ST × ST × ST × ST) :=
  dc_lt (Fo3 0 8) (fun v19 => dc_lt (y5 + 1) (fun v20 => k42 y1 y2 y3 v19 v20 Ma Fo3 Sc3 Se3 Tr3))
def fX7_odds_108 (Fo : ST) (Sc : ST) (Se : ST) (k42 : Int32 → Int32 → Int32 → Int32 → Int32 → ST → ST → ST → ST → ST → Option (Int32 × ST × ST × ST × ST × ST)) (y1 : Int32) (y2 : Int32) (y3 : Int32) (y5 : Int32) (y6 : Int32) (Ma : ST) (Fo3 : ST) (Sc3 : ST) (Se3 : ST) (Tr3 : ST) : Option (Int32 × ST × ST × ST × ST × ST) :=
  (if y6 = 0 then fX7_odds_130 Fo Sc Se k42 y1 y2 y3 y5 Ma Fo3 Sc3 Se3 Tr3 else (if (Se3 0 6) = y1 then dc_lt (y3 + 1) (fun v22 => fX7_odds_130 Fo Sc Se k42 y1 y2 v22 y5 Ma Fo3 Sc3 Se3 Tr3) else fX7_odds_130 Fo Sc Se k42 y1 y2 y3 y5 Ma Fo3 Sc3 Se3 Tr3))
def fX7_odds_77_s (Fo : ST) (Sc : ST) (Se : ST) (k42 : Int32 → Int32 → Int32 → Int32 → Int32 → ST → ST → ST → ST → ST → Option (Int32 × ST × ST × ST × ST × ST)) (k77 : Int32 → Int32 → Int32 → Int32 → Int32 → Int32 → ST → ST → ST → ST → ST → Option (Int32 × ST × ST × ST × ST × ST)) (y1 : Int32) (y2 : Int32) (y3 : Int32) (y5 : Int32) (y6 : Int32) (y7 : Int32) (Ma : ST) (Fo3 : ST) (Sc3 : ST) (Se3 : ST) (Tr3 : ST) : Option (Int32 × ST × ST × ST × ST × ST) :=
  (if 200 ≤ y7 then fX7_odds_108 Fo Sc Se k42 y1 y2 y3 y5 y6 Ma Fo3 Sc3 Se3 Tr3 else (if y6 = 0 then dc_b5 (fX4_year Se3 Fo3 Sc3 Tr3) (fun r24 Se3_25 Fo3_26 Sc3_27 Tr3_28 => dc_lt (y7 + 1) (fun v30 => k77 y1 y2 y3 y5 r24 v30 Ma Fo3_26 Sc3_27 Se3_25 Tr3_28)) else fX7_odds_108 Fo Sc Se k42 y1 y2 y3 y5 y6 Ma Fo3 Sc3 Se3 Tr3))
def fX7_odds_77 (Fo : ST) (Sc : ST) (Se : ST) (k42 : Int32 → Int32 → Int32 → Int32 → Int32 → ST → ST → ST → ST → ST → Option (Int32 × ST × ST × ST × ST × ST)) : Nat → Int32 → Int32 → Int32 → Int32 → Int32 → Int32 → ST → ST → ST → ST → ST → Option (Int32 × ST × ST × ST × ST × ST)
  | 0 => fun _ _ _ _ _ _ _ _ _ _ _ => none
  | n + 1 => fX7_odds_77_s Fo Sc Se k42 (fX7_odds_77 Fo Sc Se k42 n)
def fX7_odds_42_s (Fo : ST) (Sc : ST) (Se : ST) (k42 : Int32 → Int32 → Int32 → Int32 → Int32 → ST → ST → ST → ST → ST → Option (Int32 × ST × ST × ST × ST × ST)) (y1 : Int32) (y2 : Int32) (y3 : Int32) (y4 : Int32) (y5 : Int32) (Ma : ST) (Fo3 : ST) (Sc3 : ST) (Se3 : ST) (Tr3 : ST) : Option (Int32 × ST × ST × ST × ST × ST) :=
  (if y2 ≤ y5 then some (y3, Ma, Fo3, Sc3, Se3, Tr3) else dc_b3 (fX2_takeFrom Fo3 Sc3 Se3 Fo Sc Se) (fun Fo3_12 Sc3_13 Se3_14 => dc_lt (sti Fo3_12 0 8 y4) (fun Fo3_16 => fX7_odds_77 Fo Sc Se k42 400 y1 y2 y3 y5 0 0 Ma Fo3_16 Sc3_13 Se3_14 Tr3)))
def fX7_odds_42 (Fo : ST) (Sc : ST) (Se : ST) : Nat → Int32 → Int32 → Int32 → Int32 → Int32 → ST → ST → ST → ST → ST → Option (Int32 × ST × ST × ST × ST × ST)
  | 0 => fun _ _ _ _ _ _ _ _ _ _ => none
  | n + 1 => fX7_odds_42_s Fo Sc Se (fX7_odds_42 Fo Sc Se n)
def fX7_odds (x1 : Int32) (x2 : Int32) (Ma : ST) (Fo : ST) (Sc : ST) (Se : ST) (Fo3 : ST) (Sc3 : ST) (Se3 : ST) (Tr3 : ST) : Option (Int32 × ST × ST × ST × ST × ST) :=
  dc_b1 (fX7_isOne x1 Ma Fo) (fun r1 => (if r1 = 0 then fX7_odds_18 Fo Sc Se Ma Fo3 Sc3 Se3 Tr3 else dc_b1 (fX7_within x2 1 40) (fun r7 => (if r7 = 0 then fX7_odds_18 Fo Sc Se Ma Fo3 Sc3 Se3 Tr3 else dc_lt (Fo 0 8) (fun v10 => fX7_odds_42 Fo Sc Se 400 x1 x2 0 v10 0 Ma Fo3 Sc3 Se3 Tr3)))))
abbrev rmX7_odds : Room := { frames := 11, cells := 0, slots := 0, locals := 276 }
set_option maxRecDepth 100000 in
set_option maxHeartbeats 4000000 in
theorem tX7_odds (l : Launch) (D : va_G) (cs : Nat → ClassId) (x : Nat → Nat) (g : Nat → Nat) (g2 : Nat → Nat) (g3 : Nat → Nat) (h : Nat → Nat) (t : Nat → Nat) (sa : Nat → Nat) (b : Nat → Nat) (c : Nat → Nat) (d : Nat → Nat) (a : Nat → Nat) (b3 : Nat → Nat) (c3 : Nat → Nat) (d3 : Nat → Nat) (a3 : Nat → Nat) (x1 : Int32) (x2 : Int32) (Ma : ST) (Fo : ST) (Sc : ST) (Se : ST) (Fo3 : ST) (Sc3 : ST) (Se3 : ST) (Tr3 : ST) (r0 : Int32) (Maz : ST) (Fo3z : ST) (Sc3z : ST) (Se3z : ST) (Tr3z : ST) (hf : fX7_odds x1 x2 Ma Fo Sc Se Fo3 Sc3 Se3 Tr3 = some (r0, Maz, Fo3z, Sc3z, Se3z, Tr3z)) : CG l yX7_odds (wsm yX7_odds cX7_odds 8 (some .int)) rmX7_odds D cs [.ref (x 0), .int x1, .int x2] (some (.int r0)) ((kX7 cs x (.ref (g 0)) (.ref (g2 0)) (.ref (g3 0)) (.ref (h 0)) (.ref (t 0)) (.ref (sa 0)) Ma) ++ (kX2 cs g (.ref (b 0)) (.ref (c 0)) (.ref (d 0)) (.ref (a 0)) ) ++ (kX1 cs b  Fo) ++ (kX3 cs c  Sc) ++ (kX4 cs a (.ref (b 0)) (.ref (c 0)) (.ref (d 0)) Se) ++ (kX2 cs g3 (.ref (b3 0)) (.ref (c3 0)) (.ref (d3 0)) (.ref (a3 0)) ) ++ (kX1 cs b3  Fo3) ++ (kX3 cs c3  Sc3) ++ (kX4 cs a3 (.ref (b3 0)) (.ref (c3 0)) (.ref (d3 0)) Se3) ++ (kX4 cs d3 (.ref (b3 0)) (.ref (c3 0)) .null Tr3)) ((kX7 cs x (.ref (g 0)) (.ref (g2 0)) (.ref (g3 0)) (.ref (h 0)) (.ref (t 0)) (.ref (sa 0)) Maz) ++ (kX2 cs g (.ref (b 0)) (.ref (c 0)) (.ref (d 0)) (.ref (a 0)) ) ++ (kX1 cs b  Fo) ++ (kX3 cs c  Sc) ++ (kX4 cs a (.ref (b 0)) (.ref (c 0)) (.ref (d 0)) Se) ++ (kX2 cs g3 (.ref (b3 0)) (.ref (c3 0)) (.ref (d3 0)) (.ref (a3 0)) ) ++ (kX1 cs b3  Fo3z) ++ (kX3 cs c3  Sc3z) ++ (kX4 cs a3 (.ref (b3 0)) (.ref (c3 0)) (.ref (d3 0)) Se3z) ++ (kX4 cs d3 (.ref (b3 0)) (.ref (c3 0)) .null Tr3z)) := by
  refine CG.intro (by decide) (Nat.le_of_ble_eq_true rfl) ?_
  intro p e s m below meth c A Q hx hb hml hown hu hK hZ hP0 hD0 hS0 hA hri hrz hrl hrv hra ls0 hl0
  have h18 : ∀ (Ma : ST) (Fo3 : ST) (Sc3 : ST) (Se3 : ST) (Tr3 : ST) (H : Heap) (locs : List Loc) (ls : Array Slot), va_P D vwCl ((kX7 cs x (.ref (g 0)) (.ref (g2 0)) (.ref (g3 0)) (.ref (h 0)) (.ref (t 0)) (.ref (sa 0)) Ma) ++ (kX2 cs g (.ref (b 0)) (.ref (c 0)) (.ref (d 0)) (.ref (a 0)) ) ++ (kX1 cs b  Fo) ++ (kX3 cs c  Sc) ++ (kX4 cs a (.ref (b 0)) (.ref (c 0)) (.ref (d 0)) Se) ++ (kX2 cs g3 (.ref (b3 0)) (.ref (c3 0)) (.ref (d3 0)) (.ref (a3 0)) ) ++ (kX1 cs b3  Fo3) ++ (kX3 cs c3  Sc3) ++ (kX4 cs a3 (.ref (b3 0)) (.ref (c3 0)) (.ref (d3 0)) Se3) ++ (kX4 cs d3 (.ref (b3 0)) (.ref (c3 0)) .null Tr3)) H → va_D A ((kX7 cs x (.ref (g 0)) (.ref (g2 0)) (.ref (g3 0)) (.ref (h 0)) (.ref (t 0)) (.ref (sa 0)) Ma) ++ (kX2 cs g (.ref (b 0)) (.ref (c 0)) (.ref (d 0)) (.ref (a 0)) ) ++ (kX1 cs b  Fo) ++ (kX3 cs c  Sc) ++ (kX4 cs a (.ref (b 0)) (.ref (c 0)) (.ref (d 0)) Se) ++ (kX2 cs g3 (.ref (b3 0)) (.ref (c3 0)) (.ref (d3 0)) (.ref (a3 0)) ) ++ (kX1 cs b3  Fo3) ++ (kX3 cs c3  Sc3) ++ (kX4 cs a3 (.ref (b3 0)) (.ref (c3 0)) (.ref (d3 0)) Se3) ++ (kX4 cs d3 (.ref (b3 0)) (.ref (c3 0)) .null Tr3)) → va_S A s.heap H locs → lv_has ls 8 [(0, .ref (x 0))] → fX7_odds_18 Fo Sc Se Ma Fo3 Sc3 Se3 Tr3 = some (r0, Maz, Fo3z, Sc3z, Se3z, Tr3z) → W p l e rmX7_odds s m [.ref (x 0), .int x1, .int x2].toArray below meth c H locs 0 0 Q (F0 m 18 ls []) := by
    intro Ma Fo3 Sc3 Se3 Tr3 H locs ls hP hD hS hl hf
    unfold fX7_odds_18 at hf
    refine lv_aload_n hx hb dX7_odds_18 rfl (lv_at hl 0 rfl) ?_
    refine lv_ldc (v := (-1000000001)) hx hb hown (hu _ q335) dX7_odds_19 ?_
    obtain ⟨r4, Ma_5, hg6, hf⟩ := b2_el hf
    refine cc_V (w' := ((kX7 cs x (.ref (g 0)) (.ref (g2 0)) (.ref (g3 0)) (.ref (h 0)) (.ref (t 0)) (.ref (sa 0)) Ma_5) ++ (kX2 cs g (.ref (b 0)) (.ref (c 0)) (.ref (d 0)) (.ref (a 0)) ) ++ (kX1 cs b  Fo) ++ (kX3 cs c  Sc) ++ (kX4 cs a (.ref (b 0)) (.ref (c 0)) (.ref (d 0)) Se) ++ (kX2 cs g3 (.ref (b3 0)) (.ref (c3 0)) (.ref (d3 0)) (.ref (a3 0)) ) ++ (kX1 cs b3  Fo3) ++ (kX3 cs c3  Sc3) ++ (kX4 cs a3 (.ref (b3 0)) (.ref (c3 0)) (.ref (d3 0)) Se3) ++ (kX4 cs d3 (.ref (b3 0)) (.ref (c3 0)) .null Tr3))) (wr := ((kX2 cs g (.ref (b 0)) (.ref (c 0)) (.ref (d 0)) (.ref (a 0)) ) ++ (kX1 cs b  Fo) ++ (kX3 cs c  Sc) ++ (kX4 cs a (.ref (b 0)) (.ref (c 0)) (.ref (d 0)) Se) ++ (kX2 cs g3 (.ref (b3 0)) (.ref (c3 0)) (.ref (d3 0)) (.ref (a3 0)) ) ++ (kX1 cs b3  Fo3) ++ (kX3 cs c3  Sc3) ++ (kX4 cs a3 (.ref (b3 0)) (.ref (c3 0)) (.ref (d3 0)) Se3) ++ (kX4 cs d3 (.ref (b3 0)) (.ref (c3 0)) .null Tr3))) (st1 := [.int r4]) [.int (-1000000001)] hx hb hml hown hu (tX7_finding l D cs x g g2 g3 h t sa (-1000000001) Ma r4 Ma_5 hg6) q339 q54 q336 q338 q0 pdX7_finding ⟨rfl, rfl, Nat.le_of_ble_eq_true rfl, Nat.le_of_ble_eq_true rfl⟩ hK hZ hP hD hS hA [0, 1] [2, 3, 4, 5, 6, 7, 8, 9, 10, 11, 12, 13, 14, 15, 16, 17, 18, 19, 20, 21, 22, 23, 24, 25, 26, 27, 28, 29, 30, 31, 32, 33, 34, 35] [34, 35, 0, 1, 2, 3, 4, 5, 6, 7, 8, 9, 10, 11, 12, 13, 14, 15, 16, 17, 18, 19, 20, 21, 22, 23, 24, 25, 26, 27, 28, 29, 30, 31, 32, 33] rfl rfl rfl rfl rfl rfl rfl rfl rfl rfl hl.1 rfl (Nat.le_of_ble_eq_true rfl) dX7_odds_21 rfl (fun H locs hP hD hS => ?_)
    have he := Option.some.inj hf
    obtain ⟨e0, ht0⟩ := Prod.mk.inj he
    obtain ⟨e1, ht1⟩ := Prod.mk.inj ht0
    obtain ⟨e2, ht2⟩ := Prod.mk.inj ht1
    obtain ⟨e3, ht3⟩ := Prod.mk.inj ht2
    obtain ⟨e4, e5⟩ := Prod.mk.inj ht3
    exact hri _ _ _ rfl (congrArg (fun z => some (Value.int z)) e0.symm) dX7_odds_24 _ _ _ (by rw [e1, e2, e3, e4, e5]) hP hD hS
  have h130 : ∀ (k42 : Int32 → Int32 → Int32 → Int32 → Int32 → ST → ST → ST → ST → ST → Option (Int32 × ST × ST × ST × ST × ST)), (∀ (y1 : Int32) (y2 : Int32) (y3 : Int32) (y4 : Int32) (y5 : Int32) (Ma : ST) (Fo3 : ST) (Sc3 : ST) (Se3 : ST) (Tr3 : ST) (H : Heap) (locs : List Loc) (ls : Array Slot), va_P D vwCl ((kX7 cs x (.ref (g 0)) (.ref (g2 0)) (.ref (g3 0)) (.ref (h 0)) (.ref (t 0)) (.ref (sa 0)) Ma) ++ (kX2 cs g (.ref (b 0)) (.ref (c 0)) (.ref (d 0)) (.ref (a 0)) ) ++ (kX1 cs b  Fo) ++ (kX3 cs c  Sc) ++ (kX4 cs a (.ref (b 0)) (.ref (c 0)) (.ref (d 0)) Se) ++ (kX2 cs g3 (.ref (b3 0)) (.ref (c3 0)) (.ref (d3 0)) (.ref (a3 0)) ) ++ (kX1 cs b3  Fo3) ++ (kX3 cs c3  Sc3) ++ (kX4 cs a3 (.ref (b3 0)) (.ref (c3 0)) (.ref (d3 0)) Se3) ++ (kX4 cs d3 (.ref (b3 0)) (.ref (c3 0)) .null Tr3)) H → va_D A ((kX7 cs x (.ref (g 0)) (.ref (g2 0)) (.ref (g3 0)) (.ref (h 0)) (.ref (t 0)) (.ref (sa 0)) Ma) ++ (kX2 cs g (.ref (b 0)) (.ref (c 0)) (.ref (d 0)) (.ref (a 0)) ) ++ (kX1 cs b  Fo) ++ (kX3 cs c  Sc) ++ (kX4 cs a (.ref (b 0)) (.ref (c 0)) (.ref (d 0)) Se) ++ (kX2 cs g3 (.ref (b3 0)) (.ref (c3 0)) (.ref (d3 0)) (.ref (a3 0)) ) ++ (kX1 cs b3  Fo3) ++ (kX3 cs c3  Sc3) ++ (kX4 cs a3 (.ref (b3 0)) (.ref (c3 0)) (.ref (d3 0)) Se3) ++ (kX4 cs d3 (.ref (b3 0)) (.ref (c3 0)) .null Tr3)) → va_S A s.heap H locs → lv_has ls 8 [(0, .ref (x 0)), (1, .int y1), (2, .int y2), (3, .int y3), (4, .int y4), (5, .int y5)] → k42 y1 y2 y3 y4 y5 Ma Fo3 Sc3 Se3 Tr3 = some (r0, Maz, Fo3z, Sc3z, Se3z, Tr3z) → W p l e rmX7_odds s m [.ref (x 0), .int x1, .int x2].toArray below meth c H locs 0 0 Q (F0 m 42 ls [])) → ∀ (y1 : Int32) (y2 : Int32) (y3 : Int32) (y5 : Int32) (Ma : ST) (Fo3 : ST) (Sc3 : ST) (Se3 : ST) (Tr3 : ST) (H : Heap) (locs : List Loc) (ls : Array Slot), va_P D vwCl ((kX7 cs x (.ref (g 0)) (.ref (g2 0)) (.ref (g3 0)) (.ref (h 0)) (.ref (t 0)) (.ref (sa 0)) Ma) ++ (kX2 cs g (.ref (b 0)) (.ref (c 0)) (.ref (d 0)) (.ref (a 0)) ) ++ (kX1 cs b  Fo) ++ (kX3 cs c  Sc) ++ (kX4 cs a (.ref (b 0)) (.ref (c 0)) (.ref (d 0)) Se) ++ (kX2 cs g3 (.ref (b3 0)) (.ref (c3 0)) (.ref (d3 0)) (.ref (a3 0)) ) ++ (kX1 cs b3  Fo3) ++ (kX3 cs c3  Sc3) ++ (kX4 cs a3 (.ref (b3 0)) (.ref (c3 0)) (.ref (d3 0)) Se3) ++ (kX4 cs d3 (.ref (b3 0)) (.ref (c3 0)) .null Tr3)) H → va_D A ((kX7 cs x (.ref (g 0)) (.ref (g2 0)) (.ref (g3 0)) (.ref (h 0)) (.ref (t 0)) (.ref (sa 0)) Ma) ++ (kX2 cs g (.ref (b 0)) (.ref (c 0)) (.ref (d 0)) (.ref (a 0)) ) ++ (kX1 cs b  Fo) ++ (kX3 cs c  Sc) ++ (kX4 cs a (.ref (b 0)) (.ref (c 0)) (.ref (d 0)) Se) ++ (kX2 cs g3 (.ref (b3 0)) (.ref (c3 0)) (.ref (d3 0)) (.ref (a3 0)) ) ++ (kX1 cs b3  Fo3) ++ (kX3 cs c3  Sc3) ++ (kX4 cs a3 (.ref (b3 0)) (.ref (c3 0)) (.ref (d3 0)) Se3) ++ (kX4 cs d3 (.ref (b3 0)) (.ref (c3 0)) .null Tr3)) → va_S A s.heap H locs → lv_has ls 8 [(0, .ref (x 0)), (1, .int y1), (2, .int y2), (3, .int y3), (5, .int y5)] → fX7_odds_130 Fo Sc Se k42 y1 y2 y3 y5 Ma Fo3 Sc3 Se3 Tr3 = some (r0, Maz, Fo3z, Sc3z, Se3z, Tr3z) → W p l e rmX7_odds s m [.ref (x 0), .int x1, .int x2].toArray below meth c H locs 0 0 Q (F0 m 130 ls []) := by
    intro k42 hk42 y1 y2 y3 y5 Ma Fo3 Sc3 Se3 Tr3 H locs ls hP hD hS hl hf
    unfold fX7_odds_130 at hf
    refine lv_aload_n hx hb dX7_odds_130 rfl (lv_at hl 0 rfl) ?_
    refine va_get (D := D) (ci := 7) (v := .ref (g3 0)) (C := RX7) (T := TX7) (N := 8) hx hb hu inX7 hown hK.1 hP 0 rfl rfl 2 (by decide) (hu _ q302) (fun _ h9 => h9) rfl dX7_odds_131 ?_
    refine va_get (D := D) (ci := 2) (v := .ref (b3 0)) (C := RX2) (T := TX2) (N := 4) hx hb hu inX2 hown hK.1 hP 17 rfl rfl 0 (by decide) (hu _ q196) (fun _ h9 => h9) rfl dX7_odds_134 ?_
    refine va_get (D := D) (ci := 1) (v := .int (Fo3 0 8)) (C := RX1) (T := TX1) (N := 9) hx hb hu inX1 hown hK.1 hP 18 rfl rfl 8 (by decide) (hu _ q113) (fun _ h9 => h9) rfl dX7_odds_137 ?_
    obtain ⟨v19, hv19, hf⟩ := lt_el hf
    refine lv_tope hv19 ?_
    refine lv_istore (lv' := [(4, .int v19), (0, .ref (x 0)), (1, .int y1), (2, .int y2), (3, .int y3), (5, .int y5)]) hx hb dX7_odds_140 hl (by decide) rfl (fun ls hl => ?_)
    obtain ⟨v20, hv20, hf⟩ := lt_el hf
    refine lv_iinc (v := v20) (lv' := [(5, .int v20), (4, .int v19), (0, .ref (x 0)), (1, .int y1), (2, .int y2), (3, .int y3)]) hx hb dX7_odds_142 hl (k := 5) rfl (by rw [hv20]; rfl) (by decide) rfl (fun ls hl => ?_)
    refine lv_goto (tgt := 42) hx hb dX7_odds_145 (by decide) ?_
    exact hk42 y1 y2 y3 v19 v20 Ma Fo3 Sc3 Se3 Tr3 _ _ _ hP hD hS (lv_sub hl [2, 3, 4, 5, 1, 0] rfl) hf
  have h108 : ∀ (k42 : Int32 → Int32 → Int32 → Int32 → Int32 → ST → ST → ST → ST → ST → Option (Int32 × ST × ST × ST × ST × ST)), (∀ (y1 : Int32) (y2 : Int32) (y3 : Int32) (y4 : Int32) (y5 : Int32) (Ma : ST) (Fo3 : ST) (Sc3 : ST) (Se3 : ST) (Tr3 : ST) (H : Heap) (locs : List Loc) (ls : Array Slot), va_P D vwCl ((kX7 cs x (.ref (g 0)) (.ref (g2 0)) (.ref (g3 0)) (.ref (h 0)) (.ref (t 0)) (.ref (sa 0)) Ma) ++ (kX2 cs g (.ref (b 0)) (.ref (c 0)) (.ref (d 0)) (.ref (a 0)) ) ++ (kX1 cs b  Fo) ++ (kX3 cs c  Sc) ++ (kX4 cs a (.ref (b 0)) (.ref (c 0)) (.ref (d 0)) Se) ++ (kX2 cs g3 (.ref (b3 0)) (.ref (c3 0)) (.ref (d3 0)) (.ref (a3 0)) ) ++ (kX1 cs b3  Fo3) ++ (kX3 cs c3  Sc3) ++ (kX4 cs a3 (.ref (b3 0)) (.ref (c3 0)) (.ref (d3 0)) Se3) ++ (kX4 cs d3 (.ref (b3 0)) (.ref (c3 0)) .null Tr3)) H → va_D A ((kX7 cs x (.ref (g 0)) (.ref (g2 0)) (.ref (g3 0)) (.ref (h 0)) (.ref (t 0)) (.ref (sa 0)) Ma) ++ (kX2 cs g (.ref (b 0)) (.ref (c 0)) (.ref (d 0)) (.ref (a 0)) ) ++ (kX1 cs b  Fo) ++ (kX3 cs c  Sc) ++ (kX4 cs a (.ref (b 0)) (.ref (c 0)) (.ref (d 0)) Se) ++ (kX2 cs g3 (.ref (b3 0)) (.ref (c3 0)) (.ref (d3 0)) (.ref (a3 0)) ) ++ (kX1 cs b3  Fo3) ++ (kX3 cs c3  Sc3) ++ (kX4 cs a3 (.ref (b3 0)) (.ref (c3 0)) (.ref (d3 0)) Se3) ++ (kX4 cs d3 (.ref (b3 0)) (.ref (c3 0)) .null Tr3)) → va_S A s.heap H locs → lv_has ls 8 [(0, .ref (x 0)), (1, .int y1), (2, .int y2), (3, .int y3), (4, .int y4), (5, .int y5)] → k42 y1 y2 y3 y4 y5 Ma Fo3 Sc3 Se3 Tr3 = some (r0, Maz, Fo3z, Sc3z, Se3z, Tr3z) → W p l e rmX7_odds s m [.ref (x 0), .int x1, .int x2].toArray below meth c H locs 0 0 Q (F0 m 42 ls [])) → ∀ (y1 : Int32) (y2 : Int32) (y3 : Int32) (y5 : Int32) (y6 : Int32) (Ma : ST) (Fo3 : ST) (Sc3 : ST) (Se3 : ST) (Tr3 : ST) (H : Heap) (locs : List Loc) (ls : Array Slot), va_P D vwCl ((kX7 cs x (.ref (g 0)) (.ref (g2 0)) (.ref (g3 0)) (.ref (h 0)) (.ref (t 0)) (.ref (sa 0)) Ma) ++ (kX2 cs g (.ref (b 0)) (.ref (c 0)) (.ref (d 0)) (.ref (a 0)) ) ++ (kX1 cs b  Fo) ++ (kX3 cs c  Sc) ++ (kX4 cs a (.ref (b 0)) (.ref (c 0)) (.ref (d 0)) Se) ++ (kX2 cs g3 (.ref (b3 0)) (.ref (c3 0)) (.ref (d3 0)) (.ref (a3 0)) ) ++ (kX1 cs b3  Fo3) ++ (kX3 cs c3  Sc3) ++ (kX4 cs a3 (.ref (b3 0)) (.ref (c3 0)) (.ref (d3 0)) Se3) ++ (kX4 cs d3 (.ref (b3 0)) (.ref (c3 0)) .null Tr3)) H → va_D A ((kX7 cs x (.ref (g 0)) (.ref (g2 0)) (.ref (g3 0)) (.ref (h 0)) (.ref (t 0)) (.ref (sa 0)) Ma) ++ (kX2 cs g (.ref (b 0)) (.ref (c 0)) (.ref (d 0)) (.ref (a 0)) ) ++ (kX1 cs b  Fo) ++ (kX3 cs c  Sc) ++ (kX4 cs a (.ref (b 0)) (.ref (c 0)) (.ref (d 0)) Se) ++ (kX2 cs g3 (.ref (b3 0)) (.ref (c3 0)) (.ref (d3 0)) (.ref (a3 0)) ) ++ (kX1 cs b3  Fo3) ++ (kX3 cs c3  Sc3) ++ (kX4 cs a3 (.ref (b3 0)) (.ref (c3 0)) (.ref (d3 0)) Se3) ++ (kX4 cs d3 (.ref (b3 0)) (.ref (c3 0)) .null Tr3)) → va_S A s.heap H locs → lv_has ls 8 [(0, .ref (x 0)), (1, .int y1), (2, .int y2), (3, .int y3), (5, .int y5), (6, .int y6)] → fX7_odds_108 Fo Sc Se k42 y1 y2 y3 y5 y6 Ma Fo3 Sc3 Se3 Tr3 = some (r0, Maz, Fo3z, Sc3z, Se3z, Tr3z) → W p l e rmX7_odds s m [.ref (x 0), .int x1, .int x2].toArray below meth c H locs 0 0 Q (F0 m 108 ls []) := by
    intro k42 hk42 y1 y2 y3 y5 y6 Ma Fo3 Sc3 Se3 Tr3 H locs ls hP hD hS hl hf
    unfold fX7_odds_108 at hf
    refine lv_iload hx hb dX7_odds_108 (lv_at hl 5 rfl) ?_
    refine lv_if_eq (tgt := 130) hx hb dX7_odds_110 (by decide) (fun hc18 => ?_) (fun hc18 => ?_)
    · have hf := ip_el hc18 hf
      exact h130 k42 hk42 y1 y2 y3 y5 Ma Fo3 Sc3 Se3 Tr3 _ _ _ hP hD hS (lv_sub hl [0, 1, 2, 3, 4] rfl) hf
    · have hf := in_el hc18 hf
      refine lv_aload_n hx hb dX7_odds_113 rfl (lv_at hl 0 rfl) ?_
      refine va_get (D := D) (ci := 7) (v := .ref (g3 0)) (C := RX7) (T := TX7) (N := 8) hx hb hu inX7 hown hK.1 hP 0 rfl rfl 2 (by decide) (hu _ q302) (fun _ h9 => h9) rfl dX7_odds_114 ?_
      refine va_get (D := D) (ci := 2) (v := .ref (a3 0)) (C := RX2) (T := TX2) (N := 4) hx hb hu inX2 hown hK.1 hP 17 rfl rfl 3 (by decide) (hu _ q204) (fun _ h9 => h9) rfl dX7_odds_117 ?_
      refine va_get (D := D) (ci := 4) (v := .int (Se3 0 6)) (C := RX4) (T := TX4) (N := 10) hx hb hu inX4 hown hK.1 hP 28 rfl rfl 6 (by decide) (hu _ q168) (fun _ h9 => h9) rfl dX7_odds_120 ?_
      refine lv_iload_n hx hb dX7_odds_123 rfl (lv_at hl 1 rfl) ?_
      refine lv_icmp_ne (tgt := 130) hx hb dX7_odds_124 (by decide) (fun hc21 => ?_) (fun hc21 => ?_)
      · have hf := in_el hc21 hf
        exact h130 k42 hk42 y1 y2 y3 y5 Ma Fo3 Sc3 Se3 Tr3 _ _ _ hP hD hS (lv_sub hl [0, 1, 2, 3, 4] rfl) hf
      · have hf := ip_el hc21 hf
        obtain ⟨v22, hv22, hf⟩ := lt_el hf
        refine lv_iinc (v := v22) (lv' := [(3, .int v22), (0, .ref (x 0)), (1, .int y1), (2, .int y2), (5, .int y5), (6, .int y6)]) hx hb dX7_odds_127 hl (k := 3) rfl (by rw [hv22]; rfl) (by decide) rfl (fun ls hl => ?_)
        exact h130 k42 hk42 y1 y2 v22 y5 Ma Fo3 Sc3 Se3 Tr3 _ _ _ hP hD hS (lv_sub hl [1, 2, 3, 0, 4] rfl) hf
  have hs77 : ∀ (k42 : Int32 → Int32 → Int32 → Int32 → Int32 → ST → ST → ST → ST → ST → Option (Int32 × ST × ST × ST × ST × ST)), (∀ (y1 : Int32) (y2 : Int32) (y3 : Int32) (y4 : Int32) (y5 : Int32) (Ma : ST) (Fo3 : ST) (Sc3 : ST) (Se3 : ST) (Tr3 : ST) (H : Heap) (locs : List Loc) (ls : Array Slot), va_P D vwCl ((kX7 cs x (.ref (g 0)) (.ref (g2 0)) (.ref (g3 0)) (.ref (h 0)) (.ref (t 0)) (.ref (sa 0)) Ma) ++ (kX2 cs g (.ref (b 0)) (.ref (c 0)) (.ref (d 0)) (.ref (a 0)) ) ++ (kX1 cs b  Fo) ++ (kX3 cs c  Sc) ++ (kX4 cs a (.ref (b 0)) (.ref (c 0)) (.ref (d 0)) Se) ++ (kX2 cs g3 (.ref (b3 0)) (.ref (c3 0)) (.ref (d3 0)) (.ref (a3 0)) ) ++ (kX1 cs b3  Fo3) ++ (kX3 cs c3  Sc3) ++ (kX4 cs a3 (.ref (b3 0)) (.ref (c3 0)) (.ref (d3 0)) Se3) ++ (kX4 cs d3 (.ref (b3 0)) (.ref (c3 0)) .null Tr3)) H → va_D A ((kX7 cs x (.ref (g 0)) (.ref (g2 0)) (.ref (g3 0)) (.ref (h 0)) (.ref (t 0)) (.ref (sa 0)) Ma) ++ (kX2 cs g (.ref (b 0)) (.ref (c 0)) (.ref (d 0)) (.ref (a 0)) ) ++ (kX1 cs b  Fo) ++ (kX3 cs c  Sc) ++ (kX4 cs a (.ref (b 0)) (.ref (c 0)) (.ref (d 0)) Se) ++ (kX2 cs g3 (.ref (b3 0)) (.ref (c3 0)) (.ref (d3 0)) (.ref (a3 0)) ) ++ (kX1 cs b3  Fo3) ++ (kX3 cs c3  Sc3) ++ (kX4 cs a3 (.ref (b3 0)) (.ref (c3 0)) (.ref (d3 0)) Se3) ++ (kX4 cs d3 (.ref (b3 0)) (.ref (c3 0)) .null Tr3)) → va_S A s.heap H locs → lv_has ls 8 [(0, .ref (x 0)), (1, .int y1), (2, .int y2), (3, .int y3), (4, .int y4), (5, .int y5)] → k42 y1 y2 y3 y4 y5 Ma Fo3 Sc3 Se3 Tr3 = some (r0, Maz, Fo3z, Sc3z, Se3z, Tr3z) → W p l e rmX7_odds s m [.ref (x 0), .int x1, .int x2].toArray below meth c H locs 0 0 Q (F0 m 42 ls [])) → ∀ (k77 : Int32 → Int32 → Int32 → Int32 → Int32 → Int32 → ST → ST → ST → ST → ST → Option (Int32 × ST × ST × ST × ST × ST)), (∀ (y1 : Int32) (y2 : Int32) (y3 : Int32) (y5 : Int32) (y6 : Int32) (y7 : Int32) (Ma : ST) (Fo3 : ST) (Sc3 : ST) (Se3 : ST) (Tr3 : ST) (H : Heap) (locs : List Loc) (ls : Array Slot), va_P D vwCl ((kX7 cs x (.ref (g 0)) (.ref (g2 0)) (.ref (g3 0)) (.ref (h 0)) (.ref (t 0)) (.ref (sa 0)) Ma) ++ (kX2 cs g (.ref (b 0)) (.ref (c 0)) (.ref (d 0)) (.ref (a 0)) ) ++ (kX1 cs b  Fo) ++ (kX3 cs c  Sc) ++ (kX4 cs a (.ref (b 0)) (.ref (c 0)) (.ref (d 0)) Se) ++ (kX2 cs g3 (.ref (b3 0)) (.ref (c3 0)) (.ref (d3 0)) (.ref (a3 0)) ) ++ (kX1 cs b3  Fo3) ++ (kX3 cs c3  Sc3) ++ (kX4 cs a3 (.ref (b3 0)) (.ref (c3 0)) (.ref (d3 0)) Se3) ++ (kX4 cs d3 (.ref (b3 0)) (.ref (c3 0)) .null Tr3)) H → va_D A ((kX7 cs x (.ref (g 0)) (.ref (g2 0)) (.ref (g3 0)) (.ref (h 0)) (.ref (t 0)) (.ref (sa 0)) Ma) ++ (kX2 cs g (.ref (b 0)) (.ref (c 0)) (.ref (d 0)) (.ref (a 0)) ) ++ (kX1 cs b  Fo) ++ (kX3 cs c  Sc) ++ (kX4 cs a (.ref (b 0)) (.ref (c 0)) (.ref (d 0)) Se) ++ (kX2 cs g3 (.ref (b3 0)) (.ref (c3 0)) (.ref (d3 0)) (.ref (a3 0)) ) ++ (kX1 cs b3  Fo3) ++ (kX3 cs c3  Sc3) ++ (kX4 cs a3 (.ref (b3 0)) (.ref (c3 0)) (.ref (d3 0)) Se3) ++ (kX4 cs d3 (.ref (b3 0)) (.ref (c3 0)) .null Tr3)) → va_S A s.heap H locs → lv_has ls 8 [(0, .ref (x 0)), (1, .int y1), (2, .int y2), (3, .int y3), (5, .int y5), (6, .int y6), (7, .int y7)] → k77 y1 y2 y3 y5 y6 y7 Ma Fo3 Sc3 Se3 Tr3 = some (r0, Maz, Fo3z, Sc3z, Se3z, Tr3z) → W p l e rmX7_odds s m [.ref (x 0), .int x1, .int x2].toArray below meth c H locs 0 0 Q (F0 m 77 ls [])) → ∀ (y1 : Int32) (y2 : Int32) (y3 : Int32) (y5 : Int32) (y6 : Int32) (y7 : Int32) (Ma : ST) (Fo3 : ST) (Sc3 : ST) (Se3 : ST) (Tr3 : ST) (H : Heap) (locs : List Loc) (ls : Array Slot), va_P D vwCl ((kX7 cs x (.ref (g 0)) (.ref (g2 0)) (.ref (g3 0)) (.ref (h 0)) (.ref (t 0)) (.ref (sa 0)) Ma) ++ (kX2 cs g (.ref (b 0)) (.ref (c 0)) (.ref (d 0)) (.ref (a 0)) ) ++ (kX1 cs b  Fo) ++ (kX3 cs c  Sc) ++ (kX4 cs a (.ref (b 0)) (.ref (c 0)) (.ref (d 0)) Se) ++ (kX2 cs g3 (.ref (b3 0)) (.ref (c3 0)) (.ref (d3 0)) (.ref (a3 0)) ) ++ (kX1 cs b3  Fo3) ++ (kX3 cs c3  Sc3) ++ (kX4 cs a3 (.ref (b3 0)) (.ref (c3 0)) (.ref (d3 0)) Se3) ++ (kX4 cs d3 (.ref (b3 0)) (.ref (c3 0)) .null Tr3)) H → va_D A ((kX7 cs x (.ref (g 0)) (.ref (g2 0)) (.ref (g3 0)) (.ref (h 0)) (.ref (t 0)) (.ref (sa 0)) Ma) ++ (kX2 cs g (.ref (b 0)) (.ref (c 0)) (.ref (d 0)) (.ref (a 0)) ) ++ (kX1 cs b  Fo) ++ (kX3 cs c  Sc) ++ (kX4 cs a (.ref (b 0)) (.ref (c 0)) (.ref (d 0)) Se) ++ (kX2 cs g3 (.ref (b3 0)) (.ref (c3 0)) (.ref (d3 0)) (.ref (a3 0)) ) ++ (kX1 cs b3  Fo3) ++ (kX3 cs c3  Sc3) ++ (kX4 cs a3 (.ref (b3 0)) (.ref (c3 0)) (.ref (d3 0)) Se3) ++ (kX4 cs d3 (.ref (b3 0)) (.ref (c3 0)) .null Tr3)) → va_S A s.heap H locs → lv_has ls 8 [(0, .ref (x 0)), (1, .int y1), (2, .int y2), (3, .int y3), (5, .int y5), (6, .int y6), (7, .int y7)] → fX7_odds_77_s Fo Sc Se k42 k77 y1 y2 y3 y5 y6 y7 Ma Fo3 Sc3 Se3 Tr3 = some (r0, Maz, Fo3z, Sc3z, Se3z, Tr3z) → W p l e rmX7_odds s m [.ref (x 0), .int x1, .int x2].toArray below meth c H locs 0 0 Q (F0 m 77 ls []) := by
    intro k42 hk42 k77 hk77 y1 y2 y3 y5 y6 y7 Ma Fo3 Sc3 Se3 Tr3 H locs ls hP hD hS hl hf
    unfold fX7_odds_77_s at hf
    refine lv_iload hx hb dX7_odds_77 (lv_at hl 6 rfl) ?_
    refine lv_sipush (v := 200) hx hb dX7_odds_79 (by decide) ?_
    refine lv_icmp_ge (tgt := 108) hx hb dX7_odds_82 (by decide) (fun hc17 => ?_) (fun hc17 => ?_)
    · have hf := ip_el hc17 hf
      exact h108 k42 hk42 y1 y2 y3 y5 y6 Ma Fo3 Sc3 Se3 Tr3 _ _ _ hP hD hS (lv_sub hl [0, 1, 2, 3, 4, 5] rfl) hf
    · have hf := in_el hc17 hf
      refine lv_iload hx hb dX7_odds_85 (lv_at hl 5 rfl) ?_
      refine lv_if_ne (tgt := 108) hx hb dX7_odds_87 (by decide) (fun hc23 => ?_) (fun hc23 => ?_)
      · have hf := in_el hc23 hf
        exact h108 k42 hk42 y1 y2 y3 y5 y6 Ma Fo3 Sc3 Se3 Tr3 _ _ _ hP hD hS (lv_sub hl [0, 1, 2, 3, 4, 5] rfl) hf
      · have hf := ip_el hc23 hf
        refine lv_aload_n hx hb dX7_odds_90 rfl (lv_at hl 0 rfl) ?_
        refine va_get (D := D) (ci := 7) (v := .ref (g3 0)) (C := RX7) (T := TX7) (N := 8) hx hb hu inX7 hown hK.1 hP 0 rfl rfl 2 (by decide) (hu _ q302) (fun _ h9 => h9) rfl dX7_odds_91 ?_
        refine va_get (D := D) (ci := 2) (v := .ref (a3 0)) (C := RX2) (T := TX2) (N := 4) hx hb hu inX2 hown hK.1 hP 17 rfl rfl 3 (by decide) (hu _ q204) (fun _ h9 => h9) rfl dX7_odds_94 ?_
        obtain ⟨r24, Se3_25, Fo3_26, Sc3_27, Tr3_28, hg29, hf⟩ := b5_el hf
        refine cc_V (w' := ((kX7 cs x (.ref (g 0)) (.ref (g2 0)) (.ref (g3 0)) (.ref (h 0)) (.ref (t 0)) (.ref (sa 0)) Ma) ++ (kX2 cs g (.ref (b 0)) (.ref (c 0)) (.ref (d 0)) (.ref (a 0)) ) ++ (kX1 cs b  Fo) ++ (kX3 cs c  Sc) ++ (kX4 cs a (.ref (b 0)) (.ref (c 0)) (.ref (d 0)) Se) ++ (kX2 cs g3 (.ref (b3 0)) (.ref (c3 0)) (.ref (d3 0)) (.ref (a3 0)) ) ++ (kX1 cs b3  Fo3_26) ++ (kX3 cs c3  Sc3_27) ++ (kX4 cs a3 (.ref (b3 0)) (.ref (c3 0)) (.ref (d3 0)) Se3_25) ++ (kX4 cs d3 (.ref (b3 0)) (.ref (c3 0)) .null Tr3_28))) (wr := ((kX7 cs x (.ref (g 0)) (.ref (g2 0)) (.ref (g3 0)) (.ref (h 0)) (.ref (t 0)) (.ref (sa 0)) Ma) ++ (kX2 cs g (.ref (b 0)) (.ref (c 0)) (.ref (d 0)) (.ref (a 0)) ) ++ (kX1 cs b  Fo) ++ (kX3 cs c  Sc) ++ (kX4 cs a (.ref (b 0)) (.ref (c 0)) (.ref (d 0)) Se) ++ (kX2 cs g3 (.ref (b3 0)) (.ref (c3 0)) (.ref (d3 0)) (.ref (a3 0)) ))) (st1 := [.int r24]) [] hx hb hml hown hu (tX4_year l D cs a3 b3 c3 d3 Se3 Fo3 Sc3 Tr3 r24 Se3_25 Fo3_26 Sc3_27 Tr3_28 hg29) q536 q58 q533 q534 q535 pdX4_year ⟨rfl, rfl, Nat.le_of_ble_eq_true rfl, Nat.le_of_ble_eq_true rfl⟩ hK hZ hP hD hS hA [28, 29, 30, 31, 18, 19, 20, 21, 22, 23, 24, 25, 26, 27, 32, 33, 34, 35] [0, 1, 2, 3, 4, 5, 6, 7, 8, 9, 10, 11, 12, 13, 14, 15, 16, 17] [0, 1, 2, 3, 4, 5, 6, 7, 8, 9, 10, 11, 12, 13, 14, 15, 16, 17, 22, 23, 24, 25, 26, 27, 28, 29, 30, 31, 18, 19, 20, 21, 32, 33, 34, 35] rfl rfl rfl rfl rfl rfl rfl rfl rfl rfl hl.1 rfl (Nat.le_of_ble_eq_true rfl) dX7_odds_97 rfl (fun H locs hP hD hS => ?_)
        refine lv_istore (lv' := [(6, .int r24), (0, .ref (x 0)), (1, .int y1), (2, .int y2), (3, .int y3), (5, .int y5), (7, .int y7)]) hx hb dX7_odds_100 hl (by decide) rfl (fun ls hl => ?_)
        obtain ⟨v30, hv30, hf⟩ := lt_el hf
        refine lv_iinc (v := v30) (lv' := [(7, .int v30), (6, .int r24), (0, .ref (x 0)), (1, .int y1), (2, .int y2), (3, .int y3), (5, .int y5)]) hx hb dX7_odds_102 hl (k := 6) rfl (by rw [hv30]; rfl) (by decide) rfl (fun ls hl => ?_)
        refine lv_goto (tgt := 77) hx hb dX7_odds_105 (by decide) ?_
        exact hk77 y1 y2 y3 y5 r24 v30 Ma Fo3_26 Sc3_27 Se3_25 Tr3_28 _ _ _ hP hD hS (lv_sub hl [2, 3, 4, 5, 6, 1, 0] rfl) hf
  have h77 : ∀ (k42 : Int32 → Int32 → Int32 → Int32 → Int32 → ST → ST → ST → ST → ST → Option (Int32 × ST × ST × ST × ST × ST)), (∀ (y1 : Int32) (y2 : Int32) (y3 : Int32) (y4 : Int32) (y5 : Int32) (Ma : ST) (Fo3 : ST) (Sc3 : ST) (Se3 : ST) (Tr3 : ST) (H : Heap) (locs : List Loc) (ls : Array Slot), va_P D vwCl ((kX7 cs x (.ref (g 0)) (.ref (g2 0)) (.ref (g3 0)) (.ref (h 0)) (.ref (t 0)) (.ref (sa 0)) Ma) ++ (kX2 cs g (.ref (b 0)) (.ref (c 0)) (.ref (d 0)) (.ref (a 0)) ) ++ (kX1 cs b  Fo) ++ (kX3 cs c  Sc) ++ (kX4 cs a (.ref (b 0)) (.ref (c 0)) (.ref (d 0)) Se) ++ (kX2 cs g3 (.ref (b3 0)) (.ref (c3 0)) (.ref (d3 0)) (.ref (a3 0)) ) ++ (kX1 cs b3  Fo3) ++ (kX3 cs c3  Sc3) ++ (kX4 cs a3 (.ref (b3 0)) (.ref (c3 0)) (.ref (d3 0)) Se3) ++ (kX4 cs d3 (.ref (b3 0)) (.ref (c3 0)) .null Tr3)) H → va_D A ((kX7 cs x (.ref (g 0)) (.ref (g2 0)) (.ref (g3 0)) (.ref (h 0)) (.ref (t 0)) (.ref (sa 0)) Ma) ++ (kX2 cs g (.ref (b 0)) (.ref (c 0)) (.ref (d 0)) (.ref (a 0)) ) ++ (kX1 cs b  Fo) ++ (kX3 cs c  Sc) ++ (kX4 cs a (.ref (b 0)) (.ref (c 0)) (.ref (d 0)) Se) ++ (kX2 cs g3 (.ref (b3 0)) (.ref (c3 0)) (.ref (d3 0)) (.ref (a3 0)) ) ++ (kX1 cs b3  Fo3) ++ (kX3 cs c3  Sc3) ++ (kX4 cs a3 (.ref (b3 0)) (.ref (c3 0)) (.ref (d3 0)) Se3) ++ (kX4 cs d3 (.ref (b3 0)) (.ref (c3 0)) .null Tr3)) → va_S A s.heap H locs → lv_has ls 8 [(0, .ref (x 0)), (1, .int y1), (2, .int y2), (3, .int y3), (4, .int y4), (5, .int y5)] → k42 y1 y2 y3 y4 y5 Ma Fo3 Sc3 Se3 Tr3 = some (r0, Maz, Fo3z, Sc3z, Se3z, Tr3z) → W p l e rmX7_odds s m [.ref (x 0), .int x1, .int x2].toArray below meth c H locs 0 0 Q (F0 m 42 ls [])) → ∀ (n : Nat), ∀ (y1 : Int32) (y2 : Int32) (y3 : Int32) (y5 : Int32) (y6 : Int32) (y7 : Int32) (Ma : ST) (Fo3 : ST) (Sc3 : ST) (Se3 : ST) (Tr3 : ST) (H : Heap) (locs : List Loc) (ls : Array Slot), va_P D vwCl ((kX7 cs x (.ref (g 0)) (.ref (g2 0)) (.ref (g3 0)) (.ref (h 0)) (.ref (t 0)) (.ref (sa 0)) Ma) ++ (kX2 cs g (.ref (b 0)) (.ref (c 0)) (.ref (d 0)) (.ref (a 0)) ) ++ (kX1 cs b  Fo) ++ (kX3 cs c  Sc) ++ (kX4 cs a (.ref (b 0)) (.ref (c 0)) (.ref (d 0)) Se) ++ (kX2 cs g3 (.ref (b3 0)) (.ref (c3 0)) (.ref (d3 0)) (.ref (a3 0)) ) ++ (kX1 cs b3  Fo3) ++ (kX3 cs c3  Sc3) ++ (kX4 cs a3 (.ref (b3 0)) (.ref (c3 0)) (.ref (d3 0)) Se3) ++ (kX4 cs d3 (.ref (b3 0)) (.ref (c3 0)) .null Tr3)) H → va_D A ((kX7 cs x (.ref (g 0)) (.ref (g2 0)) (.ref (g3 0)) (.ref (h 0)) (.ref (t 0)) (.ref (sa 0)) Ma) ++ (kX2 cs g (.ref (b 0)) (.ref (c 0)) (.ref (d 0)) (.ref (a 0)) ) ++ (kX1 cs b  Fo) ++ (kX3 cs c  Sc) ++ (kX4 cs a (.ref (b 0)) (.ref (c 0)) (.ref (d 0)) Se) ++ (kX2 cs g3 (.ref (b3 0)) (.ref (c3 0)) (.ref (d3 0)) (.ref (a3 0)) ) ++ (kX1 cs b3  Fo3) ++ (kX3 cs c3  Sc3) ++ (kX4 cs a3 (.ref (b3 0)) (.ref (c3 0)) (.ref (d3 0)) Se3) ++ (kX4 cs d3 (.ref (b3 0)) (.ref (c3 0)) .null Tr3)) → va_S A s.heap H locs → lv_has ls 8 [(0, .ref (x 0)), (1, .int y1), (2, .int y2), (3, .int y3), (5, .int y5), (6, .int y6), (7, .int y7)] → fX7_odds_77 Fo Sc Se k42 n y1 y2 y3 y5 y6 y7 Ma Fo3 Sc3 Se3 Tr3 = some (r0, Maz, Fo3z, Sc3z, Se3z, Tr3z) → W p l e rmX7_odds s m [.ref (x 0), .int x1, .int x2].toArray below meth c H locs 0 0 Q (F0 m 77 ls []) := by
    intro k42 hk42 n
    induction n with
    | zero => intro y1 y2 y3 y5 y6 y7 Ma Fo3 Sc3 Se3 Tr3 H locs ls hP hD hS hl hf; exact no_el hf
    | succ n ih => intro y1 y2 y3 y5 y6 y7 Ma Fo3 Sc3 Se3 Tr3 H locs ls hP hD hS hl hf; exact hs77 k42 hk42 _ ih y1 y2 y3 y5 y6 y7 Ma Fo3 Sc3 Se3 Tr3 _ _ _ hP hD hS hl hf
  have hs42 : ∀ (k42 : Int32 → Int32 → Int32 → Int32 → Int32 → ST → ST → ST → ST → ST → Option (Int32 × ST × ST × ST × ST × ST)), (∀ (y1 : Int32) (y2 : Int32) (y3 : Int32) (y4 : Int32) (y5 : Int32) (Ma : ST) (Fo3 : ST) (Sc3 : ST) (Se3 : ST) (Tr3 : ST) (H : Heap) (locs : List Loc) (ls : Array Slot), va_P D vwCl ((kX7 cs x (.ref (g 0)) (.ref (g2 0)) (.ref (g3 0)) (.ref (h 0)) (.ref (t 0)) (.ref (sa 0)) Ma) ++ (kX2 cs g (.ref (b 0)) (.ref (c 0)) (.ref (d 0)) (.ref (a 0)) ) ++ (kX1 cs b  Fo) ++ (kX3 cs c  Sc) ++ (kX4 cs a (.ref (b 0)) (.ref (c 0)) (.ref (d 0)) Se) ++ (kX2 cs g3 (.ref (b3 0)) (.ref (c3 0)) (.ref (d3 0)) (.ref (a3 0)) ) ++ (kX1 cs b3  Fo3) ++ (kX3 cs c3  Sc3) ++ (kX4 cs a3 (.ref (b3 0)) (.ref (c3 0)) (.ref (d3 0)) Se3) ++ (kX4 cs d3 (.ref (b3 0)) (.ref (c3 0)) .null Tr3)) H → va_D A ((kX7 cs x (.ref (g 0)) (.ref (g2 0)) (.ref (g3 0)) (.ref (h 0)) (.ref (t 0)) (.ref (sa 0)) Ma) ++ (kX2 cs g (.ref (b 0)) (.ref (c 0)) (.ref (d 0)) (.ref (a 0)) ) ++ (kX1 cs b  Fo) ++ (kX3 cs c  Sc) ++ (kX4 cs a (.ref (b 0)) (.ref (c 0)) (.ref (d 0)) Se) ++ (kX2 cs g3 (.ref (b3 0)) (.ref (c3 0)) (.ref (d3 0)) (.ref (a3 0)) ) ++ (kX1 cs b3  Fo3) ++ (kX3 cs c3  Sc3) ++ (kX4 cs a3 (.ref (b3 0)) (.ref (c3 0)) (.ref (d3 0)) Se3) ++ (kX4 cs d3 (.ref (b3 0)) (.ref (c3 0)) .null Tr3)) → va_S A s.heap H locs → lv_has ls 8 [(0, .ref (x 0)), (1, .int y1), (2, .int y2), (3, .int y3), (4, .int y4), (5, .int y5)] → k42 y1 y2 y3 y4 y5 Ma Fo3 Sc3 Se3 Tr3 = some (r0, Maz, Fo3z, Sc3z, Se3z, Tr3z) → W p l e rmX7_odds s m [.ref (x 0), .int x1, .int x2].toArray below meth c H locs 0 0 Q (F0 m 42 ls [])) → ∀ (y1 : Int32) (y2 : Int32) (y3 : Int32) (y4 : Int32) (y5 : Int32) (Ma : ST) (Fo3 : ST) (Sc3 : ST) (Se3 : ST) (Tr3 : ST) (H : Heap) (locs : List Loc) (ls : Array Slot), va_P D vwCl ((kX7 cs x (.ref (g 0)) (.ref (g2 0)) (.ref (g3 0)) (.ref (h 0)) (.ref (t 0)) (.ref (sa 0)) Ma) ++ (kX2 cs g (.ref (b 0)) (.ref (c 0)) (.ref (d 0)) (.ref (a 0)) ) ++ (kX1 cs b  Fo) ++ (kX3 cs c  Sc) ++ (kX4 cs a (.ref (b 0)) (.ref (c 0)) (.ref (d 0)) Se) ++ (kX2 cs g3 (.ref (b3 0)) (.ref (c3 0)) (.ref (d3 0)) (.ref (a3 0)) ) ++ (kX1 cs b3  Fo3) ++ (kX3 cs c3  Sc3) ++ (kX4 cs a3 (.ref (b3 0)) (.ref (c3 0)) (.ref (d3 0)) Se3) ++ (kX4 cs d3 (.ref (b3 0)) (.ref (c3 0)) .null Tr3)) H → va_D A ((kX7 cs x (.ref (g 0)) (.ref (g2 0)) (.ref (g3 0)) (.ref (h 0)) (.ref (t 0)) (.ref (sa 0)) Ma) ++ (kX2 cs g (.ref (b 0)) (.ref (c 0)) (.ref (d 0)) (.ref (a 0)) ) ++ (kX1 cs b  Fo) ++ (kX3 cs c  Sc) ++ (kX4 cs a (.ref (b 0)) (.ref (c 0)) (.ref (d 0)) Se) ++ (kX2 cs g3 (.ref (b3 0)) (.ref (c3 0)) (.ref (d3 0)) (.ref (a3 0)) ) ++ (kX1 cs b3  Fo3) ++ (kX3 cs c3  Sc3) ++ (kX4 cs a3 (.ref (b3 0)) (.ref (c3 0)) (.ref (d3 0)) Se3) ++ (kX4 cs d3 (.ref (b3 0)) (.ref (c3 0)) .null Tr3)) → va_S A s.heap H locs → lv_has ls 8 [(0, .ref (x 0)), (1, .int y1), (2, .int y2), (3, .int y3), (4, .int y4), (5, .int y5)] → fX7_odds_42_s Fo Sc Se k42 y1 y2 y3 y4 y5 Ma Fo3 Sc3 Se3 Tr3 = some (r0, Maz, Fo3z, Sc3z, Se3z, Tr3z) → W p l e rmX7_odds s m [.ref (x 0), .int x1, .int x2].toArray below meth c H locs 0 0 Q (F0 m 42 ls []) := by
    intro k42 hk42 y1 y2 y3 y4 y5 Ma Fo3 Sc3 Se3 Tr3 H locs ls hP hD hS hl hf
    unfold fX7_odds_42_s at hf
    refine lv_iload hx hb dX7_odds_42 (lv_at hl 5 rfl) ?_
    refine lv_iload_n hx hb dX7_odds_44 rfl (lv_at hl 2 rfl) ?_
    refine lv_icmp_ge (tgt := 148) hx hb dX7_odds_45 (by decide) (fun hc11 => ?_) (fun hc11 => ?_)
    · have hf := ip_el hc11 hf
      refine lv_iload_n hx hb dX7_odds_148 rfl (lv_at hl 3 rfl) ?_
      have he := Option.some.inj hf
      obtain ⟨e0, ht0⟩ := Prod.mk.inj he
      obtain ⟨e1, ht1⟩ := Prod.mk.inj ht0
      obtain ⟨e2, ht2⟩ := Prod.mk.inj ht1
      obtain ⟨e3, ht3⟩ := Prod.mk.inj ht2
      obtain ⟨e4, e5⟩ := Prod.mk.inj ht3
      exact hri _ _ _ rfl (congrArg (fun z => some (Value.int z)) e0.symm) dX7_odds_149 _ _ _ (by rw [e1, e2, e3, e4, e5]) hP hD hS
    · have hf := in_el hc11 hf
      refine lv_aload_n hx hb dX7_odds_48 rfl (lv_at hl 0 rfl) ?_
      refine va_get (D := D) (ci := 7) (v := .ref (g3 0)) (C := RX7) (T := TX7) (N := 8) hx hb hu inX7 hown hK.1 hP 0 rfl rfl 2 (by decide) (hu _ q302) (fun _ h9 => h9) rfl dX7_odds_49 ?_
      refine lv_aload_n hx hb dX7_odds_52 rfl (lv_at hl 0 rfl) ?_
      refine va_get (D := D) (ci := 7) (v := .ref (g 0)) (C := RX7) (T := TX7) (N := 8) hx hb hu inX7 hown hK.1 hP 0 rfl rfl 0 (by decide) (hu _ q300) (fun _ h9 => h9) rfl dX7_odds_53 ?_
      obtain ⟨Fo3_12, Sc3_13, Se3_14, hg15, hf⟩ := b3_el hf
      refine cc_V (w' := ((kX7 cs x (.ref (g 0)) (.ref (g2 0)) (.ref (g3 0)) (.ref (h 0)) (.ref (t 0)) (.ref (sa 0)) Ma) ++ (kX2 cs g (.ref (b 0)) (.ref (c 0)) (.ref (d 0)) (.ref (a 0)) ) ++ (kX1 cs b  Fo) ++ (kX3 cs c  Sc) ++ (kX4 cs a (.ref (b 0)) (.ref (c 0)) (.ref (d 0)) Se) ++ (kX2 cs g3 (.ref (b3 0)) (.ref (c3 0)) (.ref (d3 0)) (.ref (a3 0)) ) ++ (kX1 cs b3  Fo3_12) ++ (kX3 cs c3  Sc3_13) ++ (kX4 cs a3 (.ref (b3 0)) (.ref (c3 0)) (.ref (d3 0)) Se3_14) ++ (kX4 cs d3 (.ref (b3 0)) (.ref (c3 0)) .null Tr3))) (wr := ((kX7 cs x (.ref (g 0)) (.ref (g2 0)) (.ref (g3 0)) (.ref (h 0)) (.ref (t 0)) (.ref (sa 0)) Ma) ++ (kX4 cs d3 (.ref (b3 0)) (.ref (c3 0)) .null Tr3))) (st1 := []) [.ref (g 0)] hx hb hml hown hu (tX2_takeFrom l D cs g3 b3 c3 (.ref (d3 0)) a3 (.ref (b3 0)) (.ref (c3 0)) (.ref (d3 0)) g b c (.ref (d 0)) a (.ref (b 0)) (.ref (c 0)) (.ref (d 0)) Fo3 Sc3 Se3 Fo Sc Se Fo3_12 Sc3_13 Se3_14 hg15) q658 q55 q655 q656 q657 pdX2_takeFrom ⟨rfl, rfl, Nat.le_of_ble_eq_true rfl, Nat.le_of_ble_eq_true rfl⟩ hK hZ hP hD hS hA [17, 18, 19, 20, 21, 22, 23, 24, 25, 26, 27, 28, 29, 30, 31, 2, 3, 4, 5, 6, 7, 8, 9, 10, 11, 12, 13, 14, 15, 16] [0, 1, 32, 33, 34, 35] [0, 1, 21, 22, 23, 24, 25, 26, 27, 28, 29, 30, 31, 32, 33, 34, 35, 6, 7, 8, 9, 10, 11, 12, 13, 14, 15, 16, 17, 18, 19, 20, 2, 3, 4, 5] rfl rfl rfl rfl rfl rfl rfl rfl rfl rfl hl.1 rfl (Nat.le_of_ble_eq_true rfl) dX7_odds_56 rfl (fun H locs hP hD hS => ?_)
      refine lv_aload_n hx hb dX7_odds_59 rfl (lv_at hl 0 rfl) ?_
      refine va_get (D := D) (ci := 7) (v := .ref (g3 0)) (C := RX7) (T := TX7) (N := 8) hx hb hu inX7 hown hK.1 hP 0 rfl rfl 2 (by decide) (hu _ q302) (fun _ h9 => h9) rfl dX7_odds_60 ?_
      refine va_get (D := D) (ci := 2) (v := .ref (b3 0)) (C := RX2) (T := TX2) (N := 4) hx hb hu inX2 hown hK.1 hP 17 rfl rfl 0 (by decide) (hu _ q196) (fun _ h9 => h9) rfl dX7_odds_63 ?_
      refine lv_iload hx hb dX7_odds_66 (lv_at hl 4 rfl) ?_
      obtain ⟨Fo3_16, hFo3_16, hf⟩ := lt_el hf
      refine va_put (D := D) (ci := 1) (v := .int y4) (ty := .int) (C := RX1) (T := TX1) (N := 9) hx hb hu inX1 tyX1 tyX1_ok nmX1 hown hK.1 hP hD hS 18 rfl rfl 8 (by decide) (hu _ q113) (fun _ h9 => h9) rfl (by decide +kernel) rfl rfl (Nat.le_of_ble_eq_true rfl) dX7_odds_68 (fun H locs hP hD hS => ?_)
      have hP : va_P D vwCl ((kX7 cs x (.ref (g 0)) (.ref (g2 0)) (.ref (g3 0)) (.ref (h 0)) (.ref (t 0)) (.ref (sa 0)) Ma) ++ (kX2 cs g (.ref (b 0)) (.ref (c 0)) (.ref (d 0)) (.ref (a 0)) ) ++ (kX1 cs b  Fo) ++ (kX3 cs c  Sc) ++ (kX4 cs a (.ref (b 0)) (.ref (c 0)) (.ref (d 0)) Se) ++ (kX2 cs g3 (.ref (b3 0)) (.ref (c3 0)) (.ref (d3 0)) (.ref (a3 0)) ) ++ (kX1 cs b3  Fo3_16) ++ (kX3 cs c3  Sc3_13) ++ (kX4 cs a3 (.ref (b3 0)) (.ref (c3 0)) (.ref (d3 0)) Se3_14) ++ (kX4 cs d3 (.ref (b3 0)) (.ref (c3 0)) .null Tr3)) H := by rw [hFo3_16]; exact hP
      have hD : va_D A ((kX7 cs x (.ref (g 0)) (.ref (g2 0)) (.ref (g3 0)) (.ref (h 0)) (.ref (t 0)) (.ref (sa 0)) Ma) ++ (kX2 cs g (.ref (b 0)) (.ref (c 0)) (.ref (d 0)) (.ref (a 0)) ) ++ (kX1 cs b  Fo) ++ (kX3 cs c  Sc) ++ (kX4 cs a (.ref (b 0)) (.ref (c 0)) (.ref (d 0)) Se) ++ (kX2 cs g3 (.ref (b3 0)) (.ref (c3 0)) (.ref (d3 0)) (.ref (a3 0)) ) ++ (kX1 cs b3  Fo3_16) ++ (kX3 cs c3  Sc3_13) ++ (kX4 cs a3 (.ref (b3 0)) (.ref (c3 0)) (.ref (d3 0)) Se3_14) ++ (kX4 cs d3 (.ref (b3 0)) (.ref (c3 0)) .null Tr3)) := by rw [hFo3_16]; exact hD
      refine lv_iconst (v := 0) hx hb dX7_odds_71 (by decide) ?_
      refine lv_istore (lv' := [(6, .int 0), (0, .ref (x 0)), (1, .int y1), (2, .int y2), (3, .int y3), (4, .int y4), (5, .int y5)]) hx hb dX7_odds_72 hl (by decide) rfl (fun ls hl => ?_)
      refine lv_iconst (v := 0) hx hb dX7_odds_74 (by decide) ?_
      refine lv_istore (lv' := [(7, .int 0), (6, .int 0), (0, .ref (x 0)), (1, .int y1), (2, .int y2), (3, .int y3), (4, .int y4), (5, .int y5)]) hx hb dX7_odds_75 hl (by decide) rfl (fun ls hl => ?_)
      exact h77 k42 hk42 400 y1 y2 y3 y5 0 0 Ma Fo3_16 Sc3_13 Se3_14 Tr3 _ _ _ hP hD hS (lv_sub hl [2, 3, 4, 5, 7, 1, 0] rfl) hf
  have h42 : ∀ (n : Nat), ∀ (y1 : Int32) (y2 : Int32) (y3 : Int32) (y4 : Int32) (y5 : Int32) (Ma : ST) (Fo3 : ST) (Sc3 : ST) (Se3 : ST) (Tr3 : ST) (H : Heap) (locs : List Loc) (ls : Array Slot), va_P D vwCl ((kX7 cs x (.ref (g 0)) (.ref (g2 0)) (.ref (g3 0)) (.ref (h 0)) (.ref (t 0)) (.ref (sa 0)) Ma) ++ (kX2 cs g (.ref (b 0)) (.ref (c 0)) (.ref (d 0)) (.ref (a 0)) ) ++ (kX1 cs b  Fo) ++ (kX3 cs c  Sc) ++ (kX4 cs a (.ref (b 0)) (.ref (c 0)) (.ref (d 0)) Se) ++ (kX2 cs g3 (.ref (b3 0)) (.ref (c3 0)) (.ref (d3 0)) (.ref (a3 0)) ) ++ (kX1 cs b3  Fo3) ++ (kX3 cs c3  Sc3) ++ (kX4 cs a3 (.ref (b3 0)) (.ref (c3 0)) (.ref (d3 0)) Se3) ++ (kX4 cs d3 (.ref (b3 0)) (.ref (c3 0)) .null Tr3)) H → va_D A ((kX7 cs x (.ref (g 0)) (.ref (g2 0)) (.ref (g3 0)) (.ref (h 0)) (.ref (t 0)) (.ref (sa 0)) Ma) ++ (kX2 cs g (.ref (b 0)) (.ref (c 0)) (.ref (d 0)) (.ref (a 0)) ) ++ (kX1 cs b  Fo) ++ (kX3 cs c  Sc) ++ (kX4 cs a (.ref (b 0)) (.ref (c 0)) (.ref (d 0)) Se) ++ (kX2 cs g3 (.ref (b3 0)) (.ref (c3 0)) (.ref (d3 0)) (.ref (a3 0)) ) ++ (kX1 cs b3  Fo3) ++ (kX3 cs c3  Sc3) ++ (kX4 cs a3 (.ref (b3 0)) (.ref (c3 0)) (.ref (d3 0)) Se3) ++ (kX4 cs d3 (.ref (b3 0)) (.ref (c3 0)) .null Tr3)) → va_S A s.heap H locs → lv_has ls 8 [(0, .ref (x 0)), (1, .int y1), (2, .int y2), (3, .int y3), (4, .int y4), (5, .int y5)] → fX7_odds_42 Fo Sc Se n y1 y2 y3 y4 y5 Ma Fo3 Sc3 Se3 Tr3 = some (r0, Maz, Fo3z, Sc3z, Se3z, Tr3z) → W p l e rmX7_odds s m [.ref (x 0), .int x1, .int x2].toArray below meth c H locs 0 0 Q (F0 m 42 ls []) := by
    intro n
    induction n with
    | zero => intro y1 y2 y3 y4 y5 Ma Fo3 Sc3 Se3 Tr3 H locs ls hP hD hS hl hf; exact no_el hf
    | succ n ih => intro y1 y2 y3 y4 y5 Ma Fo3 Sc3 Se3 Tr3 H locs ls hP hD hS hl hf; exact hs42 _ ih y1 y2 y3 y4 y5 Ma Fo3 Sc3 Se3 Tr3 _ _ _ hP hD hS hl hf
  have hl : lv_has ls0 8 [(0, .ref (x 0)), (1, .int x1), (2, .int x2)] := hl0
  have hP := hP0
  have hD := hD0
  have hS := hS0
  unfold fX7_odds at hf
  refine lv_aload_n hx hb dX7_odds_0 rfl (lv_at hl 0 rfl) ?_
  refine lv_iload_n hx hb dX7_odds_1 rfl (lv_at hl 1 rfl) ?_
  obtain ⟨r1, hg2, hf⟩ := b1_el hf
  refine cc_V (w' := ((kX7 cs x (.ref (g 0)) (.ref (g2 0)) (.ref (g3 0)) (.ref (h 0)) (.ref (t 0)) (.ref (sa 0)) Ma) ++ (kX2 cs g (.ref (b 0)) (.ref (c 0)) (.ref (d 0)) (.ref (a 0)) ) ++ (kX1 cs b  Fo) ++ (kX3 cs c  Sc) ++ (kX4 cs a (.ref (b 0)) (.ref (c 0)) (.ref (d 0)) Se) ++ (kX2 cs g3 (.ref (b3 0)) (.ref (c3 0)) (.ref (d3 0)) (.ref (a3 0)) ) ++ (kX1 cs b3  Fo3) ++ (kX3 cs c3  Sc3) ++ (kX4 cs a3 (.ref (b3 0)) (.ref (c3 0)) (.ref (d3 0)) Se3) ++ (kX4 cs d3 (.ref (b3 0)) (.ref (c3 0)) .null Tr3))) (wr := ((kX3 cs c  Sc) ++ (kX4 cs a (.ref (b 0)) (.ref (c 0)) (.ref (d 0)) Se) ++ (kX2 cs g3 (.ref (b3 0)) (.ref (c3 0)) (.ref (d3 0)) (.ref (a3 0)) ) ++ (kX1 cs b3  Fo3) ++ (kX3 cs c3  Sc3) ++ (kX4 cs a3 (.ref (b3 0)) (.ref (c3 0)) (.ref (d3 0)) Se3) ++ (kX4 cs d3 (.ref (b3 0)) (.ref (c3 0)) .null Tr3))) (st1 := [.int r1]) [.int x1] hx hb hml hown hu (tX7_isOne l D cs x g g2 g3 h t sa b c d a x1 Ma Fo r1 hg2) q352 q54 q349 q351 q1 pdX7_isOne ⟨rfl, rfl, Nat.le_of_ble_eq_true rfl, Nat.le_of_ble_eq_true rfl⟩ hK hZ hP hD hS hA [0, 1, 2, 3, 4, 5, 6, 7, 8, 9] [10, 11, 12, 13, 14, 15, 16, 17, 18, 19, 20, 21, 22, 23, 24, 25, 26, 27, 28, 29, 30, 31, 32, 33, 34, 35] [26, 27, 28, 29, 30, 31, 32, 33, 34, 35, 0, 1, 2, 3, 4, 5, 6, 7, 8, 9, 10, 11, 12, 13, 14, 15, 16, 17, 18, 19, 20, 21, 22, 23, 24, 25] rfl rfl rfl rfl rfl rfl rfl rfl rfl rfl hl.1 rfl (Nat.le_of_ble_eq_true rfl) dX7_odds_2 rfl (fun H locs hP hD hS => ?_)
  refine lv_if_eq (tgt := 18) hx hb dX7_odds_5 (by decide) (fun hc3 => ?_) (fun hc3 => ?_)
  · have hf := ip_el hc3 hf
    exact h18 Ma Fo3 Sc3 Se3 Tr3 _ _ _ hP hD hS (lv_sub hl [0] rfl) hf
  · have hf := in_el hc3 hf
    refine lv_iload_n hx hb dX7_odds_8 rfl (lv_at hl 2 rfl) ?_
    refine lv_iconst (v := 1) hx hb dX7_odds_9 (by decide) ?_
    refine lv_bipush (v := 40) hx hb dX7_odds_10 (by decide) ?_
    obtain ⟨r7, hg8, hf⟩ := b1_el hf
    refine cc_S0 (st1 := [.int r7]) [.int x2, .int 1, .int 40] hx hb hml hown hu (tX7_within l D cs x2 1 40 r7 hg8) q331 q54 q329 q330 pdX7_within ⟨rfl, rfl, Nat.le_of_ble_eq_true rfl, Nat.le_of_ble_eq_true rfl⟩ hK hZ hP hD hS hA rfl hl.1 rfl (Nat.le_of_ble_eq_true rfl) dX7_odds_12 rfl (fun H locs hP hD hS => ?_)
    refine lv_if_ne (tgt := 25) hx hb dX7_odds_15 (by decide) (fun hc9 => ?_) (fun hc9 => ?_)
    · have hf := in_el hc9 hf
      refine lv_iconst (v := 0) hx hb dX7_odds_25 (by decide) ?_
      refine lv_istore_n (lv' := [(3, .int 0), (0, .ref (x 0)), (1, .int x1), (2, .int x2)]) hx hb dX7_odds_26 rfl hl (by decide) rfl (fun ls hl => ?_)
      refine lv_aload_n hx hb dX7_odds_27 rfl (lv_at hl 1 rfl) ?_
      refine va_get (D := D) (ci := 7) (v := .ref (g 0)) (C := RX7) (T := TX7) (N := 8) hx hb hu inX7 hown hK.1 hP 0 rfl rfl 0 (by decide) (hu _ q300) (fun _ h9 => h9) rfl dX7_odds_28 ?_
      refine va_get (D := D) (ci := 2) (v := .ref (b 0)) (C := RX2) (T := TX2) (N := 4) hx hb hu inX2 hown hK.1 hP 2 rfl rfl 0 (by decide) (hu _ q196) (fun _ h9 => h9) rfl dX7_odds_31 ?_
      refine va_get (D := D) (ci := 1) (v := .int (Fo 0 8)) (C := RX1) (T := TX1) (N := 9) hx hb hu inX1 hown hK.1 hP 3 rfl rfl 8 (by decide) (hu _ q113) (fun _ h9 => h9) rfl dX7_odds_34 ?_
      obtain ⟨v10, hv10, hf⟩ := lt_el hf
      refine lv_tope hv10 ?_
      refine lv_istore (lv' := [(4, .int v10), (3, .int 0), (0, .ref (x 0)), (1, .int x1), (2, .int x2)]) hx hb dX7_odds_37 hl (by decide) rfl (fun ls hl => ?_)
      refine lv_iconst (v := 0) hx hb dX7_odds_39 (by decide) ?_
      refine lv_istore (lv' := [(5, .int 0), (4, .int v10), (3, .int 0), (0, .ref (x 0)), (1, .int x1), (2, .int x2)]) hx hb dX7_odds_40 hl (by decide) rfl (fun ls hl => ?_)
      exact h42 400 x1 x2 0 v10 0 Ma Fo3 Sc3 Se3 Tr3 _ _ _ hP hD hS (lv_sub hl [3, 4, 5, 2, 1, 0] rfl) hf
    · have hf := ip_el hc9 hf
      exact h18 Ma Fo3 Sc3 Se3 Tr3 _ _ _ hP hD hS (lv_sub hl [0] rfl) hf

def fX7_feed_41_s (k41 : Int32 → Int32 → ST → ST → Option (Int32 × ST × ST)) (y1 : Int32) (y3 : Int32) (Ma : ST) (Ta : ST) : Option (Int32 × ST × ST) :=
  (if y3 < 0 then some ((Ta 0 2), Ma, Ta) else dc_b1 (fX6_put ((dc_ushr y1 (8 * y3)) &&& 255) Ta) (fun Ta_7 => dc_lt (y3 + (-1)) (fun v9 => k41 y1 v9 Ma Ta_7)))
def fX7_feed_41 : Nat → Int32 → Int32 → ST → ST → Option (Int32 × ST × ST)
  | 0 => fun _ _ _ _ => none
  | n + 1 => fX7_feed_41_s (fX7_feed_41 n)
def fX7_feed (x1 : Int32) (x2 : Int32) (Ma : ST) (Ta : ST) : Option (Int32 × ST × ST) :=
  dc_b1 (fX7_within x2 1 4) (fun r1 => (if r1 = 0 then dc_b2 (fX7_finding (-1000000001) Ma) (fun r13 Ma_14 => some (r13, Ma_14, Ta)) else (if ((Ta 0 2) + x2) ≤ 80 then dc_lt (x2 - 1) (fun v5 => fX7_feed_41 400 x1 v5 Ma Ta) else dc_b2 (fX7_finding (-1000000002) Ma) (fun r10 Ma_11 => some (r10, Ma_11, Ta)))))
abbrev rmX7_feed : Room := { frames := 1, cells := 0, slots := 0, locals := 22 }
set_option maxRecDepth 100000 in
set_option maxHeartbeats 4000000 in
theorem tX7_feed (l : Launch) (D : va_G) (cs : Nat → ClassId) (x : Nat → Nat) (g : Nat → Nat) (g2 : Nat → Nat) (g3 : Nat → Nat) (h : Nat → Nat) (t : Nat → Nat) (sa : Nat → Nat) (dr : Nat → Nat) (x1 : Int32) (x2 : Int32) (Ma : ST) (Ta : ST) (r0 : Int32) (Maz : ST) (Taz : ST) (hf : fX7_feed x1 x2 Ma Ta = some (r0, Maz, Taz)) : CG l yX7_feed (wsm yX7_feed cX7_feed 4 (some .int)) rmX7_feed D cs [.ref (x 0), .int x1, .int x2] (some (.int r0)) ((kX7 cs x (.ref (g 0)) (.ref (g2 0)) (.ref (g3 0)) (.ref (h 0)) (.ref (t 0)) (.ref (sa 0)) Ma) ++ (kX6 cs t (.ref (dr 0)) Ta)) ((kX7 cs x (.ref (g 0)) (.ref (g2 0)) (.ref (g3 0)) (.ref (h 0)) (.ref (t 0)) (.ref (sa 0)) Maz) ++ (kX6 cs t (.ref (dr 0)) Taz)) := by
  refine CG.intro (by decide) (Nat.le_of_ble_eq_true rfl) ?_
  intro p e s m below meth c A Q hx hb hml hown hu hK hZ hP0 hD0 hS0 hA hri hrz hrl hrv hra ls0 hl0
  have hs41 : ∀ (k41 : Int32 → Int32 → ST → ST → Option (Int32 × ST × ST)), (∀ (y1 : Int32) (y3 : Int32) (Ma : ST) (Ta : ST) (H : Heap) (locs : List Loc) (ls : Array Slot), va_P D vwCl ((kX7 cs x (.ref (g 0)) (.ref (g2 0)) (.ref (g3 0)) (.ref (h 0)) (.ref (t 0)) (.ref (sa 0)) Ma) ++ (kX6 cs t (.ref (dr 0)) Ta)) H → va_D A ((kX7 cs x (.ref (g 0)) (.ref (g2 0)) (.ref (g3 0)) (.ref (h 0)) (.ref (t 0)) (.ref (sa 0)) Ma) ++ (kX6 cs t (.ref (dr 0)) Ta)) → va_S A s.heap H locs → lv_has ls 4 [(0, .ref (x 0)), (1, .int y1), (3, .int y3)] → k41 y1 y3 Ma Ta = some (r0, Maz, Taz) → W p l e rmX7_feed s m [.ref (x 0), .int x1, .int x2].toArray below meth c H locs 0 0 Q (F0 m 41 ls [])) → ∀ (y1 : Int32) (y3 : Int32) (Ma : ST) (Ta : ST) (H : Heap) (locs : List Loc) (ls : Array Slot), va_P D vwCl ((kX7 cs x (.ref (g 0)) (.ref (g2 0)) (.ref (g3 0)) (.ref (h 0)) (.ref (t 0)) (.ref (sa 0)) Ma) ++ (kX6 cs t (.ref (dr 0)) Ta)) H → va_D A ((kX7 cs x (.ref (g 0)) (.ref (g2 0)) (.ref (g3 0)) (.ref (h 0)) (.ref (t 0)) (.ref (sa 0)) Ma) ++ (kX6 cs t (.ref (dr 0)) Ta)) → va_S A s.heap H locs → lv_has ls 4 [(0, .ref (x 0)), (1, .int y1), (3, .int y3)] → fX7_feed_41_s k41 y1 y3 Ma Ta = some (r0, Maz, Taz) → W p l e rmX7_feed s m [.ref (x 0), .int x1, .int x2].toArray below meth c H locs 0 0 Q (F0 m 41 ls []) := by
    intro k41 hk41 y1 y3 Ma Ta H locs ls hP hD hS hl hf
    unfold fX7_feed_41_s at hf
    refine lv_iload_n hx hb dX7_feed_41 rfl (lv_at hl 2 rfl) ?_
    refine lv_if_lt (tgt := 68) hx hb dX7_feed_42 (by decide) (fun hc6 => ?_) (fun hc6 => ?_)
    · have hf := ip_el hc6 hf
      refine lv_aload_n hx hb dX7_feed_68 rfl (lv_at hl 0 rfl) ?_
      refine va_get (D := D) (ci := 7) (v := .ref (t 0)) (C := RX7) (T := TX7) (N := 8) hx hb hu inX7 hown hK.1 hP 0 rfl rfl 4 (by decide) (hu _ q304) (fun _ h9 => h9) rfl dX7_feed_69 ?_
      refine va_get (D := D) (ci := 6) (v := .int (Ta 0 2)) (C := RX6) (T := TX6) (N := 5) hx hb hu inX6 hown hK.1 hP 2 rfl rfl 2 (by decide) (hu _ q263) (fun _ h9 => h9) rfl dX7_feed_72 ?_
      have he := Option.some.inj hf
      obtain ⟨e0, ht0⟩ := Prod.mk.inj he
      obtain ⟨e1, e2⟩ := Prod.mk.inj ht0
      exact hri _ _ _ rfl (congrArg (fun z => some (Value.int z)) e0.symm) dX7_feed_75 _ _ _ (by rw [e1, e2]) hP hD hS
    · have hf := in_el hc6 hf
      refine lv_aload_n hx hb dX7_feed_45 rfl (lv_at hl 0 rfl) ?_
      refine va_get (D := D) (ci := 7) (v := .ref (t 0)) (C := RX7) (T := TX7) (N := 8) hx hb hu inX7 hown hK.1 hP 0 rfl rfl 4 (by decide) (hu _ q304) (fun _ h9 => h9) rfl dX7_feed_46 ?_
      refine lv_iload_n hx hb dX7_feed_49 rfl (lv_at hl 1 rfl) ?_
      refine lv_bipush (v := 8) hx hb dX7_feed_50 (by decide) ?_
      refine lv_iload_n hx hb dX7_feed_52 rfl (lv_at hl 2 rfl) ?_
      refine lv_imul hx hb dX7_feed_53 ?_
      refine lv_iushr (v := (dc_ushr y1 (8 * y3))) hx hb dX7_feed_54 rfl ?_
      refine lv_sipush (v := 255) hx hb dX7_feed_55 (by decide) ?_
      refine lv_iand hx hb dX7_feed_58 ?_
      obtain ⟨Ta_7, hg8, hf⟩ := b1_el hf
      refine cc_V (w' := ((kX7 cs x (.ref (g 0)) (.ref (g2 0)) (.ref (g3 0)) (.ref (h 0)) (.ref (t 0)) (.ref (sa 0)) Ma) ++ (kX6 cs t (.ref (dr 0)) Ta_7))) (wr := (kX7 cs x (.ref (g 0)) (.ref (g2 0)) (.ref (g3 0)) (.ref (h 0)) (.ref (t 0)) (.ref (sa 0)) Ma)) (st1 := []) [.int ((dc_ushr y1 (8 * y3)) &&& 255)] hx hb hml hown hu (tX6_put l D cs t dr ((dc_ushr y1 (8 * y3)) &&& 255) Ta Ta_7 hg8) q677 q60 q674 q675 q676 pdX6_put ⟨rfl, rfl, Nat.le_of_ble_eq_true rfl, Nat.le_of_ble_eq_true rfl⟩ hK hZ hP hD hS hA [2, 3] [0, 1] [0, 1, 2, 3] rfl rfl rfl rfl rfl rfl rfl rfl rfl rfl hl.1 rfl (Nat.le_of_ble_eq_true rfl) dX7_feed_59 rfl (fun H locs hP hD hS => ?_)
      obtain ⟨v9, hv9, hf⟩ := lt_el hf
      refine lv_iinc (v := v9) (lv' := [(3, .int v9), (0, .ref (x 0)), (1, .int y1)]) hx hb dX7_feed_62 hl (k := 2) rfl (by rw [hv9]; rfl) (by decide) rfl (fun ls hl => ?_)
      refine lv_goto (tgt := 41) hx hb dX7_feed_65 (by decide) ?_
      exact hk41 y1 v9 Ma Ta_7 _ _ _ hP hD hS (lv_sub hl [1, 2, 0] rfl) hf
  have h41 : ∀ (n : Nat), ∀ (y1 : Int32) (y3 : Int32) (Ma : ST) (Ta : ST) (H : Heap) (locs : List Loc) (ls : Array Slot), va_P D vwCl ((kX7 cs x (.ref (g 0)) (.ref (g2 0)) (.ref (g3 0)) (.ref (h 0)) (.ref (t 0)) (.ref (sa 0)) Ma) ++ (kX6 cs t (.ref (dr 0)) Ta)) H → va_D A ((kX7 cs x (.ref (g 0)) (.ref (g2 0)) (.ref (g3 0)) (.ref (h 0)) (.ref (t 0)) (.ref (sa 0)) Ma) ++ (kX6 cs t (.ref (dr 0)) Ta)) → va_S A s.heap H locs → lv_has ls 4 [(0, .ref (x 0)), (1, .int y1), (3, .int y3)] → fX7_feed_41 n y1 y3 Ma Ta = some (r0, Maz, Taz) → W p l e rmX7_feed s m [.ref (x 0), .int x1, .int x2].toArray below meth c H locs 0 0 Q (F0 m 41 ls []) := by
    intro n
    induction n with
    | zero => intro y1 y3 Ma Ta H locs ls hP hD hS hl hf; exact no_el hf
    | succ n ih => intro y1 y3 Ma Ta H locs ls hP hD hS hl hf; exact hs41 _ ih y1 y3 Ma Ta _ _ _ hP hD hS hl hf
  have hl : lv_has ls0 4 [(0, .ref (x 0)), (1, .int x1), (2, .int x2)] := hl0
  have hP := hP0
  have hD := hD0
  have hS := hS0
  unfold fX7_feed at hf
  refine lv_iload_n hx hb dX7_feed_0 rfl (lv_at hl 2 rfl) ?_
  refine lv_iconst (v := 1) hx hb dX7_feed_1 (by decide) ?_
  refine lv_iconst (v := 4) hx hb dX7_feed_2 (by decide) ?_
  obtain ⟨r1, hg2, hf⟩ := b1_el hf
  refine cc_S0 (st1 := [.int r1]) [.int x2, .int 1, .int 4] hx hb hml hown hu (tX7_within l D cs x2 1 4 r1 hg2) q331 q54 q329 q330 pdX7_within ⟨rfl, rfl, Nat.le_of_ble_eq_true rfl, Nat.le_of_ble_eq_true rfl⟩ hK hZ hP hD hS hA rfl hl.1 rfl (Nat.le_of_ble_eq_true rfl) dX7_feed_3 rfl (fun H locs hP hD hS => ?_)
  refine lv_if_ne (tgt := 16) hx hb dX7_feed_6 (by decide) (fun hc3 => ?_) (fun hc3 => ?_)
  · have hf := in_el hc3 hf
    refine lv_aload_n hx hb dX7_feed_16 rfl (lv_at hl 0 rfl) ?_
    refine va_get (D := D) (ci := 7) (v := .ref (t 0)) (C := RX7) (T := TX7) (N := 8) hx hb hu inX7 hown hK.1 hP 0 rfl rfl 4 (by decide) (hu _ q304) (fun _ h9 => h9) rfl dX7_feed_17 ?_
    refine va_get (D := D) (ci := 6) (v := .int (Ta 0 2)) (C := RX6) (T := TX6) (N := 5) hx hb hu inX6 hown hK.1 hP 2 rfl rfl 2 (by decide) (hu _ q263) (fun _ h9 => h9) rfl dX7_feed_20 ?_
    refine lv_iload_n hx hb dX7_feed_23 rfl (lv_at hl 2 rfl) ?_
    refine lv_iadd hx hb dX7_feed_24 ?_
    refine lv_bipush (v := 80) hx hb dX7_feed_25 (by decide) ?_
    refine lv_icmp_le (tgt := 37) hx hb dX7_feed_27 (by decide) (fun hc4 => ?_) (fun hc4 => ?_)
    · have hf := ip_el hc4 hf
      refine lv_iload_n hx hb dX7_feed_37 rfl (lv_at hl 2 rfl) ?_
      refine lv_iconst (v := 1) hx hb dX7_feed_38 (by decide) ?_
      refine lv_isub hx hb dX7_feed_39 ?_
      obtain ⟨v5, hv5, hf⟩ := lt_el hf
      refine lv_tope hv5 ?_
      refine lv_istore_n (lv' := [(3, .int v5), (0, .ref (x 0)), (1, .int x1), (2, .int x2)]) hx hb dX7_feed_40 rfl hl (by decide) rfl (fun ls hl => ?_)
      exact h41 400 x1 v5 Ma Ta _ _ _ hP hD hS (lv_sub hl [1, 2, 0] rfl) hf
    · have hf := in_el hc4 hf
      refine lv_aload_n hx hb dX7_feed_30 rfl (lv_at hl 0 rfl) ?_
      refine lv_ldc (v := (-1000000002)) hx hb hown (hu _ q340) dX7_feed_31 ?_
      obtain ⟨r10, Ma_11, hg12, hf⟩ := b2_el hf
      refine cc_V (w' := ((kX7 cs x (.ref (g 0)) (.ref (g2 0)) (.ref (g3 0)) (.ref (h 0)) (.ref (t 0)) (.ref (sa 0)) Ma_11) ++ (kX6 cs t (.ref (dr 0)) Ta))) (wr := (kX6 cs t (.ref (dr 0)) Ta)) (st1 := [.int r10]) [.int (-1000000002)] hx hb hml hown hu (tX7_finding l D cs x g g2 g3 h t sa (-1000000002) Ma r10 Ma_11 hg12) q339 q54 q336 q338 q0 pdX7_finding ⟨rfl, rfl, Nat.le_of_ble_eq_true rfl, Nat.le_of_ble_eq_true rfl⟩ hK hZ hP hD hS hA [0, 1] [2, 3] [2, 3, 0, 1] rfl rfl rfl rfl rfl rfl rfl rfl rfl rfl hl.1 rfl (Nat.le_of_ble_eq_true rfl) dX7_feed_33 rfl (fun H locs hP hD hS => ?_)
      have he := Option.some.inj hf
      obtain ⟨e0, ht0⟩ := Prod.mk.inj he
      obtain ⟨e1, e2⟩ := Prod.mk.inj ht0
      exact hri _ _ _ rfl (congrArg (fun z => some (Value.int z)) e0.symm) dX7_feed_36 _ _ _ (by rw [e1, e2]) hP hD hS
  · have hf := ip_el hc3 hf
    refine lv_aload_n hx hb dX7_feed_9 rfl (lv_at hl 0 rfl) ?_
    refine lv_ldc (v := (-1000000001)) hx hb hown (hu _ q335) dX7_feed_10 ?_
    obtain ⟨r13, Ma_14, hg15, hf⟩ := b2_el hf
    refine cc_V (w' := ((kX7 cs x (.ref (g 0)) (.ref (g2 0)) (.ref (g3 0)) (.ref (h 0)) (.ref (t 0)) (.ref (sa 0)) Ma_14) ++ (kX6 cs t (.ref (dr 0)) Ta))) (wr := (kX6 cs t (.ref (dr 0)) Ta)) (st1 := [.int r13]) [.int (-1000000001)] hx hb hml hown hu (tX7_finding l D cs x g g2 g3 h t sa (-1000000001) Ma r13 Ma_14 hg15) q339 q54 q336 q338 q0 pdX7_finding ⟨rfl, rfl, Nat.le_of_ble_eq_true rfl, Nat.le_of_ble_eq_true rfl⟩ hK hZ hP hD hS hA [0, 1] [2, 3] [2, 3, 0, 1] rfl rfl rfl rfl rfl rfl rfl rfl rfl rfl hl.1 rfl (Nat.le_of_ble_eq_true rfl) dX7_feed_12 rfl (fun H locs hP hD hS => ?_)
    have he := Option.some.inj hf
    obtain ⟨e0, ht0⟩ := Prod.mk.inj he
    obtain ⟨e1, e2⟩ := Prod.mk.inj ht0
    exact hri _ _ _ rfl (congrArg (fun z => some (Value.int z)) e0.symm) dX7_feed_15 _ _ _ (by rw [e1, e2]) hP hD hS

def fX7_wipe (Ma : ST) (Ta : ST) : Option (Int32 × ST) :=
  dc_lt (Ta 0 2) (fun v1 => dc_lt (sti Ta 0 2 0) (fun Ta_2 => some (v1, Ta_2)))
abbrev rmX7_wipe : Room := { frames := 0, cells := 0, slots := 0, locals := 0 }
set_option maxRecDepth 100000 in
set_option maxHeartbeats 4000000 in
theorem tX7_wipe (l : Launch) (D : va_G) (cs : Nat → ClassId) (x : Nat → Nat) (g : Nat → Nat) (g2 : Nat → Nat) (g3 : Nat → Nat) (h : Nat → Nat) (t : Nat → Nat) (sa : Nat → Nat) (dr : Nat → Nat) (Ma : ST) (Ta : ST) (r0 : Int32) (Taz : ST) (hf : fX7_wipe Ma Ta = some (r0, Taz)) : CG l yX7_wipe (wsm yX7_wipe cX7_wipe 2 (some .int)) rmX7_wipe D cs [.ref (x 0)] (some (.int r0)) ((kX7 cs x (.ref (g 0)) (.ref (g2 0)) (.ref (g3 0)) (.ref (h 0)) (.ref (t 0)) (.ref (sa 0)) Ma) ++ (kX6 cs t (.ref (dr 0)) Ta)) ((kX7 cs x (.ref (g 0)) (.ref (g2 0)) (.ref (g3 0)) (.ref (h 0)) (.ref (t 0)) (.ref (sa 0)) Ma) ++ (kX6 cs t (.ref (dr 0)) Taz)) := by
  refine CG.intro (by decide) (Nat.le_of_ble_eq_true rfl) ?_
  intro p e s m below meth c A Q hx hb hml hown hu hK hZ hP0 hD0 hS0 hA hri hrz hrl hrv hra ls0 hl0
  have hl : lv_has ls0 2 [(0, .ref (x 0))] := hl0
  have hP := hP0
  have hD := hD0
  have hS := hS0
  unfold fX7_wipe at hf
  refine lv_aload_n hx hb dX7_wipe_0 rfl (lv_at hl 0 rfl) ?_
  refine va_get (D := D) (ci := 7) (v := .ref (t 0)) (C := RX7) (T := TX7) (N := 8) hx hb hu inX7 hown hK.1 hP 0 rfl rfl 4 (by decide) (hu _ q304) (fun _ h9 => h9) rfl dX7_wipe_1 ?_
  refine va_get (D := D) (ci := 6) (v := .int (Ta 0 2)) (C := RX6) (T := TX6) (N := 5) hx hb hu inX6 hown hK.1 hP 2 rfl rfl 2 (by decide) (hu _ q263) (fun _ h9 => h9) rfl dX7_wipe_4 ?_
  obtain ⟨v1, hv1, hf⟩ := lt_el hf
  refine lv_tope hv1 ?_
  refine lv_istore_n (lv' := [(1, .int v1), (0, .ref (x 0))]) hx hb dX7_wipe_7 rfl hl (by decide) rfl (fun ls hl => ?_)
  refine lv_aload_n hx hb dX7_wipe_8 rfl (lv_at hl 1 rfl) ?_
  refine va_get (D := D) (ci := 7) (v := .ref (t 0)) (C := RX7) (T := TX7) (N := 8) hx hb hu inX7 hown hK.1 hP 0 rfl rfl 4 (by decide) (hu _ q304) (fun _ h9 => h9) rfl dX7_wipe_9 ?_
  refine lv_iconst (v := 0) hx hb dX7_wipe_12 (by decide) ?_
  obtain ⟨Ta_2, hTa_2, hf⟩ := lt_el hf
  refine va_put (D := D) (ci := 6) (v := .int 0) (ty := .int) (C := RX6) (T := TX6) (N := 5) hx hb hu inX6 tyX6 tyX6_ok nmX6 hown hK.1 hP hD hS 2 rfl rfl 2 (by decide) (hu _ q263) (fun _ h9 => h9) rfl (by decide +kernel) rfl rfl (Nat.le_of_ble_eq_true rfl) dX7_wipe_13 (fun H locs hP hD hS => ?_)
  have hP : va_P D vwCl ((kX7 cs x (.ref (g 0)) (.ref (g2 0)) (.ref (g3 0)) (.ref (h 0)) (.ref (t 0)) (.ref (sa 0)) Ma) ++ (kX6 cs t (.ref (dr 0)) Ta_2)) H := by rw [hTa_2]; exact hP
  have hD : va_D A ((kX7 cs x (.ref (g 0)) (.ref (g2 0)) (.ref (g3 0)) (.ref (h 0)) (.ref (t 0)) (.ref (sa 0)) Ma) ++ (kX6 cs t (.ref (dr 0)) Ta_2)) := by rw [hTa_2]; exact hD
  refine lv_iload_n hx hb dX7_wipe_16 rfl (lv_at hl 0 rfl) ?_
  have he := Option.some.inj hf
  obtain ⟨e0, e1⟩ := Prod.mk.inj he
  exact hri _ _ _ rfl (congrArg (fun z => some (Value.int z)) e0.symm) dX7_wipe_17 _ _ _ (by rw [e1]) hP hD hS

def fX7_text (Ma : ST) (Sc : ST) (Ta : ST) (Dr : ST) : Option (Int32 × ST × ST × ST) :=
  dc_b3 (fX6_parse Ta Dr) (fun r1 Ta_2 Dr_3 => dc_lt (sti Ta_2 0 2 0) (fun Ta_5 => (if r1 = 0 then some (((-1) - (Ta_5 0 3)), Sc, Ta_5, Dr_3) else dc_b1 (fX3_takeFrom Sc Dr_3) (fun Sc_7 => some (1, Sc_7, Ta_5, Dr_3)))))
abbrev rmX7_text : Room := { frames := 41, cells := 0, slots := 0, locals := 924 }
set_option maxRecDepth 100000 in
set_option maxHeartbeats 4000000 in
theorem tX7_text (l : Launch) (D : va_G) (cs : Nat → ClassId) (x : Nat → Nat) (g : Nat → Nat) (g2 : Nat → Nat) (g3 : Nat → Nat) (h : Nat → Nat) (t : Nat → Nat) (sa : Nat → Nat) (b : Nat → Nat) (c : Nat → Nat) (d : Nat → Nat) (a : Nat → Nat) (dr : Nat → Nat) (Ma : ST) (Sc : ST) (Ta : ST) (Dr : ST) (r0 : Int32) (Scz : ST) (Taz : ST) (Drz : ST) (hf : fX7_text Ma Sc Ta Dr = some (r0, Scz, Taz, Drz)) : CG l yX7_text (wsm yX7_text cX7_text 2 (some .int)) rmX7_text D cs [.ref (x 0)] (some (.int r0)) ((kX7 cs x (.ref (g 0)) (.ref (g2 0)) (.ref (g3 0)) (.ref (h 0)) (.ref (t 0)) (.ref (sa 0)) Ma) ++ (kX2 cs g (.ref (b 0)) (.ref (c 0)) (.ref (d 0)) (.ref (a 0)) ) ++ (kX3 cs c  Sc) ++ (kX6 cs t (.ref (dr 0)) Ta) ++ (kX3 cs dr  Dr)) ((kX7 cs x (.ref (g 0)) (.ref (g2 0)) (.ref (g3 0)) (.ref (h 0)) (.ref (t 0)) (.ref (sa 0)) Ma) ++ (kX2 cs g (.ref (b 0)) (.ref (c 0)) (.ref (d 0)) (.ref (a 0)) ) ++ (kX3 cs c  Scz) ++ (kX6 cs t (.ref (dr 0)) Taz) ++ (kX3 cs dr  Drz)) := by
  refine CG.intro (by decide) (Nat.le_of_ble_eq_true rfl) ?_
  intro p e s m below meth c A Q hx hb hml hown hu hK hZ hP0 hD0 hS0 hA hri hrz hrl hrv hra ls0 hl0
  have hl : lv_has ls0 2 [(0, .ref (x 0))] := hl0
  have hP := hP0
  have hD := hD0
  have hS := hS0
  unfold fX7_text at hf
  refine lv_aload_n hx hb dX7_text_0 rfl (lv_at hl 0 rfl) ?_
  refine va_get (D := D) (ci := 7) (v := .ref (t 0)) (C := RX7) (T := TX7) (N := 8) hx hb hu inX7 hown hK.1 hP 0 rfl rfl 4 (by decide) (hu _ q304) (fun _ h9 => h9) rfl dX7_text_1 ?_
  obtain ⟨r1, Ta_2, Dr_3, hg4, hf⟩ := b3_el hf
  refine cc_V (w' := ((kX7 cs x (.ref (g 0)) (.ref (g2 0)) (.ref (g3 0)) (.ref (h 0)) (.ref (t 0)) (.ref (sa 0)) Ma) ++ (kX2 cs g (.ref (b 0)) (.ref (c 0)) (.ref (d 0)) (.ref (a 0)) ) ++ (kX3 cs c  Sc) ++ (kX6 cs t (.ref (dr 0)) Ta_2) ++ (kX3 cs dr  Dr_3))) (wr := ((kX7 cs x (.ref (g 0)) (.ref (g2 0)) (.ref (g3 0)) (.ref (h 0)) (.ref (t 0)) (.ref (sa 0)) Ma) ++ (kX2 cs g (.ref (b 0)) (.ref (c 0)) (.ref (d 0)) (.ref (a 0)) ) ++ (kX3 cs c  Sc))) (st1 := [.int r1]) [] hx hb hml hown hu (tX6_parse l D cs t dr Ta Dr r1 Ta_2 Dr_3 hg4) q689 q60 q686 q687 q688 pdX6_parse ⟨rfl, rfl, Nat.le_of_ble_eq_true rfl, Nat.le_of_ble_eq_true rfl⟩ hK hZ hP hD hS hA [6, 7, 8, 9, 10] [0, 1, 2, 3, 4, 5] [0, 1, 2, 3, 4, 5, 6, 7, 8, 9, 10] rfl rfl rfl rfl rfl rfl rfl rfl rfl rfl hl.1 rfl (Nat.le_of_ble_eq_true rfl) dX7_text_4 rfl (fun H locs hP hD hS => ?_)
  refine lv_istore_n (lv' := [(1, .int r1), (0, .ref (x 0))]) hx hb dX7_text_7 rfl hl (by decide) rfl (fun ls hl => ?_)
  refine lv_aload_n hx hb dX7_text_8 rfl (lv_at hl 1 rfl) ?_
  refine va_get (D := D) (ci := 7) (v := .ref (t 0)) (C := RX7) (T := TX7) (N := 8) hx hb hu inX7 hown hK.1 hP 0 rfl rfl 4 (by decide) (hu _ q304) (fun _ h9 => h9) rfl dX7_text_9 ?_
  refine lv_iconst (v := 0) hx hb dX7_text_12 (by decide) ?_
  obtain ⟨Ta_5, hTa_5, hf⟩ := lt_el hf
  refine va_put (D := D) (ci := 6) (v := .int 0) (ty := .int) (C := RX6) (T := TX6) (N := 5) hx hb hu inX6 tyX6 tyX6_ok nmX6 hown hK.1 hP hD hS 6 rfl rfl 2 (by decide) (hu _ q263) (fun _ h9 => h9) rfl (by decide +kernel) rfl rfl (Nat.le_of_ble_eq_true rfl) dX7_text_13 (fun H locs hP hD hS => ?_)
  have hP : va_P D vwCl ((kX7 cs x (.ref (g 0)) (.ref (g2 0)) (.ref (g3 0)) (.ref (h 0)) (.ref (t 0)) (.ref (sa 0)) Ma) ++ (kX2 cs g (.ref (b 0)) (.ref (c 0)) (.ref (d 0)) (.ref (a 0)) ) ++ (kX3 cs c  Sc) ++ (kX6 cs t (.ref (dr 0)) Ta_5) ++ (kX3 cs dr  Dr_3)) H := by rw [hTa_5]; exact hP
  have hD : va_D A ((kX7 cs x (.ref (g 0)) (.ref (g2 0)) (.ref (g3 0)) (.ref (h 0)) (.ref (t 0)) (.ref (sa 0)) Ma) ++ (kX2 cs g (.ref (b 0)) (.ref (c 0)) (.ref (d 0)) (.ref (a 0)) ) ++ (kX3 cs c  Sc) ++ (kX6 cs t (.ref (dr 0)) Ta_5) ++ (kX3 cs dr  Dr_3)) := by rw [hTa_5]; exact hD
  refine lv_iload_n hx hb dX7_text_16 rfl (lv_at hl 0 rfl) ?_
  refine lv_if_ne (tgt := 30) hx hb dX7_text_17 (by decide) (fun hc6 => ?_) (fun hc6 => ?_)
  · have hf := in_el hc6 hf
    refine lv_aload_n hx hb dX7_text_30 rfl (lv_at hl 1 rfl) ?_
    refine va_get (D := D) (ci := 7) (v := .ref (g 0)) (C := RX7) (T := TX7) (N := 8) hx hb hu inX7 hown hK.1 hP 0 rfl rfl 0 (by decide) (hu _ q300) (fun _ h9 => h9) rfl dX7_text_31 ?_
    refine va_get (D := D) (ci := 2) (v := .ref (c 0)) (C := RX2) (T := TX2) (N := 4) hx hb hu inX2 hown hK.1 hP 2 rfl rfl 1 (by decide) (hu _ q199) (fun _ h9 => h9) rfl dX7_text_34 ?_
    refine lv_aload_n hx hb dX7_text_37 rfl (lv_at hl 1 rfl) ?_
    refine va_get (D := D) (ci := 7) (v := .ref (t 0)) (C := RX7) (T := TX7) (N := 8) hx hb hu inX7 hown hK.1 hP 0 rfl rfl 4 (by decide) (hu _ q304) (fun _ h9 => h9) rfl dX7_text_38 ?_
    refine va_get (D := D) (ci := 6) (v := .ref (dr 0)) (C := RX6) (T := TX6) (N := 5) hx hb hu inX6 hown hK.1 hP 6 rfl rfl 1 (by decide) (hu _ q261) (fun _ h9 => h9) rfl dX7_text_41 ?_
    obtain ⟨Sc_7, hg8, hf⟩ := b1_el hf
    refine cc_V (w' := ((kX7 cs x (.ref (g 0)) (.ref (g2 0)) (.ref (g3 0)) (.ref (h 0)) (.ref (t 0)) (.ref (sa 0)) Ma) ++ (kX2 cs g (.ref (b 0)) (.ref (c 0)) (.ref (d 0)) (.ref (a 0)) ) ++ (kX3 cs c  Sc_7) ++ (kX6 cs t (.ref (dr 0)) Ta_5) ++ (kX3 cs dr  Dr_3))) (wr := ((kX7 cs x (.ref (g 0)) (.ref (g2 0)) (.ref (g3 0)) (.ref (h 0)) (.ref (t 0)) (.ref (sa 0)) Ma) ++ (kX2 cs g (.ref (b 0)) (.ref (c 0)) (.ref (d 0)) (.ref (a 0)) ) ++ (kX6 cs t (.ref (dr 0)) Ta_5))) (st1 := []) [.ref (dr 0)] hx hb hml hown hu (tX3_takeFrom l D cs c dr Sc Dr_3 Sc_7 hg8) q667 q57 q826 q665 q666 pdX3_takeFrom ⟨rfl, rfl, Nat.le_of_ble_eq_true rfl, Nat.le_of_ble_eq_true rfl⟩ hK hZ hP hD hS hA [3, 4, 5, 8, 9, 10] [0, 1, 2, 6, 7] [0, 1, 2, 5, 6, 7, 3, 4, 8, 9, 10] rfl rfl rfl rfl rfl rfl rfl rfl rfl rfl hl.1 rfl (Nat.le_of_ble_eq_true rfl) dX7_text_44 rfl (fun H locs hP hD hS => ?_)
    refine lv_iconst (v := 1) hx hb dX7_text_47 (by decide) ?_
    have he := Option.some.inj hf
    obtain ⟨e0, ht0⟩ := Prod.mk.inj he
    obtain ⟨e1, ht1⟩ := Prod.mk.inj ht0
    obtain ⟨e2, e3⟩ := Prod.mk.inj ht1
    exact hri _ _ _ rfl (congrArg (fun z => some (Value.int z)) e0.symm) dX7_text_48 _ _ _ (by rw [e1, e2, e3]) hP hD hS
  · have hf := ip_el hc6 hf
    refine lv_iconst (v := (-1)) hx hb dX7_text_20 (by decide) ?_
    refine lv_aload_n hx hb dX7_text_21 rfl (lv_at hl 1 rfl) ?_
    refine va_get (D := D) (ci := 7) (v := .ref (t 0)) (C := RX7) (T := TX7) (N := 8) hx hb hu inX7 hown hK.1 hP 0 rfl rfl 4 (by decide) (hu _ q304) (fun _ h9 => h9) rfl dX7_text_22 ?_
    refine va_get (D := D) (ci := 6) (v := .int (Ta_5 0 3)) (C := RX6) (T := TX6) (N := 5) hx hb hu inX6 hown hK.1 hP 6 rfl rfl 3 (by decide) (hu _ q265) (fun _ h9 => h9) rfl dX7_text_25 ?_
    refine lv_isub hx hb dX7_text_28 ?_
    have he := Option.some.inj hf
    obtain ⟨e0, ht0⟩ := Prod.mk.inj he
    obtain ⟨e1, ht1⟩ := Prod.mk.inj ht0
    obtain ⟨e2, e3⟩ := Prod.mk.inj ht1
    exact hri _ _ _ rfl (congrArg (fun z => some (Value.int z)) e0.symm) dX7_text_29 _ _ _ (by rw [e1, e2, e3]) hP hD hS

def fX7_gives_16 (Fo : ST) (Se : ST) (Ma : ST) (Sc : ST) : Option (Int32 × ST × ST) :=
  dc_b2 (fX7_finding (-1000000001) Ma) (fun r4 Ma_5 => some (r4, Ma_5, Sc))
def fX7_gives (x1 : Int32) (x2 : Int32) (Ma : ST) (Fo : ST) (Sc : ST) (Se : ST) : Option (Int32 × ST × ST) :=
  dc_b1 (fX7_isOne x1 Ma Fo) (fun r1 => (if r1 = 0 then fX7_gives_16 Fo Se Ma Sc else dc_b1 (fX7_isOne x2 Ma Fo) (fun r7 => (if r7 = 0 then fX7_gives_16 Fo Se Ma Sc else dc_b1 (fX3_isThere Sc) (fun r10 => (if r10 = 0 then dc_b2 (fX7_finding (-1000000004) Ma) (fun r16 Ma_17 => some (r16, Ma_17, Sc)) else dc_b2 (fX3_work x1 x2 Sc Se Fo) (fun r13 Sc_14 => some (r13, Ma, Sc_14))))))))
abbrev rmX7_gives : Room := { frames := 3, cells := 0, slots := 0, locals := 73 }
set_option maxRecDepth 100000 in
set_option maxHeartbeats 4000000 in
theorem tX7_gives (l : Launch) (D : va_G) (cs : Nat → ClassId) (x : Nat → Nat) (g : Nat → Nat) (g2 : Nat → Nat) (g3 : Nat → Nat) (h : Nat → Nat) (t : Nat → Nat) (sa : Nat → Nat) (b : Nat → Nat) (c : Nat → Nat) (d : Nat → Nat) (a : Nat → Nat) (x1 : Int32) (x2 : Int32) (Ma : ST) (Fo : ST) (Sc : ST) (Se : ST) (r0 : Int32) (Maz : ST) (Scz : ST) (hf : fX7_gives x1 x2 Ma Fo Sc Se = some (r0, Maz, Scz)) : CG l yX7_gives (wsm yX7_gives cX7_gives 3 (some .int)) rmX7_gives D cs [.ref (x 0), .int x1, .int x2] (some (.int r0)) ((kX7 cs x (.ref (g 0)) (.ref (g2 0)) (.ref (g3 0)) (.ref (h 0)) (.ref (t 0)) (.ref (sa 0)) Ma) ++ (kX2 cs g (.ref (b 0)) (.ref (c 0)) (.ref (d 0)) (.ref (a 0)) ) ++ (kX1 cs b  Fo) ++ (kX3 cs c  Sc) ++ (kX4 cs a (.ref (b 0)) (.ref (c 0)) (.ref (d 0)) Se)) ((kX7 cs x (.ref (g 0)) (.ref (g2 0)) (.ref (g3 0)) (.ref (h 0)) (.ref (t 0)) (.ref (sa 0)) Maz) ++ (kX2 cs g (.ref (b 0)) (.ref (c 0)) (.ref (d 0)) (.ref (a 0)) ) ++ (kX1 cs b  Fo) ++ (kX3 cs c  Scz) ++ (kX4 cs a (.ref (b 0)) (.ref (c 0)) (.ref (d 0)) Se)) := by
  refine CG.intro (by decide) (Nat.le_of_ble_eq_true rfl) ?_
  intro p e s m below meth c A Q hx hb hml hown hu hK hZ hP0 hD0 hS0 hA hri hrz hrl hrv hra ls0 hl0
  have h16 : ∀ (Ma : ST) (Sc : ST) (H : Heap) (locs : List Loc) (ls : Array Slot), va_P D vwCl ((kX7 cs x (.ref (g 0)) (.ref (g2 0)) (.ref (g3 0)) (.ref (h 0)) (.ref (t 0)) (.ref (sa 0)) Ma) ++ (kX2 cs g (.ref (b 0)) (.ref (c 0)) (.ref (d 0)) (.ref (a 0)) ) ++ (kX1 cs b  Fo) ++ (kX3 cs c  Sc) ++ (kX4 cs a (.ref (b 0)) (.ref (c 0)) (.ref (d 0)) Se)) H → va_D A ((kX7 cs x (.ref (g 0)) (.ref (g2 0)) (.ref (g3 0)) (.ref (h 0)) (.ref (t 0)) (.ref (sa 0)) Ma) ++ (kX2 cs g (.ref (b 0)) (.ref (c 0)) (.ref (d 0)) (.ref (a 0)) ) ++ (kX1 cs b  Fo) ++ (kX3 cs c  Sc) ++ (kX4 cs a (.ref (b 0)) (.ref (c 0)) (.ref (d 0)) Se)) → va_S A s.heap H locs → lv_has ls 3 [(0, .ref (x 0))] → fX7_gives_16 Fo Se Ma Sc = some (r0, Maz, Scz) → W p l e rmX7_gives s m [.ref (x 0), .int x1, .int x2].toArray below meth c H locs 0 0 Q (F0 m 16 ls []) := by
    intro Ma Sc H locs ls hP hD hS hl hf
    unfold fX7_gives_16 at hf
    refine lv_aload_n hx hb dX7_gives_16 rfl (lv_at hl 0 rfl) ?_
    refine lv_ldc (v := (-1000000001)) hx hb hown (hu _ q335) dX7_gives_17 ?_
    obtain ⟨r4, Ma_5, hg6, hf⟩ := b2_el hf
    refine cc_V (w' := ((kX7 cs x (.ref (g 0)) (.ref (g2 0)) (.ref (g3 0)) (.ref (h 0)) (.ref (t 0)) (.ref (sa 0)) Ma_5) ++ (kX2 cs g (.ref (b 0)) (.ref (c 0)) (.ref (d 0)) (.ref (a 0)) ) ++ (kX1 cs b  Fo) ++ (kX3 cs c  Sc) ++ (kX4 cs a (.ref (b 0)) (.ref (c 0)) (.ref (d 0)) Se))) (wr := ((kX2 cs g (.ref (b 0)) (.ref (c 0)) (.ref (d 0)) (.ref (a 0)) ) ++ (kX1 cs b  Fo) ++ (kX3 cs c  Sc) ++ (kX4 cs a (.ref (b 0)) (.ref (c 0)) (.ref (d 0)) Se))) (st1 := [.int r4]) [.int (-1000000001)] hx hb hml hown hu (tX7_finding l D cs x g g2 g3 h t sa (-1000000001) Ma r4 Ma_5 hg6) q339 q54 q336 q338 q0 pdX7_finding ⟨rfl, rfl, Nat.le_of_ble_eq_true rfl, Nat.le_of_ble_eq_true rfl⟩ hK hZ hP hD hS hA [0, 1] [2, 3, 4, 5, 6, 7, 8, 9, 10, 11, 12, 13, 14, 15, 16] [15, 16, 0, 1, 2, 3, 4, 5, 6, 7, 8, 9, 10, 11, 12, 13, 14] rfl rfl rfl rfl rfl rfl rfl rfl rfl rfl hl.1 rfl (Nat.le_of_ble_eq_true rfl) dX7_gives_19 rfl (fun H locs hP hD hS => ?_)
    have he := Option.some.inj hf
    obtain ⟨e0, ht0⟩ := Prod.mk.inj he
    obtain ⟨e1, e2⟩ := Prod.mk.inj ht0
    exact hri _ _ _ rfl (congrArg (fun z => some (Value.int z)) e0.symm) dX7_gives_22 _ _ _ (by rw [e1, e2]) hP hD hS
  have hl : lv_has ls0 3 [(0, .ref (x 0)), (1, .int x1), (2, .int x2)] := hl0
  have hP := hP0
  have hD := hD0
  have hS := hS0
  unfold fX7_gives at hf
  refine lv_aload_n hx hb dX7_gives_0 rfl (lv_at hl 0 rfl) ?_
  refine lv_iload_n hx hb dX7_gives_1 rfl (lv_at hl 1 rfl) ?_
  obtain ⟨r1, hg2, hf⟩ := b1_el hf
  refine cc_V (w' := ((kX7 cs x (.ref (g 0)) (.ref (g2 0)) (.ref (g3 0)) (.ref (h 0)) (.ref (t 0)) (.ref (sa 0)) Ma) ++ (kX2 cs g (.ref (b 0)) (.ref (c 0)) (.ref (d 0)) (.ref (a 0)) ) ++ (kX1 cs b  Fo) ++ (kX3 cs c  Sc) ++ (kX4 cs a (.ref (b 0)) (.ref (c 0)) (.ref (d 0)) Se))) (wr := ((kX3 cs c  Sc) ++ (kX4 cs a (.ref (b 0)) (.ref (c 0)) (.ref (d 0)) Se))) (st1 := [.int r1]) [.int x1] hx hb hml hown hu (tX7_isOne l D cs x g g2 g3 h t sa b c d a x1 Ma Fo r1 hg2) q352 q54 q349 q351 q1 pdX7_isOne ⟨rfl, rfl, Nat.le_of_ble_eq_true rfl, Nat.le_of_ble_eq_true rfl⟩ hK hZ hP hD hS hA [0, 1, 2, 3, 4, 5, 6, 7, 8, 9] [10, 11, 12, 13, 14, 15, 16] [7, 8, 9, 10, 11, 12, 13, 14, 15, 16, 0, 1, 2, 3, 4, 5, 6] rfl rfl rfl rfl rfl rfl rfl rfl rfl rfl hl.1 rfl (Nat.le_of_ble_eq_true rfl) dX7_gives_2 rfl (fun H locs hP hD hS => ?_)
  refine lv_if_eq (tgt := 16) hx hb dX7_gives_5 (by decide) (fun hc3 => ?_) (fun hc3 => ?_)
  · have hf := ip_el hc3 hf
    exact h16 Ma Sc _ _ _ hP hD hS (lv_sub hl [0] rfl) hf
  · have hf := in_el hc3 hf
    refine lv_aload_n hx hb dX7_gives_8 rfl (lv_at hl 0 rfl) ?_
    refine lv_iload_n hx hb dX7_gives_9 rfl (lv_at hl 2 rfl) ?_
    obtain ⟨r7, hg8, hf⟩ := b1_el hf
    refine cc_V (w' := ((kX7 cs x (.ref (g 0)) (.ref (g2 0)) (.ref (g3 0)) (.ref (h 0)) (.ref (t 0)) (.ref (sa 0)) Ma) ++ (kX2 cs g (.ref (b 0)) (.ref (c 0)) (.ref (d 0)) (.ref (a 0)) ) ++ (kX1 cs b  Fo) ++ (kX3 cs c  Sc) ++ (kX4 cs a (.ref (b 0)) (.ref (c 0)) (.ref (d 0)) Se))) (wr := ((kX3 cs c  Sc) ++ (kX4 cs a (.ref (b 0)) (.ref (c 0)) (.ref (d 0)) Se))) (st1 := [.int r7]) [.int x2] hx hb hml hown hu (tX7_isOne l D cs x g g2 g3 h t sa b c d a x2 Ma Fo r7 hg8) q352 q54 q349 q351 q1 pdX7_isOne ⟨rfl, rfl, Nat.le_of_ble_eq_true rfl, Nat.le_of_ble_eq_true rfl⟩ hK hZ hP hD hS hA [0, 1, 2, 3, 4, 5, 6, 7, 8, 9] [10, 11, 12, 13, 14, 15, 16] [7, 8, 9, 10, 11, 12, 13, 14, 15, 16, 0, 1, 2, 3, 4, 5, 6] rfl rfl rfl rfl rfl rfl rfl rfl rfl rfl hl.1 rfl (Nat.le_of_ble_eq_true rfl) dX7_gives_10 rfl (fun H locs hP hD hS => ?_)
    refine lv_if_ne (tgt := 23) hx hb dX7_gives_13 (by decide) (fun hc9 => ?_) (fun hc9 => ?_)
    · have hf := in_el hc9 hf
      refine lv_aload_n hx hb dX7_gives_23 rfl (lv_at hl 0 rfl) ?_
      refine va_get (D := D) (ci := 7) (v := .ref (g 0)) (C := RX7) (T := TX7) (N := 8) hx hb hu inX7 hown hK.1 hP 0 rfl rfl 0 (by decide) (hu _ q300) (fun _ h9 => h9) rfl dX7_gives_24 ?_
      refine va_get (D := D) (ci := 2) (v := .ref (c 0)) (C := RX2) (T := TX2) (N := 4) hx hb hu inX2 hown hK.1 hP 2 rfl rfl 1 (by decide) (hu _ q199) (fun _ h9 => h9) rfl dX7_gives_27 ?_
      obtain ⟨r10, hg11, hf⟩ := b1_el hf
      refine cc_V (w' := ((kX7 cs x (.ref (g 0)) (.ref (g2 0)) (.ref (g3 0)) (.ref (h 0)) (.ref (t 0)) (.ref (sa 0)) Ma) ++ (kX2 cs g (.ref (b 0)) (.ref (c 0)) (.ref (d 0)) (.ref (a 0)) ) ++ (kX1 cs b  Fo) ++ (kX3 cs c  Sc) ++ (kX4 cs a (.ref (b 0)) (.ref (c 0)) (.ref (d 0)) Se))) (wr := ((kX7 cs x (.ref (g 0)) (.ref (g2 0)) (.ref (g3 0)) (.ref (h 0)) (.ref (t 0)) (.ref (sa 0)) Ma) ++ (kX2 cs g (.ref (b 0)) (.ref (c 0)) (.ref (d 0)) (.ref (a 0)) ) ++ (kX1 cs b  Fo) ++ (kX4 cs a (.ref (b 0)) (.ref (c 0)) (.ref (d 0)) Se))) (st1 := [.int r10]) [] hx hb hml hown hu (tX3_isThere l D cs c Sc r10 hg11) q394 q57 q832 q392 q393 pdX3_isThere ⟨rfl, rfl, Nat.le_of_ble_eq_true rfl, Nat.le_of_ble_eq_true rfl⟩ hK hZ hP hD hS hA [10, 11, 12] [0, 1, 2, 3, 4, 5, 6, 7, 8, 9, 13, 14, 15, 16] [0, 1, 2, 3, 4, 5, 6, 7, 8, 9, 14, 15, 16, 10, 11, 12, 13] rfl rfl rfl rfl rfl rfl rfl rfl rfl rfl hl.1 rfl (Nat.le_of_ble_eq_true rfl) dX7_gives_30 rfl (fun H locs hP hD hS => ?_)
      refine lv_if_ne (tgt := 43) hx hb dX7_gives_33 (by decide) (fun hc12 => ?_) (fun hc12 => ?_)
      · have hf := in_el hc12 hf
        refine lv_aload_n hx hb dX7_gives_43 rfl (lv_at hl 0 rfl) ?_
        refine va_get (D := D) (ci := 7) (v := .ref (g 0)) (C := RX7) (T := TX7) (N := 8) hx hb hu inX7 hown hK.1 hP 0 rfl rfl 0 (by decide) (hu _ q300) (fun _ h9 => h9) rfl dX7_gives_44 ?_
        refine va_get (D := D) (ci := 2) (v := .ref (c 0)) (C := RX2) (T := TX2) (N := 4) hx hb hu inX2 hown hK.1 hP 2 rfl rfl 1 (by decide) (hu _ q199) (fun _ h9 => h9) rfl dX7_gives_47 ?_
        refine lv_aload_n hx hb dX7_gives_50 rfl (lv_at hl 0 rfl) ?_
        refine va_get (D := D) (ci := 7) (v := .ref (g 0)) (C := RX7) (T := TX7) (N := 8) hx hb hu inX7 hown hK.1 hP 0 rfl rfl 0 (by decide) (hu _ q300) (fun _ h9 => h9) rfl dX7_gives_51 ?_
        refine va_get (D := D) (ci := 2) (v := .ref (a 0)) (C := RX2) (T := TX2) (N := 4) hx hb hu inX2 hown hK.1 hP 2 rfl rfl 3 (by decide) (hu _ q204) (fun _ h9 => h9) rfl dX7_gives_54 ?_
        refine lv_iload_n hx hb dX7_gives_57 rfl (lv_at hl 1 rfl) ?_
        refine lv_iload_n hx hb dX7_gives_58 rfl (lv_at hl 2 rfl) ?_
        obtain ⟨r13, Sc_14, hg15, hf⟩ := b2_el hf
        refine cc_V (w' := ((kX7 cs x (.ref (g 0)) (.ref (g2 0)) (.ref (g3 0)) (.ref (h 0)) (.ref (t 0)) (.ref (sa 0)) Ma) ++ (kX2 cs g (.ref (b 0)) (.ref (c 0)) (.ref (d 0)) (.ref (a 0)) ) ++ (kX1 cs b  Fo) ++ (kX3 cs c  Sc_14) ++ (kX4 cs a (.ref (b 0)) (.ref (c 0)) (.ref (d 0)) Se))) (wr := ((kX7 cs x (.ref (g 0)) (.ref (g2 0)) (.ref (g3 0)) (.ref (h 0)) (.ref (t 0)) (.ref (sa 0)) Ma) ++ (kX2 cs g (.ref (b 0)) (.ref (c 0)) (.ref (d 0)) (.ref (a 0)) ))) (st1 := [.int r13]) [.ref (a 0), .int x1, .int x2] hx hb hml hown hu (tX3_work l D cs c a b (.ref (d 0)) x1 x2 Sc Se Fo r13 Sc_14 hg15) q406 q57 q833 q404 q405 pdX3_work ⟨rfl, rfl, Nat.le_of_ble_eq_true rfl, Nat.le_of_ble_eq_true rfl⟩ hK hZ hP hD hS hA [10, 11, 12, 13, 14, 15, 16, 3, 4, 5, 6, 7, 8, 9] [0, 1, 2] [0, 1, 2, 10, 11, 12, 13, 14, 15, 16, 3, 4, 5, 6, 7, 8, 9] rfl rfl rfl rfl rfl rfl rfl rfl rfl rfl hl.1 rfl (Nat.le_of_ble_eq_true rfl) dX7_gives_59 rfl (fun H locs hP hD hS => ?_)
        have he := Option.some.inj hf
        obtain ⟨e0, ht0⟩ := Prod.mk.inj he
        obtain ⟨e1, e2⟩ := Prod.mk.inj ht0
        exact hri _ _ _ rfl (congrArg (fun z => some (Value.int z)) e0.symm) dX7_gives_62 _ _ _ (by rw [e1, e2]) hP hD hS
      · have hf := ip_el hc12 hf
        refine lv_aload_n hx hb dX7_gives_36 rfl (lv_at hl 0 rfl) ?_
        refine lv_ldc (v := (-1000000004)) hx hb hown (hu _ q586) dX7_gives_37 ?_
        obtain ⟨r16, Ma_17, hg18, hf⟩ := b2_el hf
        refine cc_V (w' := ((kX7 cs x (.ref (g 0)) (.ref (g2 0)) (.ref (g3 0)) (.ref (h 0)) (.ref (t 0)) (.ref (sa 0)) Ma_17) ++ (kX2 cs g (.ref (b 0)) (.ref (c 0)) (.ref (d 0)) (.ref (a 0)) ) ++ (kX1 cs b  Fo) ++ (kX3 cs c  Sc) ++ (kX4 cs a (.ref (b 0)) (.ref (c 0)) (.ref (d 0)) Se))) (wr := ((kX2 cs g (.ref (b 0)) (.ref (c 0)) (.ref (d 0)) (.ref (a 0)) ) ++ (kX1 cs b  Fo) ++ (kX3 cs c  Sc) ++ (kX4 cs a (.ref (b 0)) (.ref (c 0)) (.ref (d 0)) Se))) (st1 := [.int r16]) [.int (-1000000004)] hx hb hml hown hu (tX7_finding l D cs x g g2 g3 h t sa (-1000000004) Ma r16 Ma_17 hg18) q339 q54 q336 q338 q0 pdX7_finding ⟨rfl, rfl, Nat.le_of_ble_eq_true rfl, Nat.le_of_ble_eq_true rfl⟩ hK hZ hP hD hS hA [0, 1] [2, 3, 4, 5, 6, 7, 8, 9, 10, 11, 12, 13, 14, 15, 16] [15, 16, 0, 1, 2, 3, 4, 5, 6, 7, 8, 9, 10, 11, 12, 13, 14] rfl rfl rfl rfl rfl rfl rfl rfl rfl rfl hl.1 rfl (Nat.le_of_ble_eq_true rfl) dX7_gives_39 rfl (fun H locs hP hD hS => ?_)
        have he := Option.some.inj hf
        obtain ⟨e0, ht0⟩ := Prod.mk.inj he
        obtain ⟨e1, e2⟩ := Prod.mk.inj ht0
        exact hri _ _ _ rfl (congrArg (fun z => some (Value.int z)) e0.symm) dX7_gives_42 _ _ _ (by rw [e1, e2]) hP hD hS
    · have hf := ip_el hc9 hf
      exact h16 Ma Sc _ _ _ hP hD hS (lv_sub hl [0] rfl) hf

def fX7_untell_18 (Ma : ST) (s0 : Int32) (Sc : ST) : Option (Int32 × ST) :=
  dc_lt (sti Sc 0 2 0) (fun Sc_4 => some (s0, Sc_4))
def fX7_untell (Ma : ST) (Sc : ST) : Option (Int32 × ST) :=
  dc_b1 (fX3_isThere Sc) (fun r1 => (if r1 = 0 then fX7_untell_18 Ma 0 Sc else fX7_untell_18 Ma 1 Sc))
abbrev rmX7_untell : Room := { frames := 1, cells := 0, slots := 0, locals := 20 }
set_option maxRecDepth 100000 in
set_option maxHeartbeats 4000000 in
theorem tX7_untell (l : Launch) (D : va_G) (cs : Nat → ClassId) (x : Nat → Nat) (g : Nat → Nat) (g2 : Nat → Nat) (g3 : Nat → Nat) (h : Nat → Nat) (t : Nat → Nat) (sa : Nat → Nat) (b : Nat → Nat) (c : Nat → Nat) (d : Nat → Nat) (a : Nat → Nat) (Ma : ST) (Sc : ST) (r0 : Int32) (Scz : ST) (hf : fX7_untell Ma Sc = some (r0, Scz)) : CG l yX7_untell (wsm yX7_untell cX7_untell 2 (some .int)) rmX7_untell D cs [.ref (x 0)] (some (.int r0)) ((kX7 cs x (.ref (g 0)) (.ref (g2 0)) (.ref (g3 0)) (.ref (h 0)) (.ref (t 0)) (.ref (sa 0)) Ma) ++ (kX2 cs g (.ref (b 0)) (.ref (c 0)) (.ref (d 0)) (.ref (a 0)) ) ++ (kX3 cs c  Sc)) ((kX7 cs x (.ref (g 0)) (.ref (g2 0)) (.ref (g3 0)) (.ref (h 0)) (.ref (t 0)) (.ref (sa 0)) Ma) ++ (kX2 cs g (.ref (b 0)) (.ref (c 0)) (.ref (d 0)) (.ref (a 0)) ) ++ (kX3 cs c  Scz)) := by
  refine CG.intro (by decide) (Nat.le_of_ble_eq_true rfl) ?_
  intro p e s m below meth c A Q hx hb hml hown hu hK hZ hP0 hD0 hS0 hA hri hrz hrl hrv hra ls0 hl0
  have h18 : ∀ (s0 : Int32) (Sc : ST) (H : Heap) (locs : List Loc) (ls : Array Slot), va_P D vwCl ((kX7 cs x (.ref (g 0)) (.ref (g2 0)) (.ref (g3 0)) (.ref (h 0)) (.ref (t 0)) (.ref (sa 0)) Ma) ++ (kX2 cs g (.ref (b 0)) (.ref (c 0)) (.ref (d 0)) (.ref (a 0)) ) ++ (kX3 cs c  Sc)) H → va_D A ((kX7 cs x (.ref (g 0)) (.ref (g2 0)) (.ref (g3 0)) (.ref (h 0)) (.ref (t 0)) (.ref (sa 0)) Ma) ++ (kX2 cs g (.ref (b 0)) (.ref (c 0)) (.ref (d 0)) (.ref (a 0)) ) ++ (kX3 cs c  Sc)) → va_S A s.heap H locs → lv_has ls 2 [(0, .ref (x 0))] → fX7_untell_18 Ma s0 Sc = some (r0, Scz) → W p l e rmX7_untell s m [.ref (x 0)].toArray below meth c H locs 0 0 Q (F0 m 18 ls [.int s0]) := by
    intro s0 Sc H locs ls hP hD hS hl hf
    unfold fX7_untell_18 at hf
    refine lv_istore_n (lv' := [(1, .int s0), (0, .ref (x 0))]) hx hb dX7_untell_18 rfl hl (by decide) rfl (fun ls hl => ?_)
    refine lv_aload_n hx hb dX7_untell_19 rfl (lv_at hl 1 rfl) ?_
    refine va_get (D := D) (ci := 7) (v := .ref (g 0)) (C := RX7) (T := TX7) (N := 8) hx hb hu inX7 hown hK.1 hP 0 rfl rfl 0 (by decide) (hu _ q300) (fun _ h9 => h9) rfl dX7_untell_20 ?_
    refine va_get (D := D) (ci := 2) (v := .ref (c 0)) (C := RX2) (T := TX2) (N := 4) hx hb hu inX2 hown hK.1 hP 2 rfl rfl 1 (by decide) (hu _ q199) (fun _ h9 => h9) rfl dX7_untell_23 ?_
    refine lv_iconst (v := 0) hx hb dX7_untell_26 (by decide) ?_
    obtain ⟨Sc_4, hSc_4, hf⟩ := lt_el hf
    refine va_put (D := D) (ci := 3) (v := .int 0) (ty := .int) (C := RX3) (T := TX3) (N := 3) hx hb hu inX3 tyX3 tyX3_ok nmX3 hown hK.1 hP hD hS 3 rfl rfl 2 (by decide) (hu _ q144) (fun _ h9 => h9) rfl (by decide +kernel) rfl rfl (Nat.le_of_ble_eq_true rfl) dX7_untell_27 (fun H locs hP hD hS => ?_)
    have hP : va_P D vwCl ((kX7 cs x (.ref (g 0)) (.ref (g2 0)) (.ref (g3 0)) (.ref (h 0)) (.ref (t 0)) (.ref (sa 0)) Ma) ++ (kX2 cs g (.ref (b 0)) (.ref (c 0)) (.ref (d 0)) (.ref (a 0)) ) ++ (kX3 cs c  Sc_4)) H := by rw [hSc_4]; exact hP
    have hD : va_D A ((kX7 cs x (.ref (g 0)) (.ref (g2 0)) (.ref (g3 0)) (.ref (h 0)) (.ref (t 0)) (.ref (sa 0)) Ma) ++ (kX2 cs g (.ref (b 0)) (.ref (c 0)) (.ref (d 0)) (.ref (a 0)) ) ++ (kX3 cs c  Sc_4)) := by rw [hSc_4]; exact hD
    refine lv_iload_n hx hb dX7_untell_30 rfl (lv_at hl 0 rfl) ?_
    have he := Option.some.inj hf
    obtain ⟨e0, e1⟩ := Prod.mk.inj he
    exact hri _ _ _ rfl (congrArg (fun z => some (Value.int z)) e0.symm) dX7_untell_31 _ _ _ (by rw [e1]) hP hD hS
  have hl : lv_has ls0 2 [(0, .ref (x 0))] := hl0
  have hP := hP0
  have hD := hD0
  have hS := hS0
  unfold fX7_untell at hf
  refine lv_aload_n hx hb dX7_untell_0 rfl (lv_at hl 0 rfl) ?_
  refine va_get (D := D) (ci := 7) (v := .ref (g 0)) (C := RX7) (T := TX7) (N := 8) hx hb hu inX7 hown hK.1 hP 0 rfl rfl 0 (by decide) (hu _ q300) (fun _ h9 => h9) rfl dX7_untell_1 ?_
  refine va_get (D := D) (ci := 2) (v := .ref (c 0)) (C := RX2) (T := TX2) (N := 4) hx hb hu inX2 hown hK.1 hP 2 rfl rfl 1 (by decide) (hu _ q199) (fun _ h9 => h9) rfl dX7_untell_4 ?_
  obtain ⟨r1, hg2, hf⟩ := b1_el hf
  refine cc_V (w' := ((kX7 cs x (.ref (g 0)) (.ref (g2 0)) (.ref (g3 0)) (.ref (h 0)) (.ref (t 0)) (.ref (sa 0)) Ma) ++ (kX2 cs g (.ref (b 0)) (.ref (c 0)) (.ref (d 0)) (.ref (a 0)) ) ++ (kX3 cs c  Sc))) (wr := ((kX7 cs x (.ref (g 0)) (.ref (g2 0)) (.ref (g3 0)) (.ref (h 0)) (.ref (t 0)) (.ref (sa 0)) Ma) ++ (kX2 cs g (.ref (b 0)) (.ref (c 0)) (.ref (d 0)) (.ref (a 0)) ))) (st1 := [.int r1]) [] hx hb hml hown hu (tX3_isThere l D cs c Sc r1 hg2) q394 q57 q832 q392 q393 pdX3_isThere ⟨rfl, rfl, Nat.le_of_ble_eq_true rfl, Nat.le_of_ble_eq_true rfl⟩ hK hZ hP hD hS hA [3, 4, 5] [0, 1, 2] [0, 1, 2, 3, 4, 5] rfl rfl rfl rfl rfl rfl rfl rfl rfl rfl hl.1 rfl (Nat.le_of_ble_eq_true rfl) dX7_untell_7 rfl (fun H locs hP hD hS => ?_)
  refine lv_if_eq (tgt := 17) hx hb dX7_untell_10 (by decide) (fun hc3 => ?_) (fun hc3 => ?_)
  · have hf := ip_el hc3 hf
    refine lv_iconst (v := 0) hx hb dX7_untell_17 (by decide) ?_
    exact h18 0 Sc _ _ _ hP hD hS (lv_sub hl [0] rfl) hf
  · have hf := in_el hc3 hf
    refine lv_iconst (v := 1) hx hb dX7_untell_13 (by decide) ?_
    refine lv_goto (tgt := 18) hx hb dX7_untell_14 (by decide) ?_
    exact h18 1 Sc _ _ _ hP hD hS (lv_sub hl [0] rfl) hf

def fX7_sheet_29 (Ma : ST) (G0 : ST) (N0 : LT) (G1 : ST) (N1 : LT) (G2 : ST) (N2 : LT) (G3 : ST) (N3 : LT) : Option (Int32 × ST × ST × LT × ST × LT × ST × LT × ST × LT) :=
  dc_b2 (fX7_finding (-1000000001) Ma) (fun r4 Ma_5 => some (r4, Ma_5, G0, N0, G1, N1, G2, N2, G3, N3))
def fX7_sheet_36 (y1 : Int32) (y2 : Int32) (y3 : Int32) (Ma : ST) (G0 : ST) (N0 : LT) (G1 : ST) (N1 : LT) (G2 : ST) (N2 : LT) (G3 : ST) (N3 : LT) : Option (Int32 × ST × ST × LT × ST × LT × ST × LT × ST × LT) :=
  (if 0 ≤ y3 then (if y3 ≤ 40 then (if y1 = 0 then (if y2 = 0 then dc_b2 (fX5_lay y2 0 G0 N0) (fun G0_15 N0_16 => some ((G0_15 0 1), Ma, G0_15, N0_16, G1, N1, G2, N2, G3, N3)) else dc_b2 (fX5_lay y2 y3 G0 N0) (fun G0_12 N0_13 => some ((G0_12 0 1), Ma, G0_12, N0_13, G1, N1, G2, N2, G3, N3))) else if y1 = 1 then (if y2 = 0 then dc_b2 (fX5_lay y2 0 G1 N1) (fun G1_23 N1_24 => some ((G1_23 0 1), Ma, G0, N0, G1_23, N1_24, G2, N2, G3, N3)) else dc_b2 (fX5_lay y2 y3 G1 N1) (fun G1_20 N1_21 => some ((G1_20 0 1), Ma, G0, N0, G1_20, N1_21, G2, N2, G3, N3))) else if y1 = 2 then (if y2 = 0 then dc_b2 (fX5_lay y2 0 G2 N2) (fun G2_31 N2_32 => some ((G2_31 0 1), Ma, G0, N0, G1, N1, G2_31, N2_32, G3, N3)) else dc_b2 (fX5_lay y2 y3 G2 N2) (fun G2_28 N2_29 => some ((G2_28 0 1), Ma, G0, N0, G1, N1, G2_28, N2_29, G3, N3))) else if y1 = 3 then (if y2 = 0 then dc_b2 (fX5_lay y2 0 G3 N3) (fun G3_39 N3_40 => some ((G3_39 0 1), Ma, G0, N0, G1, N1, G2, N2, G3_39, N3_40)) else dc_b2 (fX5_lay y2 y3 G3 N3) (fun G3_36 N3_37 => some ((G3_36 0 1), Ma, G0, N0, G1, N1, G2, N2, G3_36, N3_37))) else none) else dc_b2 (fX7_finding (-1000000001) Ma) (fun r42 Ma_43 => some (r42, Ma_43, G0, N0, G1, N1, G2, N2, G3, N3))) else dc_b2 (fX7_finding (-1000000007) Ma) (fun r45 Ma_46 => some (r45, Ma_46, G0, N0, G1, N1, G2, N2, G3, N3)))
def fX7_sheet (x1 : Int32) (x2 : Int32) (x3 : Int32) (Ma : ST) (G0 : ST) (N0 : LT) (G1 : ST) (N1 : LT) (G2 : ST) (N2 : LT) (G3 : ST) (N3 : LT) : Option (Int32 × ST × ST × LT × ST × LT × ST × LT × ST × LT) :=
  dc_b1 (fX7_isSheet x1) (fun r1 => (if r1 = 0 then fX7_sheet_29 Ma G0 N0 G1 N1 G2 N2 G3 N3 else (if x2 = 0 then fX7_sheet_36 x1 x2 x3 Ma G0 N0 G1 N1 G2 N2 G3 N3 else (if x2 = 8 then fX7_sheet_36 x1 x2 x3 Ma G0 N0 G1 N1 G2 N2 G3 N3 else (if x2 = 16 then fX7_sheet_36 x1 x2 x3 Ma G0 N0 G1 N1 G2 N2 G3 N3 else (if x2 = 64 then fX7_sheet_36 x1 x2 x3 Ma G0 N0 G1 N1 G2 N2 G3 N3 else fX7_sheet_29 Ma G0 N0 G1 N1 G2 N2 G3 N3))))))
abbrev rmX7_sheet : Room := { frames := 2, cells := 0, slots := 0, locals := 46 }
set_option maxRecDepth 100000 in
set_option maxHeartbeats 4000000 in
theorem tX7_sheet (l : Launch) (D : va_G) (cs : Nat → ClassId) (x : Nat → Nat) (g : Nat → Nat) (g2 : Nat → Nat) (g3 : Nat → Nat) (h : Nat → Nat) (t : Nat → Nat) (sa : Nat → Nat) (e0 : Nat → Nat) (e1 : Nat → Nat) (e2 : Nat → Nat) (e3 : Nat → Nat) (n0 : Nat → Nat) (n1 : Nat → Nat) (n2 : Nat → Nat) (n3 : Nat → Nat) (x1 : Int32) (x2 : Int32) (x3 : Int32) (Ma : ST) (G0 : ST) (N0 : LT) (G1 : ST) (N1 : LT) (G2 : ST) (N2 : LT) (G3 : ST) (N3 : LT) (r0 : Int32) (Maz : ST) (G0z : ST) (N0z : LT) (G1z : ST) (N1z : LT) (G2z : ST) (N2z : LT) (G3z : ST) (N3z : LT) (hf : fX7_sheet x1 x2 x3 Ma G0 N0 G1 N1 G2 N2 G3 N3 = some (r0, Maz, G0z, N0z, G1z, N1z, G2z, N2z, G3z, N3z)) : CG l yX7_sheet (wsm yX7_sheet cX7_sheet 4 (some .int)) rmX7_sheet D cs [.ref (x 0), .int x1, .int x2, .int x3] (some (.int r0)) ((kX7 cs x (.ref (g 0)) (.ref (g2 0)) (.ref (g3 0)) (.ref (h 0)) (.ref (t 0)) (.ref (sa 0)) Ma) ++ (kSA cs sa (e0 0) (e1 0) (e2 0) (e3 0)) ++ (kX5 cs e0 (.ref (n0 0)) G0) ++ (kJ40 cs n0 N0) ++ (kX5 cs e1 (.ref (n1 0)) G1) ++ (kJ40 cs n1 N1) ++ (kX5 cs e2 (.ref (n2 0)) G2) ++ (kJ40 cs n2 N2) ++ (kX5 cs e3 (.ref (n3 0)) G3) ++ (kJ40 cs n3 N3)) ((kX7 cs x (.ref (g 0)) (.ref (g2 0)) (.ref (g3 0)) (.ref (h 0)) (.ref (t 0)) (.ref (sa 0)) Maz) ++ (kSA cs sa (e0 0) (e1 0) (e2 0) (e3 0)) ++ (kX5 cs e0 (.ref (n0 0)) G0z) ++ (kJ40 cs n0 N0z) ++ (kX5 cs e1 (.ref (n1 0)) G1z) ++ (kJ40 cs n1 N1z) ++ (kX5 cs e2 (.ref (n2 0)) G2z) ++ (kJ40 cs n2 N2z) ++ (kX5 cs e3 (.ref (n3 0)) G3z) ++ (kJ40 cs n3 N3z)) := by
  refine CG.intro (by decide) (Nat.le_of_ble_eq_true rfl) ?_
  intro p e s m below meth c A Q hx hb hml hown hu hK hZ hP0 hD0 hS0 hA hri hrz hrl hrv hra ls0 hl0
  have h29 : ∀ (Ma : ST) (G0 : ST) (N0 : LT) (G1 : ST) (N1 : LT) (G2 : ST) (N2 : LT) (G3 : ST) (N3 : LT) (H : Heap) (locs : List Loc) (ls : Array Slot), va_P D vwCl ((kX7 cs x (.ref (g 0)) (.ref (g2 0)) (.ref (g3 0)) (.ref (h 0)) (.ref (t 0)) (.ref (sa 0)) Ma) ++ (kSA cs sa (e0 0) (e1 0) (e2 0) (e3 0)) ++ (kX5 cs e0 (.ref (n0 0)) G0) ++ (kJ40 cs n0 N0) ++ (kX5 cs e1 (.ref (n1 0)) G1) ++ (kJ40 cs n1 N1) ++ (kX5 cs e2 (.ref (n2 0)) G2) ++ (kJ40 cs n2 N2) ++ (kX5 cs e3 (.ref (n3 0)) G3) ++ (kJ40 cs n3 N3)) H → va_D A ((kX7 cs x (.ref (g 0)) (.ref (g2 0)) (.ref (g3 0)) (.ref (h 0)) (.ref (t 0)) (.ref (sa 0)) Ma) ++ (kSA cs sa (e0 0) (e1 0) (e2 0) (e3 0)) ++ (kX5 cs e0 (.ref (n0 0)) G0) ++ (kJ40 cs n0 N0) ++ (kX5 cs e1 (.ref (n1 0)) G1) ++ (kJ40 cs n1 N1) ++ (kX5 cs e2 (.ref (n2 0)) G2) ++ (kJ40 cs n2 N2) ++ (kX5 cs e3 (.ref (n3 0)) G3) ++ (kJ40 cs n3 N3)) → va_S A s.heap H locs → lv_has ls 4 [(0, .ref (x 0))] → fX7_sheet_29 Ma G0 N0 G1 N1 G2 N2 G3 N3 = some (r0, Maz, G0z, N0z, G1z, N1z, G2z, N2z, G3z, N3z) → W p l e rmX7_sheet s m [.ref (x 0), .int x1, .int x2, .int x3].toArray below meth c H locs 0 0 Q (F0 m 29 ls []) := by
    intro Ma G0 N0 G1 N1 G2 N2 G3 N3 H locs ls hP hD hS hl hf
    unfold fX7_sheet_29 at hf
    refine lv_aload_n hx hb dX7_sheet_29 rfl (lv_at hl 0 rfl) ?_
    refine lv_ldc (v := (-1000000001)) hx hb hown (hu _ q335) dX7_sheet_30 ?_
    obtain ⟨r4, Ma_5, hg6, hf⟩ := b2_el hf
    refine cc_V (w' := ((kX7 cs x (.ref (g 0)) (.ref (g2 0)) (.ref (g3 0)) (.ref (h 0)) (.ref (t 0)) (.ref (sa 0)) Ma_5) ++ (kSA cs sa (e0 0) (e1 0) (e2 0) (e3 0)) ++ (kX5 cs e0 (.ref (n0 0)) G0) ++ (kJ40 cs n0 N0) ++ (kX5 cs e1 (.ref (n1 0)) G1) ++ (kJ40 cs n1 N1) ++ (kX5 cs e2 (.ref (n2 0)) G2) ++ (kJ40 cs n2 N2) ++ (kX5 cs e3 (.ref (n3 0)) G3) ++ (kJ40 cs n3 N3))) (wr := ((kSA cs sa (e0 0) (e1 0) (e2 0) (e3 0)) ++ (kX5 cs e0 (.ref (n0 0)) G0) ++ (kJ40 cs n0 N0) ++ (kX5 cs e1 (.ref (n1 0)) G1) ++ (kJ40 cs n1 N1) ++ (kX5 cs e2 (.ref (n2 0)) G2) ++ (kJ40 cs n2 N2) ++ (kX5 cs e3 (.ref (n3 0)) G3) ++ (kJ40 cs n3 N3))) (st1 := [.int r4]) [.int (-1000000001)] hx hb hml hown hu (tX7_finding l D cs x g g2 g3 h t sa (-1000000001) Ma r4 Ma_5 hg6) q339 q54 q336 q338 q0 pdX7_finding ⟨rfl, rfl, Nat.le_of_ble_eq_true rfl, Nat.le_of_ble_eq_true rfl⟩ hK hZ hP hD hS hA [0, 1] [2, 3, 4, 5, 6, 7, 8, 9, 10] [9, 10, 0, 1, 2, 3, 4, 5, 6, 7, 8] rfl rfl rfl rfl rfl rfl rfl rfl rfl rfl hl.1 rfl (Nat.le_of_ble_eq_true rfl) dX7_sheet_32 rfl (fun H locs hP hD hS => ?_)
    have he := Option.some.inj hf
    obtain ⟨e0, ht0⟩ := Prod.mk.inj he
    obtain ⟨e1, ht1⟩ := Prod.mk.inj ht0
    obtain ⟨e2, ht2⟩ := Prod.mk.inj ht1
    obtain ⟨e3, ht3⟩ := Prod.mk.inj ht2
    obtain ⟨e4, ht4⟩ := Prod.mk.inj ht3
    obtain ⟨e5, ht5⟩ := Prod.mk.inj ht4
    obtain ⟨e6, ht6⟩ := Prod.mk.inj ht5
    obtain ⟨e7, ht7⟩ := Prod.mk.inj ht6
    obtain ⟨e8, e9⟩ := Prod.mk.inj ht7
    exact hri _ _ _ rfl (congrArg (fun z => some (Value.int z)) e0.symm) dX7_sheet_35 _ _ _ (by rw [e1, e2, e3, e4, e5, e6, e7, e8, e9]) hP hD hS
  have h36 : ∀ (y1 : Int32) (y2 : Int32) (y3 : Int32) (Ma : ST) (G0 : ST) (N0 : LT) (G1 : ST) (N1 : LT) (G2 : ST) (N2 : LT) (G3 : ST) (N3 : LT) (H : Heap) (locs : List Loc) (ls : Array Slot), va_P D vwCl ((kX7 cs x (.ref (g 0)) (.ref (g2 0)) (.ref (g3 0)) (.ref (h 0)) (.ref (t 0)) (.ref (sa 0)) Ma) ++ (kSA cs sa (e0 0) (e1 0) (e2 0) (e3 0)) ++ (kX5 cs e0 (.ref (n0 0)) G0) ++ (kJ40 cs n0 N0) ++ (kX5 cs e1 (.ref (n1 0)) G1) ++ (kJ40 cs n1 N1) ++ (kX5 cs e2 (.ref (n2 0)) G2) ++ (kJ40 cs n2 N2) ++ (kX5 cs e3 (.ref (n3 0)) G3) ++ (kJ40 cs n3 N3)) H → va_D A ((kX7 cs x (.ref (g 0)) (.ref (g2 0)) (.ref (g3 0)) (.ref (h 0)) (.ref (t 0)) (.ref (sa 0)) Ma) ++ (kSA cs sa (e0 0) (e1 0) (e2 0) (e3 0)) ++ (kX5 cs e0 (.ref (n0 0)) G0) ++ (kJ40 cs n0 N0) ++ (kX5 cs e1 (.ref (n1 0)) G1) ++ (kJ40 cs n1 N1) ++ (kX5 cs e2 (.ref (n2 0)) G2) ++ (kJ40 cs n2 N2) ++ (kX5 cs e3 (.ref (n3 0)) G3) ++ (kJ40 cs n3 N3)) → va_S A s.heap H locs → lv_has ls 4 [(0, .ref (x 0)), (1, .int y1), (2, .int y2), (3, .int y3)] → fX7_sheet_36 y1 y2 y3 Ma G0 N0 G1 N1 G2 N2 G3 N3 = some (r0, Maz, G0z, N0z, G1z, N1z, G2z, N2z, G3z, N3z) → W p l e rmX7_sheet s m [.ref (x 0), .int x1, .int x2, .int x3].toArray below meth c H locs 0 0 Q (F0 m 36 ls []) := by
    intro y1 y2 y3 Ma G0 N0 G1 N1 G2 N2 G3 N3 H locs ls hP hD hS hl hf
    unfold fX7_sheet_36 at hf
    refine lv_iload_n hx hb dX7_sheet_36 rfl (lv_at hl 3 rfl) ?_
    refine lv_if_ge (tgt := 48) hx hb dX7_sheet_37 (by decide) (fun hc8 => ?_) (fun hc8 => ?_)
    · have hf := ip_el hc8 hf
      refine lv_iload_n hx hb dX7_sheet_48 rfl (lv_at hl 3 rfl) ?_
      refine lv_bipush (v := 40) hx hb dX7_sheet_49 (by decide) ?_
      refine lv_icmp_le (tgt := 61) hx hb dX7_sheet_51 (by decide) (fun hc9 => ?_) (fun hc9 => ?_)
      · have hf := ip_el hc9 hf
        refine lv_aload_n hx hb dX7_sheet_61 rfl (lv_at hl 0 rfl) ?_
        refine va_get (D := D) (ci := 7) (v := .ref (sa 0)) (C := RX7) (T := TX7) (N := 8) hx hb hu inX7 hown hK.1 hP 0 rfl rfl 5 (by decide) (hu _ q305) (fun _ h9 => h9) rfl dX7_sheet_62 ?_
        refine lv_iload_n hx hb dX7_sheet_65 rfl (lv_at hl 1 rfl) ?_
        by_cases hc10 : y1 = 0
        · have hf := ip_el hc10 hf
          refine sa_lit (e := e0 0) hx hb hK hP 2 rfl (k := 0) (by rw [hc10]; decide) rfl dX7_sheet_66 ?_
          refine lv_iload_n hx hb dX7_sheet_67 rfl (lv_at hl 2 rfl) ?_
          refine lv_iload_n hx hb dX7_sheet_68 rfl (lv_at hl 2 rfl) ?_
          refine lv_if_ne (tgt := 76) hx hb dX7_sheet_69 (by decide) (fun hc11 => ?_) (fun hc11 => ?_)
          · have hf := in_el hc11 hf
            refine lv_iload_n hx hb dX7_sheet_76 rfl (lv_at hl 3 rfl) ?_
            obtain ⟨G0_12, N0_13, hg14, hf⟩ := b2_el hf
            refine cc_V (w' := ((kX7 cs x (.ref (g 0)) (.ref (g2 0)) (.ref (g3 0)) (.ref (h 0)) (.ref (t 0)) (.ref (sa 0)) Ma) ++ (kSA cs sa (e0 0) (e1 0) (e2 0) (e3 0)) ++ (kX5 cs e0 (.ref (n0 0)) G0_12) ++ (kJ40 cs n0 N0_13) ++ (kX5 cs e1 (.ref (n1 0)) G1) ++ (kJ40 cs n1 N1) ++ (kX5 cs e2 (.ref (n2 0)) G2) ++ (kJ40 cs n2 N2) ++ (kX5 cs e3 (.ref (n3 0)) G3) ++ (kJ40 cs n3 N3))) (wr := ((kX7 cs x (.ref (g 0)) (.ref (g2 0)) (.ref (g3 0)) (.ref (h 0)) (.ref (t 0)) (.ref (sa 0)) Ma) ++ (kSA cs sa (e0 0) (e1 0) (e2 0) (e3 0)) ++ (kX5 cs e1 (.ref (n1 0)) G1) ++ (kJ40 cs n1 N1) ++ (kX5 cs e2 (.ref (n2 0)) G2) ++ (kJ40 cs n2 N2) ++ (kX5 cs e3 (.ref (n3 0)) G3) ++ (kJ40 cs n3 N3))) (st1 := []) [.int y2, .int y3] hx hb hml hown hu (tX5_lay l D cs e0 n0 y2 y3 G0 N0 G0_12 N0_13 hg14) q849 q61 q846 q847 q848 pdX5_lay ⟨rfl, rfl, Nat.le_of_ble_eq_true rfl, Nat.le_of_ble_eq_true rfl⟩ hK hZ hP hD hS hA [3, 4] [0, 1, 2, 5, 6, 7, 8, 9, 10] [0, 1, 2, 9, 10, 3, 4, 5, 6, 7, 8] rfl rfl rfl rfl rfl rfl rfl rfl rfl rfl hl.1 rfl (Nat.le_of_ble_eq_true rfl) dX7_sheet_77 rfl (fun H locs hP hD hS => ?_)
            refine lv_aload_n hx hb dX7_sheet_80 rfl (lv_at hl 0 rfl) ?_
            refine va_get (D := D) (ci := 7) (v := .ref (sa 0)) (C := RX7) (T := TX7) (N := 8) hx hb hu inX7 hown hK.1 hP 0 rfl rfl 5 (by decide) (hu _ q305) (fun _ h9 => h9) rfl dX7_sheet_81 ?_
            refine lv_iload_n hx hb dX7_sheet_84 rfl (lv_at hl 1 rfl) ?_
            refine sa_lit (e := e0 0) hx hb hK hP 2 rfl (k := 0) (by rw [hc10]; decide) rfl dX7_sheet_85 ?_
            refine va_get (D := D) (ci := 5) (v := .int (G0_12 0 1)) (C := RX5) (T := TX5) (N := 3) hx hb hu inX5 hown hK.1 hP 3 rfl rfl 1 (by decide) (hu _ q289) (fun _ h9 => h9) rfl dX7_sheet_86 ?_
            have he := Option.some.inj hf
            obtain ⟨e0, ht0⟩ := Prod.mk.inj he
            obtain ⟨e1, ht1⟩ := Prod.mk.inj ht0
            obtain ⟨e2, ht2⟩ := Prod.mk.inj ht1
            obtain ⟨e3, ht3⟩ := Prod.mk.inj ht2
            obtain ⟨e4, ht4⟩ := Prod.mk.inj ht3
            obtain ⟨e5, ht5⟩ := Prod.mk.inj ht4
            obtain ⟨e6, ht6⟩ := Prod.mk.inj ht5
            obtain ⟨e7, ht7⟩ := Prod.mk.inj ht6
            obtain ⟨e8, e9⟩ := Prod.mk.inj ht7
            exact hri _ _ _ rfl (congrArg (fun z => some (Value.int z)) e0.symm) dX7_sheet_89 _ _ _ (by rw [e1, e2, e3, e4, e5, e6, e7, e8, e9]) hP hD hS
          · have hf := ip_el hc11 hf
            refine lv_iconst (v := 0) hx hb dX7_sheet_72 (by decide) ?_
            refine lv_goto (tgt := 77) hx hb dX7_sheet_73 (by decide) ?_
            obtain ⟨G0_15, N0_16, hg17, hf⟩ := b2_el hf
            refine cc_V (w' := ((kX7 cs x (.ref (g 0)) (.ref (g2 0)) (.ref (g3 0)) (.ref (h 0)) (.ref (t 0)) (.ref (sa 0)) Ma) ++ (kSA cs sa (e0 0) (e1 0) (e2 0) (e3 0)) ++ (kX5 cs e0 (.ref (n0 0)) G0_15) ++ (kJ40 cs n0 N0_16) ++ (kX5 cs e1 (.ref (n1 0)) G1) ++ (kJ40 cs n1 N1) ++ (kX5 cs e2 (.ref (n2 0)) G2) ++ (kJ40 cs n2 N2) ++ (kX5 cs e3 (.ref (n3 0)) G3) ++ (kJ40 cs n3 N3))) (wr := ((kX7 cs x (.ref (g 0)) (.ref (g2 0)) (.ref (g3 0)) (.ref (h 0)) (.ref (t 0)) (.ref (sa 0)) Ma) ++ (kSA cs sa (e0 0) (e1 0) (e2 0) (e3 0)) ++ (kX5 cs e1 (.ref (n1 0)) G1) ++ (kJ40 cs n1 N1) ++ (kX5 cs e2 (.ref (n2 0)) G2) ++ (kJ40 cs n2 N2) ++ (kX5 cs e3 (.ref (n3 0)) G3) ++ (kJ40 cs n3 N3))) (st1 := []) [.int y2, .int 0] hx hb hml hown hu (tX5_lay l D cs e0 n0 y2 0 G0 N0 G0_15 N0_16 hg17) q849 q61 q846 q847 q848 pdX5_lay ⟨rfl, rfl, Nat.le_of_ble_eq_true rfl, Nat.le_of_ble_eq_true rfl⟩ hK hZ hP hD hS hA [3, 4] [0, 1, 2, 5, 6, 7, 8, 9, 10] [0, 1, 2, 9, 10, 3, 4, 5, 6, 7, 8] rfl rfl rfl rfl rfl rfl rfl rfl rfl rfl hl.1 rfl (Nat.le_of_ble_eq_true rfl) dX7_sheet_77 rfl (fun H locs hP hD hS => ?_)
            refine lv_aload_n hx hb dX7_sheet_80 rfl (lv_at hl 0 rfl) ?_
            refine va_get (D := D) (ci := 7) (v := .ref (sa 0)) (C := RX7) (T := TX7) (N := 8) hx hb hu inX7 hown hK.1 hP 0 rfl rfl 5 (by decide) (hu _ q305) (fun _ h9 => h9) rfl dX7_sheet_81 ?_
            refine lv_iload_n hx hb dX7_sheet_84 rfl (lv_at hl 1 rfl) ?_
            refine sa_lit (e := e0 0) hx hb hK hP 2 rfl (k := 0) (by rw [hc10]; decide) rfl dX7_sheet_85 ?_
            refine va_get (D := D) (ci := 5) (v := .int (G0_15 0 1)) (C := RX5) (T := TX5) (N := 3) hx hb hu inX5 hown hK.1 hP 3 rfl rfl 1 (by decide) (hu _ q289) (fun _ h9 => h9) rfl dX7_sheet_86 ?_
            have he := Option.some.inj hf
            obtain ⟨e0, ht0⟩ := Prod.mk.inj he
            obtain ⟨e1, ht1⟩ := Prod.mk.inj ht0
            obtain ⟨e2, ht2⟩ := Prod.mk.inj ht1
            obtain ⟨e3, ht3⟩ := Prod.mk.inj ht2
            obtain ⟨e4, ht4⟩ := Prod.mk.inj ht3
            obtain ⟨e5, ht5⟩ := Prod.mk.inj ht4
            obtain ⟨e6, ht6⟩ := Prod.mk.inj ht5
            obtain ⟨e7, ht7⟩ := Prod.mk.inj ht6
            obtain ⟨e8, e9⟩ := Prod.mk.inj ht7
            exact hri _ _ _ rfl (congrArg (fun z => some (Value.int z)) e0.symm) dX7_sheet_89 _ _ _ (by rw [e1, e2, e3, e4, e5, e6, e7, e8, e9]) hP hD hS
        have hf := in_el hc10 hf
        by_cases hc18 : y1 = 1
        · have hf := ip_el hc18 hf
          refine sa_lit (e := e1 0) hx hb hK hP 2 rfl (k := 1) (by rw [hc18]; decide) rfl dX7_sheet_66 ?_
          refine lv_iload_n hx hb dX7_sheet_67 rfl (lv_at hl 2 rfl) ?_
          refine lv_iload_n hx hb dX7_sheet_68 rfl (lv_at hl 2 rfl) ?_
          refine lv_if_ne (tgt := 76) hx hb dX7_sheet_69 (by decide) (fun hc19 => ?_) (fun hc19 => ?_)
          · have hf := in_el hc19 hf
            refine lv_iload_n hx hb dX7_sheet_76 rfl (lv_at hl 3 rfl) ?_
            obtain ⟨G1_20, N1_21, hg22, hf⟩ := b2_el hf
            refine cc_V (w' := ((kX7 cs x (.ref (g 0)) (.ref (g2 0)) (.ref (g3 0)) (.ref (h 0)) (.ref (t 0)) (.ref (sa 0)) Ma) ++ (kSA cs sa (e0 0) (e1 0) (e2 0) (e3 0)) ++ (kX5 cs e0 (.ref (n0 0)) G0) ++ (kJ40 cs n0 N0) ++ (kX5 cs e1 (.ref (n1 0)) G1_20) ++ (kJ40 cs n1 N1_21) ++ (kX5 cs e2 (.ref (n2 0)) G2) ++ (kJ40 cs n2 N2) ++ (kX5 cs e3 (.ref (n3 0)) G3) ++ (kJ40 cs n3 N3))) (wr := ((kX7 cs x (.ref (g 0)) (.ref (g2 0)) (.ref (g3 0)) (.ref (h 0)) (.ref (t 0)) (.ref (sa 0)) Ma) ++ (kSA cs sa (e0 0) (e1 0) (e2 0) (e3 0)) ++ (kX5 cs e0 (.ref (n0 0)) G0) ++ (kJ40 cs n0 N0) ++ (kX5 cs e2 (.ref (n2 0)) G2) ++ (kJ40 cs n2 N2) ++ (kX5 cs e3 (.ref (n3 0)) G3) ++ (kJ40 cs n3 N3))) (st1 := []) [.int y2, .int y3] hx hb hml hown hu (tX5_lay l D cs e1 n1 y2 y3 G1 N1 G1_20 N1_21 hg22) q849 q61 q846 q847 q848 pdX5_lay ⟨rfl, rfl, Nat.le_of_ble_eq_true rfl, Nat.le_of_ble_eq_true rfl⟩ hK hZ hP hD hS hA [5, 6] [0, 1, 2, 3, 4, 7, 8, 9, 10] [0, 1, 2, 3, 4, 9, 10, 5, 6, 7, 8] rfl rfl rfl rfl rfl rfl rfl rfl rfl rfl hl.1 rfl (Nat.le_of_ble_eq_true rfl) dX7_sheet_77 rfl (fun H locs hP hD hS => ?_)
            refine lv_aload_n hx hb dX7_sheet_80 rfl (lv_at hl 0 rfl) ?_
            refine va_get (D := D) (ci := 7) (v := .ref (sa 0)) (C := RX7) (T := TX7) (N := 8) hx hb hu inX7 hown hK.1 hP 0 rfl rfl 5 (by decide) (hu _ q305) (fun _ h9 => h9) rfl dX7_sheet_81 ?_
            refine lv_iload_n hx hb dX7_sheet_84 rfl (lv_at hl 1 rfl) ?_
            refine sa_lit (e := e1 0) hx hb hK hP 2 rfl (k := 1) (by rw [hc18]; decide) rfl dX7_sheet_85 ?_
            refine va_get (D := D) (ci := 5) (v := .int (G1_20 0 1)) (C := RX5) (T := TX5) (N := 3) hx hb hu inX5 hown hK.1 hP 5 rfl rfl 1 (by decide) (hu _ q289) (fun _ h9 => h9) rfl dX7_sheet_86 ?_
            have he := Option.some.inj hf
            obtain ⟨e0, ht0⟩ := Prod.mk.inj he
            obtain ⟨e1, ht1⟩ := Prod.mk.inj ht0
            obtain ⟨e2, ht2⟩ := Prod.mk.inj ht1
            obtain ⟨e3, ht3⟩ := Prod.mk.inj ht2
            obtain ⟨e4, ht4⟩ := Prod.mk.inj ht3
            obtain ⟨e5, ht5⟩ := Prod.mk.inj ht4
            obtain ⟨e6, ht6⟩ := Prod.mk.inj ht5
            obtain ⟨e7, ht7⟩ := Prod.mk.inj ht6
            obtain ⟨e8, e9⟩ := Prod.mk.inj ht7
            exact hri _ _ _ rfl (congrArg (fun z => some (Value.int z)) e0.symm) dX7_sheet_89 _ _ _ (by rw [e1, e2, e3, e4, e5, e6, e7, e8, e9]) hP hD hS
          · have hf := ip_el hc19 hf
            refine lv_iconst (v := 0) hx hb dX7_sheet_72 (by decide) ?_
            refine lv_goto (tgt := 77) hx hb dX7_sheet_73 (by decide) ?_
            obtain ⟨G1_23, N1_24, hg25, hf⟩ := b2_el hf
            refine cc_V (w' := ((kX7 cs x (.ref (g 0)) (.ref (g2 0)) (.ref (g3 0)) (.ref (h 0)) (.ref (t 0)) (.ref (sa 0)) Ma) ++ (kSA cs sa (e0 0) (e1 0) (e2 0) (e3 0)) ++ (kX5 cs e0 (.ref (n0 0)) G0) ++ (kJ40 cs n0 N0) ++ (kX5 cs e1 (.ref (n1 0)) G1_23) ++ (kJ40 cs n1 N1_24) ++ (kX5 cs e2 (.ref (n2 0)) G2) ++ (kJ40 cs n2 N2) ++ (kX5 cs e3 (.ref (n3 0)) G3) ++ (kJ40 cs n3 N3))) (wr := ((kX7 cs x (.ref (g 0)) (.ref (g2 0)) (.ref (g3 0)) (.ref (h 0)) (.ref (t 0)) (.ref (sa 0)) Ma) ++ (kSA cs sa (e0 0) (e1 0) (e2 0) (e3 0)) ++ (kX5 cs e0 (.ref (n0 0)) G0) ++ (kJ40 cs n0 N0) ++ (kX5 cs e2 (.ref (n2 0)) G2) ++ (kJ40 cs n2 N2) ++ (kX5 cs e3 (.ref (n3 0)) G3) ++ (kJ40 cs n3 N3))) (st1 := []) [.int y2, .int 0] hx hb hml hown hu (tX5_lay l D cs e1 n1 y2 0 G1 N1 G1_23 N1_24 hg25) q849 q61 q846 q847 q848 pdX5_lay ⟨rfl, rfl, Nat.le_of_ble_eq_true rfl, Nat.le_of_ble_eq_true rfl⟩ hK hZ hP hD hS hA [5, 6] [0, 1, 2, 3, 4, 7, 8, 9, 10] [0, 1, 2, 3, 4, 9, 10, 5, 6, 7, 8] rfl rfl rfl rfl rfl rfl rfl rfl rfl rfl hl.1 rfl (Nat.le_of_ble_eq_true rfl) dX7_sheet_77 rfl (fun H locs hP hD hS => ?_)
            refine lv_aload_n hx hb dX7_sheet_80 rfl (lv_at hl 0 rfl) ?_
            refine va_get (D := D) (ci := 7) (v := .ref (sa 0)) (C := RX7) (T := TX7) (N := 8) hx hb hu inX7 hown hK.1 hP 0 rfl rfl 5 (by decide) (hu _ q305) (fun _ h9 => h9) rfl dX7_sheet_81 ?_
            refine lv_iload_n hx hb dX7_sheet_84 rfl (lv_at hl 1 rfl) ?_
            refine sa_lit (e := e1 0) hx hb hK hP 2 rfl (k := 1) (by rw [hc18]; decide) rfl dX7_sheet_85 ?_
            refine va_get (D := D) (ci := 5) (v := .int (G1_23 0 1)) (C := RX5) (T := TX5) (N := 3) hx hb hu inX5 hown hK.1 hP 5 rfl rfl 1 (by decide) (hu _ q289) (fun _ h9 => h9) rfl dX7_sheet_86 ?_
            have he := Option.some.inj hf
            obtain ⟨e0, ht0⟩ := Prod.mk.inj he
            obtain ⟨e1, ht1⟩ := Prod.mk.inj ht0
            obtain ⟨e2, ht2⟩ := Prod.mk.inj ht1
            obtain ⟨e3, ht3⟩ := Prod.mk.inj ht2
            obtain ⟨e4, ht4⟩ := Prod.mk.inj ht3
            obtain ⟨e5, ht5⟩ := Prod.mk.inj ht4
            obtain ⟨e6, ht6⟩ := Prod.mk.inj ht5
            obtain ⟨e7, ht7⟩ := Prod.mk.inj ht6
            obtain ⟨e8, e9⟩ := Prod.mk.inj ht7
            exact hri _ _ _ rfl (congrArg (fun z => some (Value.int z)) e0.symm) dX7_sheet_89 _ _ _ (by rw [e1, e2, e3, e4, e5, e6, e7, e8, e9]) hP hD hS
        have hf := in_el hc18 hf
        by_cases hc26 : y1 = 2
        · have hf := ip_el hc26 hf
          refine sa_lit (e := e2 0) hx hb hK hP 2 rfl (k := 2) (by rw [hc26]; decide) rfl dX7_sheet_66 ?_
          refine lv_iload_n hx hb dX7_sheet_67 rfl (lv_at hl 2 rfl) ?_
          refine lv_iload_n hx hb dX7_sheet_68 rfl (lv_at hl 2 rfl) ?_
          refine lv_if_ne (tgt := 76) hx hb dX7_sheet_69 (by decide) (fun hc27 => ?_) (fun hc27 => ?_)
          · have hf := in_el hc27 hf
            refine lv_iload_n hx hb dX7_sheet_76 rfl (lv_at hl 3 rfl) ?_
            obtain ⟨G2_28, N2_29, hg30, hf⟩ := b2_el hf
            refine cc_V (w' := ((kX7 cs x (.ref (g 0)) (.ref (g2 0)) (.ref (g3 0)) (.ref (h 0)) (.ref (t 0)) (.ref (sa 0)) Ma) ++ (kSA cs sa (e0 0) (e1 0) (e2 0) (e3 0)) ++ (kX5 cs e0 (.ref (n0 0)) G0) ++ (kJ40 cs n0 N0) ++ (kX5 cs e1 (.ref (n1 0)) G1) ++ (kJ40 cs n1 N1) ++ (kX5 cs e2 (.ref (n2 0)) G2_28) ++ (kJ40 cs n2 N2_29) ++ (kX5 cs e3 (.ref (n3 0)) G3) ++ (kJ40 cs n3 N3))) (wr := ((kX7 cs x (.ref (g 0)) (.ref (g2 0)) (.ref (g3 0)) (.ref (h 0)) (.ref (t 0)) (.ref (sa 0)) Ma) ++ (kSA cs sa (e0 0) (e1 0) (e2 0) (e3 0)) ++ (kX5 cs e0 (.ref (n0 0)) G0) ++ (kJ40 cs n0 N0) ++ (kX5 cs e1 (.ref (n1 0)) G1) ++ (kJ40 cs n1 N1) ++ (kX5 cs e3 (.ref (n3 0)) G3) ++ (kJ40 cs n3 N3))) (st1 := []) [.int y2, .int y3] hx hb hml hown hu (tX5_lay l D cs e2 n2 y2 y3 G2 N2 G2_28 N2_29 hg30) q849 q61 q846 q847 q848 pdX5_lay ⟨rfl, rfl, Nat.le_of_ble_eq_true rfl, Nat.le_of_ble_eq_true rfl⟩ hK hZ hP hD hS hA [7, 8] [0, 1, 2, 3, 4, 5, 6, 9, 10] [0, 1, 2, 3, 4, 5, 6, 9, 10, 7, 8] rfl rfl rfl rfl rfl rfl rfl rfl rfl rfl hl.1 rfl (Nat.le_of_ble_eq_true rfl) dX7_sheet_77 rfl (fun H locs hP hD hS => ?_)
            refine lv_aload_n hx hb dX7_sheet_80 rfl (lv_at hl 0 rfl) ?_
            refine va_get (D := D) (ci := 7) (v := .ref (sa 0)) (C := RX7) (T := TX7) (N := 8) hx hb hu inX7 hown hK.1 hP 0 rfl rfl 5 (by decide) (hu _ q305) (fun _ h9 => h9) rfl dX7_sheet_81 ?_
            refine lv_iload_n hx hb dX7_sheet_84 rfl (lv_at hl 1 rfl) ?_
            refine sa_lit (e := e2 0) hx hb hK hP 2 rfl (k := 2) (by rw [hc26]; decide) rfl dX7_sheet_85 ?_
            refine va_get (D := D) (ci := 5) (v := .int (G2_28 0 1)) (C := RX5) (T := TX5) (N := 3) hx hb hu inX5 hown hK.1 hP 7 rfl rfl 1 (by decide) (hu _ q289) (fun _ h9 => h9) rfl dX7_sheet_86 ?_
            have he := Option.some.inj hf
            obtain ⟨e0, ht0⟩ := Prod.mk.inj he
            obtain ⟨e1, ht1⟩ := Prod.mk.inj ht0
            obtain ⟨e2, ht2⟩ := Prod.mk.inj ht1
            obtain ⟨e3, ht3⟩ := Prod.mk.inj ht2
            obtain ⟨e4, ht4⟩ := Prod.mk.inj ht3
            obtain ⟨e5, ht5⟩ := Prod.mk.inj ht4
            obtain ⟨e6, ht6⟩ := Prod.mk.inj ht5
            obtain ⟨e7, ht7⟩ := Prod.mk.inj ht6
            obtain ⟨e8, e9⟩ := Prod.mk.inj ht7
            exact hri _ _ _ rfl (congrArg (fun z => some (Value.int z)) e0.symm) dX7_sheet_89 _ _ _ (by rw [e1, e2, e3, e4, e5, e6, e7, e8, e9]) hP hD hS
          · have hf := ip_el hc27 hf
            refine lv_iconst (v := 0) hx hb dX7_sheet_72 (by decide) ?_
            refine lv_goto (tgt := 77) hx hb dX7_sheet_73 (by decide) ?_
            obtain ⟨G2_31, N2_32, hg33, hf⟩ := b2_el hf
            refine cc_V (w' := ((kX7 cs x (.ref (g 0)) (.ref (g2 0)) (.ref (g3 0)) (.ref (h 0)) (.ref (t 0)) (.ref (sa 0)) Ma) ++ (kSA cs sa (e0 0) (e1 0) (e2 0) (e3 0)) ++ (kX5 cs e0 (.ref (n0 0)) G0) ++ (kJ40 cs n0 N0) ++ (kX5 cs e1 (.ref (n1 0)) G1) ++ (kJ40 cs n1 N1) ++ (kX5 cs e2 (.ref (n2 0)) G2_31) ++ (kJ40 cs n2 N2_32) ++ (kX5 cs e3 (.ref (n3 0)) G3) ++ (kJ40 cs n3 N3))) (wr := ((kX7 cs x (.ref (g 0)) (.ref (g2 0)) (.ref (g3 0)) (.ref (h 0)) (.ref (t 0)) (.ref (sa 0)) Ma) ++ (kSA cs sa (e0 0) (e1 0) (e2 0) (e3 0)) ++ (kX5 cs e0 (.ref (n0 0)) G0) ++ (kJ40 cs n0 N0) ++ (kX5 cs e1 (.ref (n1 0)) G1) ++ (kJ40 cs n1 N1) ++ (kX5 cs e3 (.ref (n3 0)) G3) ++ (kJ40 cs n3 N3))) (st1 := []) [.int y2, .int 0] hx hb hml hown hu (tX5_lay l D cs e2 n2 y2 0 G2 N2 G2_31 N2_32 hg33) q849 q61 q846 q847 q848 pdX5_lay ⟨rfl, rfl, Nat.le_of_ble_eq_true rfl, Nat.le_of_ble_eq_true rfl⟩ hK hZ hP hD hS hA [7, 8] [0, 1, 2, 3, 4, 5, 6, 9, 10] [0, 1, 2, 3, 4, 5, 6, 9, 10, 7, 8] rfl rfl rfl rfl rfl rfl rfl rfl rfl rfl hl.1 rfl (Nat.le_of_ble_eq_true rfl) dX7_sheet_77 rfl (fun H locs hP hD hS => ?_)
            refine lv_aload_n hx hb dX7_sheet_80 rfl (lv_at hl 0 rfl) ?_
            refine va_get (D := D) (ci := 7) (v := .ref (sa 0)) (C := RX7) (T := TX7) (N := 8) hx hb hu inX7 hown hK.1 hP 0 rfl rfl 5 (by decide) (hu _ q305) (fun _ h9 => h9) rfl dX7_sheet_81 ?_
            refine lv_iload_n hx hb dX7_sheet_84 rfl (lv_at hl 1 rfl) ?_
            refine sa_lit (e := e2 0) hx hb hK hP 2 rfl (k := 2) (by rw [hc26]; decide) rfl dX7_sheet_85 ?_
            refine va_get (D := D) (ci := 5) (v := .int (G2_31 0 1)) (C := RX5) (T := TX5) (N := 3) hx hb hu inX5 hown hK.1 hP 7 rfl rfl 1 (by decide) (hu _ q289) (fun _ h9 => h9) rfl dX7_sheet_86 ?_
            have he := Option.some.inj hf
            obtain ⟨e0, ht0⟩ := Prod.mk.inj he
            obtain ⟨e1, ht1⟩ := Prod.mk.inj ht0
            obtain ⟨e2, ht2⟩ := Prod.mk.inj ht1
            obtain ⟨e3, ht3⟩ := Prod.mk.inj ht2
            obtain ⟨e4, ht4⟩ := Prod.mk.inj ht3
            obtain ⟨e5, ht5⟩ := Prod.mk.inj ht4
            obtain ⟨e6, ht6⟩ := Prod.mk.inj ht5
            obtain ⟨e7, ht7⟩ := Prod.mk.inj ht6
            obtain ⟨e8, e9⟩ := Prod.mk.inj ht7
            exact hri _ _ _ rfl (congrArg (fun z => some (Value.int z)) e0.symm) dX7_sheet_89 _ _ _ (by rw [e1, e2, e3, e4, e5, e6, e7, e8, e9]) hP hD hS
        have hf := in_el hc26 hf
        by_cases hc34 : y1 = 3
        · have hf := ip_el hc34 hf
          refine sa_lit (e := e3 0) hx hb hK hP 2 rfl (k := 3) (by rw [hc34]; decide) rfl dX7_sheet_66 ?_
          refine lv_iload_n hx hb dX7_sheet_67 rfl (lv_at hl 2 rfl) ?_
          refine lv_iload_n hx hb dX7_sheet_68 rfl (lv_at hl 2 rfl) ?_
          refine lv_if_ne (tgt := 76) hx hb dX7_sheet_69 (by decide) (fun hc35 => ?_) (fun hc35 => ?_)
          · have hf := in_el hc35 hf
            refine lv_iload_n hx hb dX7_sheet_76 rfl (lv_at hl 3 rfl) ?_
            obtain ⟨G3_36, N3_37, hg38, hf⟩ := b2_el hf
            refine cc_V (w' := ((kX7 cs x (.ref (g 0)) (.ref (g2 0)) (.ref (g3 0)) (.ref (h 0)) (.ref (t 0)) (.ref (sa 0)) Ma) ++ (kSA cs sa (e0 0) (e1 0) (e2 0) (e3 0)) ++ (kX5 cs e0 (.ref (n0 0)) G0) ++ (kJ40 cs n0 N0) ++ (kX5 cs e1 (.ref (n1 0)) G1) ++ (kJ40 cs n1 N1) ++ (kX5 cs e2 (.ref (n2 0)) G2) ++ (kJ40 cs n2 N2) ++ (kX5 cs e3 (.ref (n3 0)) G3_36) ++ (kJ40 cs n3 N3_37))) (wr := ((kX7 cs x (.ref (g 0)) (.ref (g2 0)) (.ref (g3 0)) (.ref (h 0)) (.ref (t 0)) (.ref (sa 0)) Ma) ++ (kSA cs sa (e0 0) (e1 0) (e2 0) (e3 0)) ++ (kX5 cs e0 (.ref (n0 0)) G0) ++ (kJ40 cs n0 N0) ++ (kX5 cs e1 (.ref (n1 0)) G1) ++ (kJ40 cs n1 N1) ++ (kX5 cs e2 (.ref (n2 0)) G2) ++ (kJ40 cs n2 N2))) (st1 := []) [.int y2, .int y3] hx hb hml hown hu (tX5_lay l D cs e3 n3 y2 y3 G3 N3 G3_36 N3_37 hg38) q849 q61 q846 q847 q848 pdX5_lay ⟨rfl, rfl, Nat.le_of_ble_eq_true rfl, Nat.le_of_ble_eq_true rfl⟩ hK hZ hP hD hS hA [9, 10] [0, 1, 2, 3, 4, 5, 6, 7, 8] [0, 1, 2, 3, 4, 5, 6, 7, 8, 9, 10] rfl rfl rfl rfl rfl rfl rfl rfl rfl rfl hl.1 rfl (Nat.le_of_ble_eq_true rfl) dX7_sheet_77 rfl (fun H locs hP hD hS => ?_)
            refine lv_aload_n hx hb dX7_sheet_80 rfl (lv_at hl 0 rfl) ?_
            refine va_get (D := D) (ci := 7) (v := .ref (sa 0)) (C := RX7) (T := TX7) (N := 8) hx hb hu inX7 hown hK.1 hP 0 rfl rfl 5 (by decide) (hu _ q305) (fun _ h9 => h9) rfl dX7_sheet_81 ?_
            refine lv_iload_n hx hb dX7_sheet_84 rfl (lv_at hl 1 rfl) ?_
            refine sa_lit (e := e3 0) hx hb hK hP 2 rfl (k := 3) (by rw [hc34]; decide) rfl dX7_sheet_85 ?_
            refine va_get (D := D) (ci := 5) (v := .int (G3_36 0 1)) (C := RX5) (T := TX5) (N := 3) hx hb hu inX5 hown hK.1 hP 9 rfl rfl 1 (by decide) (hu _ q289) (fun _ h9 => h9) rfl dX7_sheet_86 ?_
            have he := Option.some.inj hf
            obtain ⟨e0, ht0⟩ := Prod.mk.inj he
            obtain ⟨e1, ht1⟩ := Prod.mk.inj ht0
            obtain ⟨e2, ht2⟩ := Prod.mk.inj ht1
            obtain ⟨e3, ht3⟩ := Prod.mk.inj ht2
            obtain ⟨e4, ht4⟩ := Prod.mk.inj ht3
            obtain ⟨e5, ht5⟩ := Prod.mk.inj ht4
            obtain ⟨e6, ht6⟩ := Prod.mk.inj ht5
            obtain ⟨e7, ht7⟩ := Prod.mk.inj ht6
            obtain ⟨e8, e9⟩ := Prod.mk.inj ht7
            exact hri _ _ _ rfl (congrArg (fun z => some (Value.int z)) e0.symm) dX7_sheet_89 _ _ _ (by rw [e1, e2, e3, e4, e5, e6, e7, e8, e9]) hP hD hS
          · have hf := ip_el hc35 hf
            refine lv_iconst (v := 0) hx hb dX7_sheet_72 (by decide) ?_
            refine lv_goto (tgt := 77) hx hb dX7_sheet_73 (by decide) ?_
            obtain ⟨G3_39, N3_40, hg41, hf⟩ := b2_el hf
            refine cc_V (w' := ((kX7 cs x (.ref (g 0)) (.ref (g2 0)) (.ref (g3 0)) (.ref (h 0)) (.ref (t 0)) (.ref (sa 0)) Ma) ++ (kSA cs sa (e0 0) (e1 0) (e2 0) (e3 0)) ++ (kX5 cs e0 (.ref (n0 0)) G0) ++ (kJ40 cs n0 N0) ++ (kX5 cs e1 (.ref (n1 0)) G1) ++ (kJ40 cs n1 N1) ++ (kX5 cs e2 (.ref (n2 0)) G2) ++ (kJ40 cs n2 N2) ++ (kX5 cs e3 (.ref (n3 0)) G3_39) ++ (kJ40 cs n3 N3_40))) (wr := ((kX7 cs x (.ref (g 0)) (.ref (g2 0)) (.ref (g3 0)) (.ref (h 0)) (.ref (t 0)) (.ref (sa 0)) Ma) ++ (kSA cs sa (e0 0) (e1 0) (e2 0) (e3 0)) ++ (kX5 cs e0 (.ref (n0 0)) G0) ++ (kJ40 cs n0 N0) ++ (kX5 cs e1 (.ref (n1 0)) G1) ++ (kJ40 cs n1 N1) ++ (kX5 cs e2 (.ref (n2 0)) G2) ++ (kJ40 cs n2 N2))) (st1 := []) [.int y2, .int 0] hx hb hml hown hu (tX5_lay l D cs e3 n3 y2 0 G3 N3 G3_39 N3_40 hg41) q849 q61 q846 q847 q848 pdX5_lay ⟨rfl, rfl, Nat.le_of_ble_eq_true rfl, Nat.le_of_ble_eq_true rfl⟩ hK hZ hP hD hS hA [9, 10] [0, 1, 2, 3, 4, 5, 6, 7, 8] [0, 1, 2, 3, 4, 5, 6, 7, 8, 9, 10] rfl rfl rfl rfl rfl rfl rfl rfl rfl rfl hl.1 rfl (Nat.le_of_ble_eq_true rfl) dX7_sheet_77 rfl (fun H locs hP hD hS => ?_)
            refine lv_aload_n hx hb dX7_sheet_80 rfl (lv_at hl 0 rfl) ?_
            refine va_get (D := D) (ci := 7) (v := .ref (sa 0)) (C := RX7) (T := TX7) (N := 8) hx hb hu inX7 hown hK.1 hP 0 rfl rfl 5 (by decide) (hu _ q305) (fun _ h9 => h9) rfl dX7_sheet_81 ?_
            refine lv_iload_n hx hb dX7_sheet_84 rfl (lv_at hl 1 rfl) ?_
            refine sa_lit (e := e3 0) hx hb hK hP 2 rfl (k := 3) (by rw [hc34]; decide) rfl dX7_sheet_85 ?_
            refine va_get (D := D) (ci := 5) (v := .int (G3_39 0 1)) (C := RX5) (T := TX5) (N := 3) hx hb hu inX5 hown hK.1 hP 9 rfl rfl 1 (by decide) (hu _ q289) (fun _ h9 => h9) rfl dX7_sheet_86 ?_
            have he := Option.some.inj hf
            obtain ⟨e0, ht0⟩ := Prod.mk.inj he
            obtain ⟨e1, ht1⟩ := Prod.mk.inj ht0
            obtain ⟨e2, ht2⟩ := Prod.mk.inj ht1
            obtain ⟨e3, ht3⟩ := Prod.mk.inj ht2
            obtain ⟨e4, ht4⟩ := Prod.mk.inj ht3
            obtain ⟨e5, ht5⟩ := Prod.mk.inj ht4
            obtain ⟨e6, ht6⟩ := Prod.mk.inj ht5
            obtain ⟨e7, ht7⟩ := Prod.mk.inj ht6
            obtain ⟨e8, e9⟩ := Prod.mk.inj ht7
            exact hri _ _ _ rfl (congrArg (fun z => some (Value.int z)) e0.symm) dX7_sheet_89 _ _ _ (by rw [e1, e2, e3, e4, e5, e6, e7, e8, e9]) hP hD hS
        have hf := in_el hc34 hf
        exact no_el hf
      · have hf := in_el hc9 hf
        refine lv_aload_n hx hb dX7_sheet_54 rfl (lv_at hl 0 rfl) ?_
        refine lv_ldc (v := (-1000000001)) hx hb hown (hu _ q335) dX7_sheet_55 ?_
        obtain ⟨r42, Ma_43, hg44, hf⟩ := b2_el hf
        refine cc_V (w' := ((kX7 cs x (.ref (g 0)) (.ref (g2 0)) (.ref (g3 0)) (.ref (h 0)) (.ref (t 0)) (.ref (sa 0)) Ma_43) ++ (kSA cs sa (e0 0) (e1 0) (e2 0) (e3 0)) ++ (kX5 cs e0 (.ref (n0 0)) G0) ++ (kJ40 cs n0 N0) ++ (kX5 cs e1 (.ref (n1 0)) G1) ++ (kJ40 cs n1 N1) ++ (kX5 cs e2 (.ref (n2 0)) G2) ++ (kJ40 cs n2 N2) ++ (kX5 cs e3 (.ref (n3 0)) G3) ++ (kJ40 cs n3 N3))) (wr := ((kSA cs sa (e0 0) (e1 0) (e2 0) (e3 0)) ++ (kX5 cs e0 (.ref (n0 0)) G0) ++ (kJ40 cs n0 N0) ++ (kX5 cs e1 (.ref (n1 0)) G1) ++ (kJ40 cs n1 N1) ++ (kX5 cs e2 (.ref (n2 0)) G2) ++ (kJ40 cs n2 N2) ++ (kX5 cs e3 (.ref (n3 0)) G3) ++ (kJ40 cs n3 N3))) (st1 := [.int r42]) [.int (-1000000001)] hx hb hml hown hu (tX7_finding l D cs x g g2 g3 h t sa (-1000000001) Ma r42 Ma_43 hg44) q339 q54 q336 q338 q0 pdX7_finding ⟨rfl, rfl, Nat.le_of_ble_eq_true rfl, Nat.le_of_ble_eq_true rfl⟩ hK hZ hP hD hS hA [0, 1] [2, 3, 4, 5, 6, 7, 8, 9, 10] [9, 10, 0, 1, 2, 3, 4, 5, 6, 7, 8] rfl rfl rfl rfl rfl rfl rfl rfl rfl rfl hl.1 rfl (Nat.le_of_ble_eq_true rfl) dX7_sheet_57 rfl (fun H locs hP hD hS => ?_)
        have he := Option.some.inj hf
        obtain ⟨e0, ht0⟩ := Prod.mk.inj he
        obtain ⟨e1, ht1⟩ := Prod.mk.inj ht0
        obtain ⟨e2, ht2⟩ := Prod.mk.inj ht1
        obtain ⟨e3, ht3⟩ := Prod.mk.inj ht2
        obtain ⟨e4, ht4⟩ := Prod.mk.inj ht3
        obtain ⟨e5, ht5⟩ := Prod.mk.inj ht4
        obtain ⟨e6, ht6⟩ := Prod.mk.inj ht5
        obtain ⟨e7, ht7⟩ := Prod.mk.inj ht6
        obtain ⟨e8, e9⟩ := Prod.mk.inj ht7
        exact hri _ _ _ rfl (congrArg (fun z => some (Value.int z)) e0.symm) dX7_sheet_60 _ _ _ (by rw [e1, e2, e3, e4, e5, e6, e7, e8, e9]) hP hD hS
    · have hf := in_el hc8 hf
      refine lv_aload_n hx hb dX7_sheet_40 rfl (lv_at hl 0 rfl) ?_
      refine lv_ldcw (v := (-1000000007)) hx hb hown (hu _ q845) dX7_sheet_41 ?_
      obtain ⟨r45, Ma_46, hg47, hf⟩ := b2_el hf
      refine cc_V (w' := ((kX7 cs x (.ref (g 0)) (.ref (g2 0)) (.ref (g3 0)) (.ref (h 0)) (.ref (t 0)) (.ref (sa 0)) Ma_46) ++ (kSA cs sa (e0 0) (e1 0) (e2 0) (e3 0)) ++ (kX5 cs e0 (.ref (n0 0)) G0) ++ (kJ40 cs n0 N0) ++ (kX5 cs e1 (.ref (n1 0)) G1) ++ (kJ40 cs n1 N1) ++ (kX5 cs e2 (.ref (n2 0)) G2) ++ (kJ40 cs n2 N2) ++ (kX5 cs e3 (.ref (n3 0)) G3) ++ (kJ40 cs n3 N3))) (wr := ((kSA cs sa (e0 0) (e1 0) (e2 0) (e3 0)) ++ (kX5 cs e0 (.ref (n0 0)) G0) ++ (kJ40 cs n0 N0) ++ (kX5 cs e1 (.ref (n1 0)) G1) ++ (kJ40 cs n1 N1) ++ (kX5 cs e2 (.ref (n2 0)) G2) ++ (kJ40 cs n2 N2) ++ (kX5 cs e3 (.ref (n3 0)) G3) ++ (kJ40 cs n3 N3))) (st1 := [.int r45]) [.int (-1000000007)] hx hb hml hown hu (tX7_finding l D cs x g g2 g3 h t sa (-1000000007) Ma r45 Ma_46 hg47) q339 q54 q336 q338 q0 pdX7_finding ⟨rfl, rfl, Nat.le_of_ble_eq_true rfl, Nat.le_of_ble_eq_true rfl⟩ hK hZ hP hD hS hA [0, 1] [2, 3, 4, 5, 6, 7, 8, 9, 10] [9, 10, 0, 1, 2, 3, 4, 5, 6, 7, 8] rfl rfl rfl rfl rfl rfl rfl rfl rfl rfl hl.1 rfl (Nat.le_of_ble_eq_true rfl) dX7_sheet_44 rfl (fun H locs hP hD hS => ?_)
      have he := Option.some.inj hf
      obtain ⟨e0, ht0⟩ := Prod.mk.inj he
      obtain ⟨e1, ht1⟩ := Prod.mk.inj ht0
      obtain ⟨e2, ht2⟩ := Prod.mk.inj ht1
      obtain ⟨e3, ht3⟩ := Prod.mk.inj ht2
      obtain ⟨e4, ht4⟩ := Prod.mk.inj ht3
      obtain ⟨e5, ht5⟩ := Prod.mk.inj ht4
      obtain ⟨e6, ht6⟩ := Prod.mk.inj ht5
      obtain ⟨e7, ht7⟩ := Prod.mk.inj ht6
      obtain ⟨e8, e9⟩ := Prod.mk.inj ht7
      exact hri _ _ _ rfl (congrArg (fun z => some (Value.int z)) e0.symm) dX7_sheet_47 _ _ _ (by rw [e1, e2, e3, e4, e5, e6, e7, e8, e9]) hP hD hS
  have hl : lv_has ls0 4 [(0, .ref (x 0)), (1, .int x1), (2, .int x2), (3, .int x3)] := hl0
  have hP := hP0
  have hD := hD0
  have hS := hS0
  unfold fX7_sheet at hf
  refine lv_iload_n hx hb dX7_sheet_0 rfl (lv_at hl 1 rfl) ?_
  obtain ⟨r1, hg2, hf⟩ := b1_el hf
  refine cc_S0 (st1 := [.int r1]) [.int x1] hx hb hml hown hu (tX7_isSheet l D cs x1 r1 hg2) q844 q54 q842 q843 pdX7_isSheet ⟨rfl, rfl, Nat.le_of_ble_eq_true rfl, Nat.le_of_ble_eq_true rfl⟩ hK hZ hP hD hS hA rfl hl.1 rfl (Nat.le_of_ble_eq_true rfl) dX7_sheet_1 rfl (fun H locs hP hD hS => ?_)
  refine lv_if_eq (tgt := 29) hx hb dX7_sheet_4 (by decide) (fun hc3 => ?_) (fun hc3 => ?_)
  · have hf := ip_el hc3 hf
    exact h29 Ma G0 N0 G1 N1 G2 N2 G3 N3 _ _ _ hP hD hS (lv_sub hl [0] rfl) hf
  · have hf := in_el hc3 hf
    refine lv_iload_n hx hb dX7_sheet_7 rfl (lv_at hl 2 rfl) ?_
    refine lv_if_eq (tgt := 36) hx hb dX7_sheet_8 (by decide) (fun hc7 => ?_) (fun hc7 => ?_)
    · have hf := ip_el hc7 hf
      exact h36 x1 x2 x3 Ma G0 N0 G1 N1 G2 N2 G3 N3 _ _ _ hP hD hS (lv_sub hl [0, 1, 2, 3] rfl) hf
    · have hf := in_el hc7 hf
      refine lv_iload_n hx hb dX7_sheet_11 rfl (lv_at hl 2 rfl) ?_
      refine lv_bipush (v := 8) hx hb dX7_sheet_12 (by decide) ?_
      refine lv_icmp_eq (tgt := 36) hx hb dX7_sheet_14 (by decide) (fun hc48 => ?_) (fun hc48 => ?_)
      · have hf := ip_el hc48 hf
        exact h36 x1 x2 x3 Ma G0 N0 G1 N1 G2 N2 G3 N3 _ _ _ hP hD hS (lv_sub hl [0, 1, 2, 3] rfl) hf
      · have hf := in_el hc48 hf
        refine lv_iload_n hx hb dX7_sheet_17 rfl (lv_at hl 2 rfl) ?_
        refine lv_bipush (v := 16) hx hb dX7_sheet_18 (by decide) ?_
        refine lv_icmp_eq (tgt := 36) hx hb dX7_sheet_20 (by decide) (fun hc49 => ?_) (fun hc49 => ?_)
        · have hf := ip_el hc49 hf
          exact h36 x1 x2 x3 Ma G0 N0 G1 N1 G2 N2 G3 N3 _ _ _ hP hD hS (lv_sub hl [0, 1, 2, 3] rfl) hf
        · have hf := in_el hc49 hf
          refine lv_iload_n hx hb dX7_sheet_23 rfl (lv_at hl 2 rfl) ?_
          refine lv_bipush (v := 64) hx hb dX7_sheet_24 (by decide) ?_
          refine lv_icmp_eq (tgt := 36) hx hb dX7_sheet_26 (by decide) (fun hc50 => ?_) (fun hc50 => ?_)
          · have hf := ip_el hc50 hf
            exact h36 x1 x2 x3 Ma G0 N0 G1 N1 G2 N2 G3 N3 _ _ _ hP hD hS (lv_sub hl [0, 1, 2, 3] rfl) hf
          · have hf := in_el hc50 hf
            exact h29 Ma G0 N0 G1 N1 G2 N2 G3 N3 _ _ _ hP hD hS (lv_sub hl [0] rfl) hf

def fX7_write (x1 : Int32) (x2 : Int32) (x3 : Int64) (Ma : ST) (G0 : ST) (N0 : LT) (G1 : ST) (N1 : LT) (G2 : ST) (N2 : LT) (G3 : ST) (N3 : LT) : Option (Int64 × ST × LT × LT × LT × LT) :=
  dc_b1 (fX7_isSheet x1) (fun r1 => (if r1 = 0 then dc_b2 (fX7_finding (-1000000001) Ma) (fun r80 Ma_81 => some ((r80.toInt64), Ma_81, N0, N1, N2, N3)) else (if x1 = 0 then dc_b1 (fX5_isMissing G0) (fun r5 => (if r5 = 0 then dc_b1 (fX7_within x2 0 ((G0 0 1) - 1)) (fun r8 => (if r8 = 0 then dc_b2 (fX7_finding (-1000000001) Ma) (fun r17 Ma_18 => some ((r17.toInt64), Ma_18, N0, N1, N2, N3)) else dc_ck x2 40 (dc_lt (N0 (Int32.toNatClampNeg x2)) (fun v12 => dc_b1 (fX5_lowest x3 G0) (fun r13 => dc_ck x2 40 (dc_lt (vp_updL N0 (Int32.toNatClampNeg x2) r13) (fun N0_16 => some (v12, Ma, N0_16, N1, N2, N3)))))))) else dc_b2 (fX7_finding (-1000000006) Ma) (fun r20 Ma_21 => some ((r20.toInt64), Ma_21, N0, N1, N2, N3)))) else if x1 = 1 then dc_b1 (fX5_isMissing G1) (fun r24 => (if r24 = 0 then dc_b1 (fX7_within x2 0 ((G1 0 1) - 1)) (fun r27 => (if r27 = 0 then dc_b2 (fX7_finding (-1000000001) Ma) (fun r36 Ma_37 => some ((r36.toInt64), Ma_37, N0, N1, N2, N3)) else dc_ck x2 40 (dc_lt (N1 (Int32.toNatClampNeg x2)) (fun v31 => dc_b1 (fX5_lowest x3 G1) (fun r32 => dc_ck x2 40 (dc_lt (vp_updL N1 (Int32.toNatClampNeg x2) r32) (fun N1_35 => some (v31, Ma, N0, N1_35, N2, N3)))))))) else dc_b2 (fX7_finding (-1000000006) Ma) (fun r39 Ma_40 => some ((r39.toInt64), Ma_40, N0, N1, N2, N3)))) else if x1 = 2 then dc_b1 (fX5_isMissing G2) (fun r43 => (if r43 = 0 then dc_b1 (fX7_within x2 0 ((G2 0 1) - 1)) (fun r46 => (if r46 = 0 then dc_b2 (fX7_finding (-1000000001) Ma) (fun r55 Ma_56 => some ((r55.toInt64), Ma_56, N0, N1, N2, N3)) else dc_ck x2 40 (dc_lt (N2 (Int32.toNatClampNeg x2)) (fun v50 => dc_b1 (fX5_lowest x3 G2) (fun r51 => dc_ck x2 40 (dc_lt (vp_updL N2 (Int32.toNatClampNeg x2) r51) (fun N2_54 => some (v50, Ma, N0, N1, N2_54, N3)))))))) else dc_b2 (fX7_finding (-1000000006) Ma) (fun r58 Ma_59 => some ((r58.toInt64), Ma_59, N0, N1, N2, N3)))) else if x1 = 3 then dc_b1 (fX5_isMissing G3) (fun r62 => (if r62 = 0 then dc_b1 (fX7_within x2 0 ((G3 0 1) - 1)) (fun r65 => (if r65 = 0 then dc_b2 (fX7_finding (-1000000001) Ma) (fun r74 Ma_75 => some ((r74.toInt64), Ma_75, N0, N1, N2, N3)) else dc_ck x2 40 (dc_lt (N3 (Int32.toNatClampNeg x2)) (fun v69 => dc_b1 (fX5_lowest x3 G3) (fun r70 => dc_ck x2 40 (dc_lt (vp_updL N3 (Int32.toNatClampNeg x2) r70) (fun N3_73 => some (v69, Ma, N0, N1, N2, N3_73)))))))) else dc_b2 (fX7_finding (-1000000006) Ma) (fun r77 Ma_78 => some ((r77.toInt64), Ma_78, N0, N1, N2, N3)))) else none)))
abbrev rmX7_write : Room := { frames := 2, cells := 0, slots := 0, locals := 42 }
set_option maxRecDepth 100000 in
set_option maxHeartbeats 4000000 in
theorem tX7_write (l : Launch) (D : va_G) (cs : Nat → ClassId) (x : Nat → Nat) (g : Nat → Nat) (g2 : Nat → Nat) (g3 : Nat → Nat) (h : Nat → Nat) (t : Nat → Nat) (sa : Nat → Nat) (e0 : Nat → Nat) (e1 : Nat → Nat) (e2 : Nat → Nat) (e3 : Nat → Nat) (n0 : Nat → Nat) (n1 : Nat → Nat) (n2 : Nat → Nat) (n3 : Nat → Nat) (x1 : Int32) (x2 : Int32) (x3 : Int64) (Ma : ST) (G0 : ST) (N0 : LT) (G1 : ST) (N1 : LT) (G2 : ST) (N2 : LT) (G3 : ST) (N3 : LT) (r0 : Int64) (Maz : ST) (N0z : LT) (N1z : LT) (N2z : LT) (N3z : LT) (hf : fX7_write x1 x2 x3 Ma G0 N0 G1 N1 G2 N2 G3 N3 = some (r0, Maz, N0z, N1z, N2z, N3z)) : CG l yX7_write (wsm yX7_write cX7_write 7 (some .long)) rmX7_write D cs [.ref (x 0), .int x1, .int x2, .long x3] (some (.long r0)) ((kX7 cs x (.ref (g 0)) (.ref (g2 0)) (.ref (g3 0)) (.ref (h 0)) (.ref (t 0)) (.ref (sa 0)) Ma) ++ (kSA cs sa (e0 0) (e1 0) (e2 0) (e3 0)) ++ (kX5 cs e0 (.ref (n0 0)) G0) ++ (kJ40 cs n0 N0) ++ (kX5 cs e1 (.ref (n1 0)) G1) ++ (kJ40 cs n1 N1) ++ (kX5 cs e2 (.ref (n2 0)) G2) ++ (kJ40 cs n2 N2) ++ (kX5 cs e3 (.ref (n3 0)) G3) ++ (kJ40 cs n3 N3)) ((kX7 cs x (.ref (g 0)) (.ref (g2 0)) (.ref (g3 0)) (.ref (h 0)) (.ref (t 0)) (.ref (sa 0)) Maz) ++ (kSA cs sa (e0 0) (e1 0) (e2 0) (e3 0)) ++ (kX5 cs e0 (.ref (n0 0)) G0) ++ (kJ40 cs n0 N0z) ++ (kX5 cs e1 (.ref (n1 0)) G1) ++ (kJ40 cs n1 N1z) ++ (kX5 cs e2 (.ref (n2 0)) G2) ++ (kJ40 cs n2 N2z) ++ (kX5 cs e3 (.ref (n3 0)) G3) ++ (kJ40 cs n3 N3z)) := by
  refine CG.intro (by decide) (Nat.le_of_ble_eq_true rfl) ?_
  intro p e s m below meth c A Q hx hb hml hown hu hK hZ hP0 hD0 hS0 hA hri hrz hrl hrv hra ls0 hl0
  have hl : lv_has ls0 7 [(0, .ref (x 0)), (1, .int x1), (2, .int x2), (3, .long x3)] := hl0
  have hP := hP0
  have hD := hD0
  have hS := hS0
  unfold fX7_write at hf
  refine lv_iload_n hx hb dX7_write_0 rfl (lv_at hl 1 rfl) ?_
  obtain ⟨r1, hg2, hf⟩ := b1_el hf
  refine cc_S0 (st1 := [.int r1]) [.int x1] hx hb hml hown hu (tX7_isSheet l D cs x1 r1 hg2) q844 q54 q842 q843 pdX7_isSheet ⟨rfl, rfl, Nat.le_of_ble_eq_true rfl, Nat.le_of_ble_eq_true rfl⟩ hK hZ hP hD hS hA rfl hl.1 rfl (Nat.le_of_ble_eq_true rfl) dX7_write_1 rfl (fun H locs hP hD hS => ?_)
  refine lv_if_ne (tgt := 15) hx hb dX7_write_4 (by decide) (fun hc3 => ?_) (fun hc3 => ?_)
  · have hf := in_el hc3 hf
    refine lv_aload_n hx hb dX7_write_15 rfl (lv_at hl 0 rfl) ?_
    refine va_get (D := D) (ci := 7) (v := .ref (sa 0)) (C := RX7) (T := TX7) (N := 8) hx hb hu inX7 hown hK.1 hP 0 rfl rfl 5 (by decide) (hu _ q305) (fun _ h9 => h9) rfl dX7_write_16 ?_
    refine lv_iload_n hx hb dX7_write_19 rfl (lv_at hl 1 rfl) ?_
    by_cases hc4 : x1 = 0
    · have hf := ip_el hc4 hf
      refine sa_lit (e := e0 0) hx hb hK hP 2 rfl (k := 0) (by rw [hc4]; decide) rfl dX7_write_20 ?_
      obtain ⟨r5, hg6, hf⟩ := b1_el hf
      refine cc_V (w' := ((kX7 cs x (.ref (g 0)) (.ref (g2 0)) (.ref (g3 0)) (.ref (h 0)) (.ref (t 0)) (.ref (sa 0)) Ma) ++ (kSA cs sa (e0 0) (e1 0) (e2 0) (e3 0)) ++ (kX5 cs e0 (.ref (n0 0)) G0) ++ (kJ40 cs n0 N0) ++ (kX5 cs e1 (.ref (n1 0)) G1) ++ (kJ40 cs n1 N1) ++ (kX5 cs e2 (.ref (n2 0)) G2) ++ (kJ40 cs n2 N2) ++ (kX5 cs e3 (.ref (n3 0)) G3) ++ (kJ40 cs n3 N3))) (wr := ((kX7 cs x (.ref (g 0)) (.ref (g2 0)) (.ref (g3 0)) (.ref (h 0)) (.ref (t 0)) (.ref (sa 0)) Ma) ++ (kSA cs sa (e0 0) (e1 0) (e2 0) (e3 0)) ++ (kJ40 cs n0 N0) ++ (kX5 cs e1 (.ref (n1 0)) G1) ++ (kJ40 cs n1 N1) ++ (kX5 cs e2 (.ref (n2 0)) G2) ++ (kJ40 cs n2 N2) ++ (kX5 cs e3 (.ref (n3 0)) G3) ++ (kJ40 cs n3 N3))) (st1 := [.int r5]) [] hx hb hml hown hu (tX5_isMissing l D cs e0 n0 G0 r5 hg6) q860 q61 q857 q858 q859 pdX5_isMissing ⟨rfl, rfl, Nat.le_of_ble_eq_true rfl, Nat.le_of_ble_eq_true rfl⟩ hK hZ hP hD hS hA [3] [0, 1, 2, 4, 5, 6, 7, 8, 9, 10] [0, 1, 2, 10, 3, 4, 5, 6, 7, 8, 9] rfl rfl rfl rfl rfl rfl rfl rfl rfl rfl hl.1 rfl (Nat.le_of_ble_eq_true rfl) dX7_write_21 rfl (fun H locs hP hD hS => ?_)
      refine lv_if_eq (tgt := 36) hx hb dX7_write_24 (by decide) (fun hc7 => ?_) (fun hc7 => ?_)
      · have hf := ip_el hc7 hf
        refine lv_iload_n hx hb dX7_write_36 rfl (lv_at hl 2 rfl) ?_
        refine lv_iconst (v := 0) hx hb dX7_write_37 (by decide) ?_
        refine lv_aload_n hx hb dX7_write_38 rfl (lv_at hl 0 rfl) ?_
        refine va_get (D := D) (ci := 7) (v := .ref (sa 0)) (C := RX7) (T := TX7) (N := 8) hx hb hu inX7 hown hK.1 hP 0 rfl rfl 5 (by decide) (hu _ q305) (fun _ h9 => h9) rfl dX7_write_39 ?_
        refine lv_iload_n hx hb dX7_write_42 rfl (lv_at hl 1 rfl) ?_
        refine sa_lit (e := e0 0) hx hb hK hP 2 rfl (k := 0) (by rw [hc4]; decide) rfl dX7_write_43 ?_
        refine va_get (D := D) (ci := 5) (v := .int (G0 0 1)) (C := RX5) (T := TX5) (N := 3) hx hb hu inX5 hown hK.1 hP 3 rfl rfl 1 (by decide) (hu _ q289) (fun _ h9 => h9) rfl dX7_write_44 ?_
        refine lv_iconst (v := 1) hx hb dX7_write_47 (by decide) ?_
        refine lv_isub hx hb dX7_write_48 ?_
        obtain ⟨r8, hg9, hf⟩ := b1_el hf
        refine cc_S0 (st1 := [.int r8]) [.int x2, .int 0, .int ((G0 0 1) - 1)] hx hb hml hown hu (tX7_within l D cs x2 0 ((G0 0 1) - 1) r8 hg9) q331 q54 q329 q330 pdX7_within ⟨rfl, rfl, Nat.le_of_ble_eq_true rfl, Nat.le_of_ble_eq_true rfl⟩ hK hZ hP hD hS hA rfl hl.1 rfl (Nat.le_of_ble_eq_true rfl) dX7_write_49 rfl (fun H locs hP hD hS => ?_)
        refine lv_if_ne (tgt := 63) hx hb dX7_write_52 (by decide) (fun hc10 => ?_) (fun hc10 => ?_)
        · have hf := in_el hc10 hf
          refine lv_aload_n hx hb dX7_write_63 rfl (lv_at hl 0 rfl) ?_
          refine va_get (D := D) (ci := 7) (v := .ref (sa 0)) (C := RX7) (T := TX7) (N := 8) hx hb hu inX7 hown hK.1 hP 0 rfl rfl 5 (by decide) (hu _ q305) (fun _ h9 => h9) rfl dX7_write_64 ?_
          refine lv_iload_n hx hb dX7_write_67 rfl (lv_at hl 1 rfl) ?_
          refine sa_lit (e := e0 0) hx hb hK hP 2 rfl (k := 0) (by rw [hc4]; decide) rfl dX7_write_68 ?_
          refine va_get (D := D) (ci := 5) (v := .ref (n0 0)) (C := RX5) (T := TX5) (N := 3) hx hb hu inX5 hown hK.1 hP 3 rfl rfl 2 (by decide) (hu _ q291) (fun _ h9 => h9) rfl dX7_write_69 ?_
          refine lv_iload_n hx hb dX7_write_72 rfl (lv_at hl 2 rfl) ?_
          obtain ⟨hi11, hf⟩ := ck_el hf
          refine va_lald hx hb hK.1 hP 4 1 rfl rfl hi11 dX7_write_73 ?_
          obtain ⟨v12, hv12, hf⟩ := lt_el hf
          refine lv_topel hv12 ?_
          refine lv_lstore (lv' := [(5, .long v12), (0, .ref (x 0)), (1, .int x1), (2, .int x2), (3, .long x3)]) hx hb dX7_write_74 hl (by decide) rfl (fun ls hl => ?_)
          refine lv_aload_n hx hb dX7_write_76 rfl (lv_at hl 1 rfl) ?_
          refine va_get (D := D) (ci := 7) (v := .ref (sa 0)) (C := RX7) (T := TX7) (N := 8) hx hb hu inX7 hown hK.1 hP 0 rfl rfl 5 (by decide) (hu _ q305) (fun _ h9 => h9) rfl dX7_write_77 ?_
          refine lv_iload_n hx hb dX7_write_80 rfl (lv_at hl 2 rfl) ?_
          refine sa_lit (e := e0 0) hx hb hK hP 2 rfl (k := 0) (by rw [hc4]; decide) rfl dX7_write_81 ?_
          refine va_get (D := D) (ci := 5) (v := .ref (n0 0)) (C := RX5) (T := TX5) (N := 3) hx hb hu inX5 hown hK.1 hP 3 rfl rfl 2 (by decide) (hu _ q291) (fun _ h9 => h9) rfl dX7_write_82 ?_
          refine lv_iload_n hx hb dX7_write_85 rfl (lv_at hl 3 rfl) ?_
          refine lv_aload_n hx hb dX7_write_86 rfl (lv_at hl 1 rfl) ?_
          refine va_get (D := D) (ci := 7) (v := .ref (sa 0)) (C := RX7) (T := TX7) (N := 8) hx hb hu inX7 hown hK.1 hP 0 rfl rfl 5 (by decide) (hu _ q305) (fun _ h9 => h9) rfl dX7_write_87 ?_
          refine lv_iload_n hx hb dX7_write_90 rfl (lv_at hl 2 rfl) ?_
          refine sa_lit (e := e0 0) hx hb hK hP 2 rfl (k := 0) (by rw [hc4]; decide) rfl dX7_write_91 ?_
          refine lv_lload_n hx hb dX7_write_92 rfl (lv_at hl 4 rfl) ?_
          obtain ⟨r13, hg14, hf⟩ := b1_el hf
          refine cc_V (w' := ((kX7 cs x (.ref (g 0)) (.ref (g2 0)) (.ref (g3 0)) (.ref (h 0)) (.ref (t 0)) (.ref (sa 0)) Ma) ++ (kSA cs sa (e0 0) (e1 0) (e2 0) (e3 0)) ++ (kX5 cs e0 (.ref (n0 0)) G0) ++ (kJ40 cs n0 N0) ++ (kX5 cs e1 (.ref (n1 0)) G1) ++ (kJ40 cs n1 N1) ++ (kX5 cs e2 (.ref (n2 0)) G2) ++ (kJ40 cs n2 N2) ++ (kX5 cs e3 (.ref (n3 0)) G3) ++ (kJ40 cs n3 N3))) (wr := ((kX7 cs x (.ref (g 0)) (.ref (g2 0)) (.ref (g3 0)) (.ref (h 0)) (.ref (t 0)) (.ref (sa 0)) Ma) ++ (kSA cs sa (e0 0) (e1 0) (e2 0) (e3 0)) ++ (kJ40 cs n0 N0) ++ (kX5 cs e1 (.ref (n1 0)) G1) ++ (kJ40 cs n1 N1) ++ (kX5 cs e2 (.ref (n2 0)) G2) ++ (kJ40 cs n2 N2) ++ (kX5 cs e3 (.ref (n3 0)) G3) ++ (kJ40 cs n3 N3))) (st1 := [.long r13, .int x2, .ref (n0 0)]) [.long x3] hx hb hml hown hu (tX5_lowest l D cs e0 n0 x3 G0 r13 hg14) q865 q61 q862 q863 q864 pdX5_lowest ⟨rfl, rfl, Nat.le_of_ble_eq_true rfl, Nat.le_of_ble_eq_true rfl⟩ hK hZ hP hD hS hA [3] [0, 1, 2, 4, 5, 6, 7, 8, 9, 10] [0, 1, 2, 10, 3, 4, 5, 6, 7, 8, 9] rfl rfl rfl rfl rfl rfl rfl rfl rfl rfl hl.1 rfl (Nat.le_of_ble_eq_true rfl) dX7_write_93 rfl (fun H locs hP hD hS => ?_)
          obtain ⟨hi15, hf⟩ := ck_el hf
          obtain ⟨N0_16, hN0_16, hf⟩ := lt_el hf
          refine va_last hx hb hK.1 hP hD hS 4 1 rfl rfl hi15 dX7_write_96 (fun H locs hP hD hS => ?_)
          have hP : va_P D vwCl ((kX7 cs x (.ref (g 0)) (.ref (g2 0)) (.ref (g3 0)) (.ref (h 0)) (.ref (t 0)) (.ref (sa 0)) Ma) ++ (kSA cs sa (e0 0) (e1 0) (e2 0) (e3 0)) ++ (kX5 cs e0 (.ref (n0 0)) G0) ++ (kJ40 cs n0 N0_16) ++ (kX5 cs e1 (.ref (n1 0)) G1) ++ (kJ40 cs n1 N1) ++ (kX5 cs e2 (.ref (n2 0)) G2) ++ (kJ40 cs n2 N2) ++ (kX5 cs e3 (.ref (n3 0)) G3) ++ (kJ40 cs n3 N3)) H := by rw [hN0_16]; exact hP
          have hD : va_D A ((kX7 cs x (.ref (g 0)) (.ref (g2 0)) (.ref (g3 0)) (.ref (h 0)) (.ref (t 0)) (.ref (sa 0)) Ma) ++ (kSA cs sa (e0 0) (e1 0) (e2 0) (e3 0)) ++ (kX5 cs e0 (.ref (n0 0)) G0) ++ (kJ40 cs n0 N0_16) ++ (kX5 cs e1 (.ref (n1 0)) G1) ++ (kJ40 cs n1 N1) ++ (kX5 cs e2 (.ref (n2 0)) G2) ++ (kJ40 cs n2 N2) ++ (kX5 cs e3 (.ref (n3 0)) G3) ++ (kJ40 cs n3 N3)) := by rw [hN0_16]; exact hD
          refine lv_lload hx hb dX7_write_97 (lv_at hl 0 rfl) ?_
          have he := Option.some.inj hf
          obtain ⟨e0, ht0⟩ := Prod.mk.inj he
          obtain ⟨e1, ht1⟩ := Prod.mk.inj ht0
          obtain ⟨e2, ht2⟩ := Prod.mk.inj ht1
          obtain ⟨e3, ht3⟩ := Prod.mk.inj ht2
          obtain ⟨e4, e5⟩ := Prod.mk.inj ht3
          exact hrl _ _ _ rfl (congrArg (fun z => some (Value.long z)) e0.symm) dX7_write_99 _ _ _ (by rw [e1, e2, e3, e4, e5]) hP hD hS
        · have hf := ip_el hc10 hf
          refine lv_aload_n hx hb dX7_write_55 rfl (lv_at hl 0 rfl) ?_
          refine lv_ldc (v := (-1000000001)) hx hb hown (hu _ q335) dX7_write_56 ?_
          obtain ⟨r17, Ma_18, hg19, hf⟩ := b2_el hf
          refine cc_V (w' := ((kX7 cs x (.ref (g 0)) (.ref (g2 0)) (.ref (g3 0)) (.ref (h 0)) (.ref (t 0)) (.ref (sa 0)) Ma_18) ++ (kSA cs sa (e0 0) (e1 0) (e2 0) (e3 0)) ++ (kX5 cs e0 (.ref (n0 0)) G0) ++ (kJ40 cs n0 N0) ++ (kX5 cs e1 (.ref (n1 0)) G1) ++ (kJ40 cs n1 N1) ++ (kX5 cs e2 (.ref (n2 0)) G2) ++ (kJ40 cs n2 N2) ++ (kX5 cs e3 (.ref (n3 0)) G3) ++ (kJ40 cs n3 N3))) (wr := ((kSA cs sa (e0 0) (e1 0) (e2 0) (e3 0)) ++ (kX5 cs e0 (.ref (n0 0)) G0) ++ (kJ40 cs n0 N0) ++ (kX5 cs e1 (.ref (n1 0)) G1) ++ (kJ40 cs n1 N1) ++ (kX5 cs e2 (.ref (n2 0)) G2) ++ (kJ40 cs n2 N2) ++ (kX5 cs e3 (.ref (n3 0)) G3) ++ (kJ40 cs n3 N3))) (st1 := [.int r17]) [.int (-1000000001)] hx hb hml hown hu (tX7_finding l D cs x g g2 g3 h t sa (-1000000001) Ma r17 Ma_18 hg19) q339 q54 q336 q338 q0 pdX7_finding ⟨rfl, rfl, Nat.le_of_ble_eq_true rfl, Nat.le_of_ble_eq_true rfl⟩ hK hZ hP hD hS hA [0, 1] [2, 3, 4, 5, 6, 7, 8, 9, 10] [9, 10, 0, 1, 2, 3, 4, 5, 6, 7, 8] rfl rfl rfl rfl rfl rfl rfl rfl rfl rfl hl.1 rfl (Nat.le_of_ble_eq_true rfl) dX7_write_58 rfl (fun H locs hP hD hS => ?_)
          refine lv_i2l (v := (r17.toInt64)) hx hb dX7_write_61 rfl ?_
          have he := Option.some.inj hf
          obtain ⟨e0, ht0⟩ := Prod.mk.inj he
          obtain ⟨e1, ht1⟩ := Prod.mk.inj ht0
          obtain ⟨e2, ht2⟩ := Prod.mk.inj ht1
          obtain ⟨e3, ht3⟩ := Prod.mk.inj ht2
          obtain ⟨e4, e5⟩ := Prod.mk.inj ht3
          exact hrl _ _ _ rfl (congrArg (fun z => some (Value.long z)) e0.symm) dX7_write_62 _ _ _ (by rw [e1, e2, e3, e4, e5]) hP hD hS
      · have hf := in_el hc7 hf
        refine lv_aload_n hx hb dX7_write_27 rfl (lv_at hl 0 rfl) ?_
        refine lv_ldcw (v := (-1000000006)) hx hb hown (hu _ q861) dX7_write_28 ?_
        obtain ⟨r20, Ma_21, hg22, hf⟩ := b2_el hf
        refine cc_V (w' := ((kX7 cs x (.ref (g 0)) (.ref (g2 0)) (.ref (g3 0)) (.ref (h 0)) (.ref (t 0)) (.ref (sa 0)) Ma_21) ++ (kSA cs sa (e0 0) (e1 0) (e2 0) (e3 0)) ++ (kX5 cs e0 (.ref (n0 0)) G0) ++ (kJ40 cs n0 N0) ++ (kX5 cs e1 (.ref (n1 0)) G1) ++ (kJ40 cs n1 N1) ++ (kX5 cs e2 (.ref (n2 0)) G2) ++ (kJ40 cs n2 N2) ++ (kX5 cs e3 (.ref (n3 0)) G3) ++ (kJ40 cs n3 N3))) (wr := ((kSA cs sa (e0 0) (e1 0) (e2 0) (e3 0)) ++ (kX5 cs e0 (.ref (n0 0)) G0) ++ (kJ40 cs n0 N0) ++ (kX5 cs e1 (.ref (n1 0)) G1) ++ (kJ40 cs n1 N1) ++ (kX5 cs e2 (.ref (n2 0)) G2) ++ (kJ40 cs n2 N2) ++ (kX5 cs e3 (.ref (n3 0)) G3) ++ (kJ40 cs n3 N3))) (st1 := [.int r20]) [.int (-1000000006)] hx hb hml hown hu (tX7_finding l D cs x g g2 g3 h t sa (-1000000006) Ma r20 Ma_21 hg22) q339 q54 q336 q338 q0 pdX7_finding ⟨rfl, rfl, Nat.le_of_ble_eq_true rfl, Nat.le_of_ble_eq_true rfl⟩ hK hZ hP hD hS hA [0, 1] [2, 3, 4, 5, 6, 7, 8, 9, 10] [9, 10, 0, 1, 2, 3, 4, 5, 6, 7, 8] rfl rfl rfl rfl rfl rfl rfl rfl rfl rfl hl.1 rfl (Nat.le_of_ble_eq_true rfl) dX7_write_31 rfl (fun H locs hP hD hS => ?_)
        refine lv_i2l (v := (r20.toInt64)) hx hb dX7_write_34 rfl ?_
        have he := Option.some.inj hf
        obtain ⟨e0, ht0⟩ := Prod.mk.inj he
        obtain ⟨e1, ht1⟩ := Prod.mk.inj ht0
        obtain ⟨e2, ht2⟩ := Prod.mk.inj ht1
        obtain ⟨e3, ht3⟩ := Prod.mk.inj ht2
        obtain ⟨e4, e5⟩ := Prod.mk.inj ht3
        exact hrl _ _ _ rfl (congrArg (fun z => some (Value.long z)) e0.symm) dX7_write_35 _ _ _ (by rw [e1, e2, e3, e4, e5]) hP hD hS
    have hf := in_el hc4 hf
    by_cases hc23 : x1 = 1
    · have hf := ip_el hc23 hf
      refine sa_lit (e := e1 0) hx hb hK hP 2 rfl (k := 1) (by rw [hc23]; decide) rfl dX7_write_20 ?_
      obtain ⟨r24, hg25, hf⟩ := b1_el hf
      refine cc_V (w' := ((kX7 cs x (.ref (g 0)) (.ref (g2 0)) (.ref (g3 0)) (.ref (h 0)) (.ref (t 0)) (.ref (sa 0)) Ma) ++ (kSA cs sa (e0 0) (e1 0) (e2 0) (e3 0)) ++ (kX5 cs e0 (.ref (n0 0)) G0) ++ (kJ40 cs n0 N0) ++ (kX5 cs e1 (.ref (n1 0)) G1) ++ (kJ40 cs n1 N1) ++ (kX5 cs e2 (.ref (n2 0)) G2) ++ (kJ40 cs n2 N2) ++ (kX5 cs e3 (.ref (n3 0)) G3) ++ (kJ40 cs n3 N3))) (wr := ((kX7 cs x (.ref (g 0)) (.ref (g2 0)) (.ref (g3 0)) (.ref (h 0)) (.ref (t 0)) (.ref (sa 0)) Ma) ++ (kSA cs sa (e0 0) (e1 0) (e2 0) (e3 0)) ++ (kX5 cs e0 (.ref (n0 0)) G0) ++ (kJ40 cs n0 N0) ++ (kJ40 cs n1 N1) ++ (kX5 cs e2 (.ref (n2 0)) G2) ++ (kJ40 cs n2 N2) ++ (kX5 cs e3 (.ref (n3 0)) G3) ++ (kJ40 cs n3 N3))) (st1 := [.int r24]) [] hx hb hml hown hu (tX5_isMissing l D cs e1 n1 G1 r24 hg25) q860 q61 q857 q858 q859 pdX5_isMissing ⟨rfl, rfl, Nat.le_of_ble_eq_true rfl, Nat.le_of_ble_eq_true rfl⟩ hK hZ hP hD hS hA [5] [0, 1, 2, 3, 4, 6, 7, 8, 9, 10] [0, 1, 2, 3, 4, 10, 5, 6, 7, 8, 9] rfl rfl rfl rfl rfl rfl rfl rfl rfl rfl hl.1 rfl (Nat.le_of_ble_eq_true rfl) dX7_write_21 rfl (fun H locs hP hD hS => ?_)
      refine lv_if_eq (tgt := 36) hx hb dX7_write_24 (by decide) (fun hc26 => ?_) (fun hc26 => ?_)
      · have hf := ip_el hc26 hf
        refine lv_iload_n hx hb dX7_write_36 rfl (lv_at hl 2 rfl) ?_
        refine lv_iconst (v := 0) hx hb dX7_write_37 (by decide) ?_
        refine lv_aload_n hx hb dX7_write_38 rfl (lv_at hl 0 rfl) ?_
        refine va_get (D := D) (ci := 7) (v := .ref (sa 0)) (C := RX7) (T := TX7) (N := 8) hx hb hu inX7 hown hK.1 hP 0 rfl rfl 5 (by decide) (hu _ q305) (fun _ h9 => h9) rfl dX7_write_39 ?_
        refine lv_iload_n hx hb dX7_write_42 rfl (lv_at hl 1 rfl) ?_
        refine sa_lit (e := e1 0) hx hb hK hP 2 rfl (k := 1) (by rw [hc23]; decide) rfl dX7_write_43 ?_
        refine va_get (D := D) (ci := 5) (v := .int (G1 0 1)) (C := RX5) (T := TX5) (N := 3) hx hb hu inX5 hown hK.1 hP 5 rfl rfl 1 (by decide) (hu _ q289) (fun _ h9 => h9) rfl dX7_write_44 ?_
        refine lv_iconst (v := 1) hx hb dX7_write_47 (by decide) ?_
        refine lv_isub hx hb dX7_write_48 ?_
        obtain ⟨r27, hg28, hf⟩ := b1_el hf
        refine cc_S0 (st1 := [.int r27]) [.int x2, .int 0, .int ((G1 0 1) - 1)] hx hb hml hown hu (tX7_within l D cs x2 0 ((G1 0 1) - 1) r27 hg28) q331 q54 q329 q330 pdX7_within ⟨rfl, rfl, Nat.le_of_ble_eq_true rfl, Nat.le_of_ble_eq_true rfl⟩ hK hZ hP hD hS hA rfl hl.1 rfl (Nat.le_of_ble_eq_true rfl) dX7_write_49 rfl (fun H locs hP hD hS => ?_)
        refine lv_if_ne (tgt := 63) hx hb dX7_write_52 (by decide) (fun hc29 => ?_) (fun hc29 => ?_)
        · have hf := in_el hc29 hf
          refine lv_aload_n hx hb dX7_write_63 rfl (lv_at hl 0 rfl) ?_
          refine va_get (D := D) (ci := 7) (v := .ref (sa 0)) (C := RX7) (T := TX7) (N := 8) hx hb hu inX7 hown hK.1 hP 0 rfl rfl 5 (by decide) (hu _ q305) (fun _ h9 => h9) rfl dX7_write_64 ?_
          refine lv_iload_n hx hb dX7_write_67 rfl (lv_at hl 1 rfl) ?_
          refine sa_lit (e := e1 0) hx hb hK hP 2 rfl (k := 1) (by rw [hc23]; decide) rfl dX7_write_68 ?_
          refine va_get (D := D) (ci := 5) (v := .ref (n1 0)) (C := RX5) (T := TX5) (N := 3) hx hb hu inX5 hown hK.1 hP 5 rfl rfl 2 (by decide) (hu _ q291) (fun _ h9 => h9) rfl dX7_write_69 ?_
          refine lv_iload_n hx hb dX7_write_72 rfl (lv_at hl 2 rfl) ?_
          obtain ⟨hi30, hf⟩ := ck_el hf
          refine va_lald hx hb hK.1 hP 6 1 rfl rfl hi30 dX7_write_73 ?_
          obtain ⟨v31, hv31, hf⟩ := lt_el hf
          refine lv_topel hv31 ?_
          refine lv_lstore (lv' := [(5, .long v31), (0, .ref (x 0)), (1, .int x1), (2, .int x2), (3, .long x3)]) hx hb dX7_write_74 hl (by decide) rfl (fun ls hl => ?_)
          refine lv_aload_n hx hb dX7_write_76 rfl (lv_at hl 1 rfl) ?_
          refine va_get (D := D) (ci := 7) (v := .ref (sa 0)) (C := RX7) (T := TX7) (N := 8) hx hb hu inX7 hown hK.1 hP 0 rfl rfl 5 (by decide) (hu _ q305) (fun _ h9 => h9) rfl dX7_write_77 ?_
          refine lv_iload_n hx hb dX7_write_80 rfl (lv_at hl 2 rfl) ?_
          refine sa_lit (e := e1 0) hx hb hK hP 2 rfl (k := 1) (by rw [hc23]; decide) rfl dX7_write_81 ?_
          refine va_get (D := D) (ci := 5) (v := .ref (n1 0)) (C := RX5) (T := TX5) (N := 3) hx hb hu inX5 hown hK.1 hP 5 rfl rfl 2 (by decide) (hu _ q291) (fun _ h9 => h9) rfl dX7_write_82 ?_
          refine lv_iload_n hx hb dX7_write_85 rfl (lv_at hl 3 rfl) ?_
          refine lv_aload_n hx hb dX7_write_86 rfl (lv_at hl 1 rfl) ?_
          refine va_get (D := D) (ci := 7) (v := .ref (sa 0)) (C := RX7) (T := TX7) (N := 8) hx hb hu inX7 hown hK.1 hP 0 rfl rfl 5 (by decide) (hu _ q305) (fun _ h9 => h9) rfl dX7_write_87 ?_
          refine lv_iload_n hx hb dX7_write_90 rfl (lv_at hl 2 rfl) ?_
          refine sa_lit (e := e1 0) hx hb hK hP 2 rfl (k := 1) (by rw [hc23]; decide) rfl dX7_write_91 ?_
          refine lv_lload_n hx hb dX7_write_92 rfl (lv_at hl 4 rfl) ?_
          obtain ⟨r32, hg33, hf⟩ := b1_el hf
          refine cc_V (w' := ((kX7 cs x (.ref (g 0)) (.ref (g2 0)) (.ref (g3 0)) (.ref (h 0)) (.ref (t 0)) (.ref (sa 0)) Ma) ++ (kSA cs sa (e0 0) (e1 0) (e2 0) (e3 0)) ++ (kX5 cs e0 (.ref (n0 0)) G0) ++ (kJ40 cs n0 N0) ++ (kX5 cs e1 (.ref (n1 0)) G1) ++ (kJ40 cs n1 N1) ++ (kX5 cs e2 (.ref (n2 0)) G2) ++ (kJ40 cs n2 N2) ++ (kX5 cs e3 (.ref (n3 0)) G3) ++ (kJ40 cs n3 N3))) (wr := ((kX7 cs x (.ref (g 0)) (.ref (g2 0)) (.ref (g3 0)) (.ref (h 0)) (.ref (t 0)) (.ref (sa 0)) Ma) ++ (kSA cs sa (e0 0) (e1 0) (e2 0) (e3 0)) ++ (kX5 cs e0 (.ref (n0 0)) G0) ++ (kJ40 cs n0 N0) ++ (kJ40 cs n1 N1) ++ (kX5 cs e2 (.ref (n2 0)) G2) ++ (kJ40 cs n2 N2) ++ (kX5 cs e3 (.ref (n3 0)) G3) ++ (kJ40 cs n3 N3))) (st1 := [.long r32, .int x2, .ref (n1 0)]) [.long x3] hx hb hml hown hu (tX5_lowest l D cs e1 n1 x3 G1 r32 hg33) q865 q61 q862 q863 q864 pdX5_lowest ⟨rfl, rfl, Nat.le_of_ble_eq_true rfl, Nat.le_of_ble_eq_true rfl⟩ hK hZ hP hD hS hA [5] [0, 1, 2, 3, 4, 6, 7, 8, 9, 10] [0, 1, 2, 3, 4, 10, 5, 6, 7, 8, 9] rfl rfl rfl rfl rfl rfl rfl rfl rfl rfl hl.1 rfl (Nat.le_of_ble_eq_true rfl) dX7_write_93 rfl (fun H locs hP hD hS => ?_)
          obtain ⟨hi34, hf⟩ := ck_el hf
          obtain ⟨N1_35, hN1_35, hf⟩ := lt_el hf
          refine va_last hx hb hK.1 hP hD hS 6 1 rfl rfl hi34 dX7_write_96 (fun H locs hP hD hS => ?_)
          have hP : va_P D vwCl ((kX7 cs x (.ref (g 0)) (.ref (g2 0)) (.ref (g3 0)) (.ref (h 0)) (.ref (t 0)) (.ref (sa 0)) Ma) ++ (kSA cs sa (e0 0) (e1 0) (e2 0) (e3 0)) ++ (kX5 cs e0 (.ref (n0 0)) G0) ++ (kJ40 cs n0 N0) ++ (kX5 cs e1 (.ref (n1 0)) G1) ++ (kJ40 cs n1 N1_35) ++ (kX5 cs e2 (.ref (n2 0)) G2) ++ (kJ40 cs n2 N2) ++ (kX5 cs e3 (.ref (n3 0)) G3) ++ (kJ40 cs n3 N3)) H := by rw [hN1_35]; exact hP
          have hD : va_D A ((kX7 cs x (.ref (g 0)) (.ref (g2 0)) (.ref (g3 0)) (.ref (h 0)) (.ref (t 0)) (.ref (sa 0)) Ma) ++ (kSA cs sa (e0 0) (e1 0) (e2 0) (e3 0)) ++ (kX5 cs e0 (.ref (n0 0)) G0) ++ (kJ40 cs n0 N0) ++ (kX5 cs e1 (.ref (n1 0)) G1) ++ (kJ40 cs n1 N1_35) ++ (kX5 cs e2 (.ref (n2 0)) G2) ++ (kJ40 cs n2 N2) ++ (kX5 cs e3 (.ref (n3 0)) G3) ++ (kJ40 cs n3 N3)) := by rw [hN1_35]; exact hD
          refine lv_lload hx hb dX7_write_97 (lv_at hl 0 rfl) ?_
          have he := Option.some.inj hf
          obtain ⟨e0, ht0⟩ := Prod.mk.inj he
          obtain ⟨e1, ht1⟩ := Prod.mk.inj ht0
          obtain ⟨e2, ht2⟩ := Prod.mk.inj ht1
          obtain ⟨e3, ht3⟩ := Prod.mk.inj ht2
          obtain ⟨e4, e5⟩ := Prod.mk.inj ht3
          exact hrl _ _ _ rfl (congrArg (fun z => some (Value.long z)) e0.symm) dX7_write_99 _ _ _ (by rw [e1, e2, e3, e4, e5]) hP hD hS
        · have hf := ip_el hc29 hf
          refine lv_aload_n hx hb dX7_write_55 rfl (lv_at hl 0 rfl) ?_
          refine lv_ldc (v := (-1000000001)) hx hb hown (hu _ q335) dX7_write_56 ?_
          obtain ⟨r36, Ma_37, hg38, hf⟩ := b2_el hf
          refine cc_V (w' := ((kX7 cs x (.ref (g 0)) (.ref (g2 0)) (.ref (g3 0)) (.ref (h 0)) (.ref (t 0)) (.ref (sa 0)) Ma_37) ++ (kSA cs sa (e0 0) (e1 0) (e2 0) (e3 0)) ++ (kX5 cs e0 (.ref (n0 0)) G0) ++ (kJ40 cs n0 N0) ++ (kX5 cs e1 (.ref (n1 0)) G1) ++ (kJ40 cs n1 N1) ++ (kX5 cs e2 (.ref (n2 0)) G2) ++ (kJ40 cs n2 N2) ++ (kX5 cs e3 (.ref (n3 0)) G3) ++ (kJ40 cs n3 N3))) (wr := ((kSA cs sa (e0 0) (e1 0) (e2 0) (e3 0)) ++ (kX5 cs e0 (.ref (n0 0)) G0) ++ (kJ40 cs n0 N0) ++ (kX5 cs e1 (.ref (n1 0)) G1) ++ (kJ40 cs n1 N1) ++ (kX5 cs e2 (.ref (n2 0)) G2) ++ (kJ40 cs n2 N2) ++ (kX5 cs e3 (.ref (n3 0)) G3) ++ (kJ40 cs n3 N3))) (st1 := [.int r36]) [.int (-1000000001)] hx hb hml hown hu (tX7_finding l D cs x g g2 g3 h t sa (-1000000001) Ma r36 Ma_37 hg38) q339 q54 q336 q338 q0 pdX7_finding ⟨rfl, rfl, Nat.le_of_ble_eq_true rfl, Nat.le_of_ble_eq_true rfl⟩ hK hZ hP hD hS hA [0, 1] [2, 3, 4, 5, 6, 7, 8, 9, 10] [9, 10, 0, 1, 2, 3, 4, 5, 6, 7, 8] rfl rfl rfl rfl rfl rfl rfl rfl rfl rfl hl.1 rfl (Nat.le_of_ble_eq_true rfl) dX7_write_58 rfl (fun H locs hP hD hS => ?_)
          refine lv_i2l (v := (r36.toInt64)) hx hb dX7_write_61 rfl ?_
          have he := Option.some.inj hf
          obtain ⟨e0, ht0⟩ := Prod.mk.inj he
          obtain ⟨e1, ht1⟩ := Prod.mk.inj ht0
          obtain ⟨e2, ht2⟩ := Prod.mk.inj ht1
          obtain ⟨e3, ht3⟩ := Prod.mk.inj ht2
          obtain ⟨e4, e5⟩ := Prod.mk.inj ht3
          exact hrl _ _ _ rfl (congrArg (fun z => some (Value.long z)) e0.symm) dX7_write_62 _ _ _ (by rw [e1, e2, e3, e4, e5]) hP hD hS
      · have hf := in_el hc26 hf
        refine lv_aload_n hx hb dX7_write_27 rfl (lv_at hl 0 rfl) ?_
        refine lv_ldcw (v := (-1000000006)) hx hb hown (hu _ q861) dX7_write_28 ?_
        obtain ⟨r39, Ma_40, hg41, hf⟩ := b2_el hf
        refine cc_V (w' := ((kX7 cs x (.ref (g 0)) (.ref (g2 0)) (.ref (g3 0)) (.ref (h 0)) (.ref (t 0)) (.ref (sa 0)) Ma_40) ++ (kSA cs sa (e0 0) (e1 0) (e2 0) (e3 0)) ++ (kX5 cs e0 (.ref (n0 0)) G0) ++ (kJ40 cs n0 N0) ++ (kX5 cs e1 (.ref (n1 0)) G1) ++ (kJ40 cs n1 N1) ++ (kX5 cs e2 (.ref (n2 0)) G2) ++ (kJ40 cs n2 N2) ++ (kX5 cs e3 (.ref (n3 0)) G3) ++ (kJ40 cs n3 N3))) (wr := ((kSA cs sa (e0 0) (e1 0) (e2 0) (e3 0)) ++ (kX5 cs e0 (.ref (n0 0)) G0) ++ (kJ40 cs n0 N0) ++ (kX5 cs e1 (.ref (n1 0)) G1) ++ (kJ40 cs n1 N1) ++ (kX5 cs e2 (.ref (n2 0)) G2) ++ (kJ40 cs n2 N2) ++ (kX5 cs e3 (.ref (n3 0)) G3) ++ (kJ40 cs n3 N3))) (st1 := [.int r39]) [.int (-1000000006)] hx hb hml hown hu (tX7_finding l D cs x g g2 g3 h t sa (-1000000006) Ma r39 Ma_40 hg41) q339 q54 q336 q338 q0 pdX7_finding ⟨rfl, rfl, Nat.le_of_ble_eq_true rfl, Nat.le_of_ble_eq_true rfl⟩ hK hZ hP hD hS hA [0, 1] [2, 3, 4, 5, 6, 7, 8, 9, 10] [9, 10, 0, 1, 2, 3, 4, 5, 6, 7, 8] rfl rfl rfl rfl rfl rfl rfl rfl rfl rfl hl.1 rfl (Nat.le_of_ble_eq_true rfl) dX7_write_31 rfl (fun H locs hP hD hS => ?_)
        refine lv_i2l (v := (r39.toInt64)) hx hb dX7_write_34 rfl ?_
        have he := Option.some.inj hf
        obtain ⟨e0, ht0⟩ := Prod.mk.inj he
        obtain ⟨e1, ht1⟩ := Prod.mk.inj ht0
        obtain ⟨e2, ht2⟩ := Prod.mk.inj ht1
        obtain ⟨e3, ht3⟩ := Prod.mk.inj ht2
        obtain ⟨e4, e5⟩ := Prod.mk.inj ht3
        exact hrl _ _ _ rfl (congrArg (fun z => some (Value.long z)) e0.symm) dX7_write_35 _ _ _ (by rw [e1, e2, e3, e4, e5]) hP hD hS
    have hf := in_el hc23 hf
    by_cases hc42 : x1 = 2
    · have hf := ip_el hc42 hf
      refine sa_lit (e := e2 0) hx hb hK hP 2 rfl (k := 2) (by rw [hc42]; decide) rfl dX7_write_20 ?_
      obtain ⟨r43, hg44, hf⟩ := b1_el hf
      refine cc_V (w' := ((kX7 cs x (.ref (g 0)) (.ref (g2 0)) (.ref (g3 0)) (.ref (h 0)) (.ref (t 0)) (.ref (sa 0)) Ma) ++ (kSA cs sa (e0 0) (e1 0) (e2 0) (e3 0)) ++ (kX5 cs e0 (.ref (n0 0)) G0) ++ (kJ40 cs n0 N0) ++ (kX5 cs e1 (.ref (n1 0)) G1) ++ (kJ40 cs n1 N1) ++ (kX5 cs e2 (.ref (n2 0)) G2) ++ (kJ40 cs n2 N2) ++ (kX5 cs e3 (.ref (n3 0)) G3) ++ (kJ40 cs n3 N3))) (wr := ((kX7 cs x (.ref (g 0)) (.ref (g2 0)) (.ref (g3 0)) (.ref (h 0)) (.ref (t 0)) (.ref (sa 0)) Ma) ++ (kSA cs sa (e0 0) (e1 0) (e2 0) (e3 0)) ++ (kX5 cs e0 (.ref (n0 0)) G0) ++ (kJ40 cs n0 N0) ++ (kX5 cs e1 (.ref (n1 0)) G1) ++ (kJ40 cs n1 N1) ++ (kJ40 cs n2 N2) ++ (kX5 cs e3 (.ref (n3 0)) G3) ++ (kJ40 cs n3 N3))) (st1 := [.int r43]) [] hx hb hml hown hu (tX5_isMissing l D cs e2 n2 G2 r43 hg44) q860 q61 q857 q858 q859 pdX5_isMissing ⟨rfl, rfl, Nat.le_of_ble_eq_true rfl, Nat.le_of_ble_eq_true rfl⟩ hK hZ hP hD hS hA [7] [0, 1, 2, 3, 4, 5, 6, 8, 9, 10] [0, 1, 2, 3, 4, 5, 6, 10, 7, 8, 9] rfl rfl rfl rfl rfl rfl rfl rfl rfl rfl hl.1 rfl (Nat.le_of_ble_eq_true rfl) dX7_write_21 rfl (fun H locs hP hD hS => ?_)
      refine lv_if_eq (tgt := 36) hx hb dX7_write_24 (by decide) (fun hc45 => ?_) (fun hc45 => ?_)
      · have hf := ip_el hc45 hf
        refine lv_iload_n hx hb dX7_write_36 rfl (lv_at hl 2 rfl) ?_
        refine lv_iconst (v := 0) hx hb dX7_write_37 (by decide) ?_
        refine lv_aload_n hx hb dX7_write_38 rfl (lv_at hl 0 rfl) ?_
        refine va_get (D := D) (ci := 7) (v := .ref (sa 0)) (C := RX7) (T := TX7) (N := 8) hx hb hu inX7 hown hK.1 hP 0 rfl rfl 5 (by decide) (hu _ q305) (fun _ h9 => h9) rfl dX7_write_39 ?_
        refine lv_iload_n hx hb dX7_write_42 rfl (lv_at hl 1 rfl) ?_
        refine sa_lit (e := e2 0) hx hb hK hP 2 rfl (k := 2) (by rw [hc42]; decide) rfl dX7_write_43 ?_
        refine va_get (D := D) (ci := 5) (v := .int (G2 0 1)) (C := RX5) (T := TX5) (N := 3) hx hb hu inX5 hown hK.1 hP 7 rfl rfl 1 (by decide) (hu _ q289) (fun _ h9 => h9) rfl dX7_write_44 ?_
        refine lv_iconst (v := 1) hx hb dX7_write_47 (by decide) ?_
        refine lv_isub hx hb dX7_write_48 ?_
        obtain ⟨r46, hg47, hf⟩ := b1_el hf
        refine cc_S0 (st1 := [.int r46]) [.int x2, .int 0, .int ((G2 0 1) - 1)] hx hb hml hown hu (tX7_within l D cs x2 0 ((G2 0 1) - 1) r46 hg47) q331 q54 q329 q330 pdX7_within ⟨rfl, rfl, Nat.le_of_ble_eq_true rfl, Nat.le_of_ble_eq_true rfl⟩ hK hZ hP hD hS hA rfl hl.1 rfl (Nat.le_of_ble_eq_true rfl) dX7_write_49 rfl (fun H locs hP hD hS => ?_)
        refine lv_if_ne (tgt := 63) hx hb dX7_write_52 (by decide) (fun hc48 => ?_) (fun hc48 => ?_)
        · have hf := in_el hc48 hf
          refine lv_aload_n hx hb dX7_write_63 rfl (lv_at hl 0 rfl) ?_
          refine va_get (D := D) (ci := 7) (v := .ref (sa 0)) (C := RX7) (T := TX7) (N := 8) hx hb hu inX7 hown hK.1 hP 0 rfl rfl 5 (by decide) (hu _ q305) (fun _ h9 => h9) rfl dX7_write_64 ?_
          refine lv_iload_n hx hb dX7_write_67 rfl (lv_at hl 1 rfl) ?_
          refine sa_lit (e := e2 0) hx hb hK hP 2 rfl (k := 2) (by rw [hc42]; decide) rfl dX7_write_68 ?_
          refine va_get (D := D) (ci := 5) (v := .ref (n2 0)) (C := RX5) (T := TX5) (N := 3) hx hb hu inX5 hown hK.1 hP 7 rfl rfl 2 (by decide) (hu _ q291) (fun _ h9 => h9) rfl dX7_write_69 ?_
          refine lv_iload_n hx hb dX7_write_72 rfl (lv_at hl 2 rfl) ?_
          obtain ⟨hi49, hf⟩ := ck_el hf
          refine va_lald hx hb hK.1 hP 8 1 rfl rfl hi49 dX7_write_73 ?_
          obtain ⟨v50, hv50, hf⟩ := lt_el hf
          refine lv_topel hv50 ?_
          refine lv_lstore (lv' := [(5, .long v50), (0, .ref (x 0)), (1, .int x1), (2, .int x2), (3, .long x3)]) hx hb dX7_write_74 hl (by decide) rfl (fun ls hl => ?_)
          refine lv_aload_n hx hb dX7_write_76 rfl (lv_at hl 1 rfl) ?_
          refine va_get (D := D) (ci := 7) (v := .ref (sa 0)) (C := RX7) (T := TX7) (N := 8) hx hb hu inX7 hown hK.1 hP 0 rfl rfl 5 (by decide) (hu _ q305) (fun _ h9 => h9) rfl dX7_write_77 ?_
          refine lv_iload_n hx hb dX7_write_80 rfl (lv_at hl 2 rfl) ?_
          refine sa_lit (e := e2 0) hx hb hK hP 2 rfl (k := 2) (by rw [hc42]; decide) rfl dX7_write_81 ?_
          refine va_get (D := D) (ci := 5) (v := .ref (n2 0)) (C := RX5) (T := TX5) (N := 3) hx hb hu inX5 hown hK.1 hP 7 rfl rfl 2 (by decide) (hu _ q291) (fun _ h9 => h9) rfl dX7_write_82 ?_
          refine lv_iload_n hx hb dX7_write_85 rfl (lv_at hl 3 rfl) ?_
          refine lv_aload_n hx hb dX7_write_86 rfl (lv_at hl 1 rfl) ?_
          refine va_get (D := D) (ci := 7) (v := .ref (sa 0)) (C := RX7) (T := TX7) (N := 8) hx hb hu inX7 hown hK.1 hP 0 rfl rfl 5 (by decide) (hu _ q305) (fun _ h9 => h9) rfl dX7_write_87 ?_
          refine lv_iload_n hx hb dX7_write_90 rfl (lv_at hl 2 rfl) ?_
          refine sa_lit (e := e2 0) hx hb hK hP 2 rfl (k := 2) (by rw [hc42]; decide) rfl dX7_write_91 ?_
          refine lv_lload_n hx hb dX7_write_92 rfl (lv_at hl 4 rfl) ?_
          obtain ⟨r51, hg52, hf⟩ := b1_el hf
          refine cc_V (w' := ((kX7 cs x (.ref (g 0)) (.ref (g2 0)) (.ref (g3 0)) (.ref (h 0)) (.ref (t 0)) (.ref (sa 0)) Ma) ++ (kSA cs sa (e0 0) (e1 0) (e2 0) (e3 0)) ++ (kX5 cs e0 (.ref (n0 0)) G0) ++ (kJ40 cs n0 N0) ++ (kX5 cs e1 (.ref (n1 0)) G1) ++ (kJ40 cs n1 N1) ++ (kX5 cs e2 (.ref (n2 0)) G2) ++ (kJ40 cs n2 N2) ++ (kX5 cs e3 (.ref (n3 0)) G3) ++ (kJ40 cs n3 N3))) (wr := ((kX7 cs x (.ref (g 0)) (.ref (g2 0)) (.ref (g3 0)) (.ref (h 0)) (.ref (t 0)) (.ref (sa 0)) Ma) ++ (kSA cs sa (e0 0) (e1 0) (e2 0) (e3 0)) ++ (kX5 cs e0 (.ref (n0 0)) G0) ++ (kJ40 cs n0 N0) ++ (kX5 cs e1 (.ref (n1 0)) G1) ++ (kJ40 cs n1 N1) ++ (kJ40 cs n2 N2) ++ (kX5 cs e3 (.ref (n3 0)) G3) ++ (kJ40 cs n3 N3))) (st1 := [.long r51, .int x2, .ref (n2 0)]) [.long x3] hx hb hml hown hu (tX5_lowest l D cs e2 n2 x3 G2 r51 hg52) q865 q61 q862 q863 q864 pdX5_lowest ⟨rfl, rfl, Nat.le_of_ble_eq_true rfl, Nat.le_of_ble_eq_true rfl⟩ hK hZ hP hD hS hA [7] [0, 1, 2, 3, 4, 5, 6, 8, 9, 10] [0, 1, 2, 3, 4, 5, 6, 10, 7, 8, 9] rfl rfl rfl rfl rfl rfl rfl rfl rfl rfl hl.1 rfl (Nat.le_of_ble_eq_true rfl) dX7_write_93 rfl (fun H locs hP hD hS => ?_)
          obtain ⟨hi53, hf⟩ := ck_el hf
          obtain ⟨N2_54, hN2_54, hf⟩ := lt_el hf
          refine va_last hx hb hK.1 hP hD hS 8 1 rfl rfl hi53 dX7_write_96 (fun H locs hP hD hS => ?_)
          have hP : va_P D vwCl ((kX7 cs x (.ref (g 0)) (.ref (g2 0)) (.ref (g3 0)) (.ref (h 0)) (.ref (t 0)) (.ref (sa 0)) Ma) ++ (kSA cs sa (e0 0) (e1 0) (e2 0) (e3 0)) ++ (kX5 cs e0 (.ref (n0 0)) G0) ++ (kJ40 cs n0 N0) ++ (kX5 cs e1 (.ref (n1 0)) G1) ++ (kJ40 cs n1 N1) ++ (kX5 cs e2 (.ref (n2 0)) G2) ++ (kJ40 cs n2 N2_54) ++ (kX5 cs e3 (.ref (n3 0)) G3) ++ (kJ40 cs n3 N3)) H := by rw [hN2_54]; exact hP
          have hD : va_D A ((kX7 cs x (.ref (g 0)) (.ref (g2 0)) (.ref (g3 0)) (.ref (h 0)) (.ref (t 0)) (.ref (sa 0)) Ma) ++ (kSA cs sa (e0 0) (e1 0) (e2 0) (e3 0)) ++ (kX5 cs e0 (.ref (n0 0)) G0) ++ (kJ40 cs n0 N0) ++ (kX5 cs e1 (.ref (n1 0)) G1) ++ (kJ40 cs n1 N1) ++ (kX5 cs e2 (.ref (n2 0)) G2) ++ (kJ40 cs n2 N2_54) ++ (kX5 cs e3 (.ref (n3 0)) G3) ++ (kJ40 cs n3 N3)) := by rw [hN2_54]; exact hD
          refine lv_lload hx hb dX7_write_97 (lv_at hl 0 rfl) ?_
          have he := Option.some.inj hf
          obtain ⟨e0, ht0⟩ := Prod.mk.inj he
          obtain ⟨e1, ht1⟩ := Prod.mk.inj ht0
          obtain ⟨e2, ht2⟩ := Prod.mk.inj ht1
          obtain ⟨e3, ht3⟩ := Prod.mk.inj ht2
          obtain ⟨e4, e5⟩ := Prod.mk.inj ht3
          exact hrl _ _ _ rfl (congrArg (fun z => some (Value.long z)) e0.symm) dX7_write_99 _ _ _ (by rw [e1, e2, e3, e4, e5]) hP hD hS
        · have hf := ip_el hc48 hf
          refine lv_aload_n hx hb dX7_write_55 rfl (lv_at hl 0 rfl) ?_
          refine lv_ldc (v := (-1000000001)) hx hb hown (hu _ q335) dX7_write_56 ?_
          obtain ⟨r55, Ma_56, hg57, hf⟩ := b2_el hf
          refine cc_V (w' := ((kX7 cs x (.ref (g 0)) (.ref (g2 0)) (.ref (g3 0)) (.ref (h 0)) (.ref (t 0)) (.ref (sa 0)) Ma_56) ++ (kSA cs sa (e0 0) (e1 0) (e2 0) (e3 0)) ++ (kX5 cs e0 (.ref (n0 0)) G0) ++ (kJ40 cs n0 N0) ++ (kX5 cs e1 (.ref (n1 0)) G1) ++ (kJ40 cs n1 N1) ++ (kX5 cs e2 (.ref (n2 0)) G2) ++ (kJ40 cs n2 N2) ++ (kX5 cs e3 (.ref (n3 0)) G3) ++ (kJ40 cs n3 N3))) (wr := ((kSA cs sa (e0 0) (e1 0) (e2 0) (e3 0)) ++ (kX5 cs e0 (.ref (n0 0)) G0) ++ (kJ40 cs n0 N0) ++ (kX5 cs e1 (.ref (n1 0)) G1) ++ (kJ40 cs n1 N1) ++ (kX5 cs e2 (.ref (n2 0)) G2) ++ (kJ40 cs n2 N2) ++ (kX5 cs e3 (.ref (n3 0)) G3) ++ (kJ40 cs n3 N3))) (st1 := [.int r55]) [.int (-1000000001)] hx hb hml hown hu (tX7_finding l D cs x g g2 g3 h t sa (-1000000001) Ma r55 Ma_56 hg57) q339 q54 q336 q338 q0 pdX7_finding ⟨rfl, rfl, Nat.le_of_ble_eq_true rfl, Nat.le_of_ble_eq_true rfl⟩ hK hZ hP hD hS hA [0, 1] [2, 3, 4, 5, 6, 7, 8, 9, 10] [9, 10, 0, 1, 2, 3, 4, 5, 6, 7, 8] rfl rfl rfl rfl rfl rfl rfl rfl rfl rfl hl.1 rfl (Nat.le_of_ble_eq_true rfl) dX7_write_58 rfl (fun H locs hP hD hS => ?_)
          refine lv_i2l (v := (r55.toInt64)) hx hb dX7_write_61 rfl ?_
          have he := Option.some.inj hf
          obtain ⟨e0, ht0⟩ := Prod.mk.inj he
          obtain ⟨e1, ht1⟩ := Prod.mk.inj ht0
          obtain ⟨e2, ht2⟩ := Prod.mk.inj ht1
          obtain ⟨e3, ht3⟩ := Prod.mk.inj ht2
          obtain ⟨e4, e5⟩ := Prod.mk.inj ht3
          exact hrl _ _ _ rfl (congrArg (fun z => some (Value.long z)) e0.symm) dX7_write_62 _ _ _ (by rw [e1, e2, e3, e4, e5]) hP hD hS
      · have hf := in_el hc45 hf
        refine lv_aload_n hx hb dX7_write_27 rfl (lv_at hl 0 rfl) ?_
        refine lv_ldcw (v := (-1000000006)) hx hb hown (hu _ q861) dX7_write_28 ?_
        obtain ⟨r58, Ma_59, hg60, hf⟩ := b2_el hf
        refine cc_V (w' := ((kX7 cs x (.ref (g 0)) (.ref (g2 0)) (.ref (g3 0)) (.ref (h 0)) (.ref (t 0)) (.ref (sa 0)) Ma_59) ++ (kSA cs sa (e0 0) (e1 0) (e2 0) (e3 0)) ++ (kX5 cs e0 (.ref (n0 0)) G0) ++ (kJ40 cs n0 N0) ++ (kX5 cs e1 (.ref (n1 0)) G1) ++ (kJ40 cs n1 N1) ++ (kX5 cs e2 (.ref (n2 0)) G2) ++ (kJ40 cs n2 N2) ++ (kX5 cs e3 (.ref (n3 0)) G3) ++ (kJ40 cs n3 N3))) (wr := ((kSA cs sa (e0 0) (e1 0) (e2 0) (e3 0)) ++ (kX5 cs e0 (.ref (n0 0)) G0) ++ (kJ40 cs n0 N0) ++ (kX5 cs e1 (.ref (n1 0)) G1) ++ (kJ40 cs n1 N1) ++ (kX5 cs e2 (.ref (n2 0)) G2) ++ (kJ40 cs n2 N2) ++ (kX5 cs e3 (.ref (n3 0)) G3) ++ (kJ40 cs n3 N3))) (st1 := [.int r58]) [.int (-1000000006)] hx hb hml hown hu (tX7_finding l D cs x g g2 g3 h t sa (-1000000006) Ma r58 Ma_59 hg60) q339 q54 q336 q338 q0 pdX7_finding ⟨rfl, rfl, Nat.le_of_ble_eq_true rfl, Nat.le_of_ble_eq_true rfl⟩ hK hZ hP hD hS hA [0, 1] [2, 3, 4, 5, 6, 7, 8, 9, 10] [9, 10, 0, 1, 2, 3, 4, 5, 6, 7, 8] rfl rfl rfl rfl rfl rfl rfl rfl rfl rfl hl.1 rfl (Nat.le_of_ble_eq_true rfl) dX7_write_31 rfl (fun H locs hP hD hS => ?_)
        refine lv_i2l (v := (r58.toInt64)) hx hb dX7_write_34 rfl ?_
        have he := Option.some.inj hf
        obtain ⟨e0, ht0⟩ := Prod.mk.inj he
        obtain ⟨e1, ht1⟩ := Prod.mk.inj ht0
        obtain ⟨e2, ht2⟩ := Prod.mk.inj ht1
        obtain ⟨e3, ht3⟩ := Prod.mk.inj ht2
        obtain ⟨e4, e5⟩ := Prod.mk.inj ht3
        exact hrl _ _ _ rfl (congrArg (fun z => some (Value.long z)) e0.symm) dX7_write_35 _ _ _ (by rw [e1, e2, e3, e4, e5]) hP hD hS
    have hf := in_el hc42 hf
    by_cases hc61 : x1 = 3
    · have hf := ip_el hc61 hf
      refine sa_lit (e := e3 0) hx hb hK hP 2 rfl (k := 3) (by rw [hc61]; decide) rfl dX7_write_20 ?_
      obtain ⟨r62, hg63, hf⟩ := b1_el hf
      refine cc_V (w' := ((kX7 cs x (.ref (g 0)) (.ref (g2 0)) (.ref (g3 0)) (.ref (h 0)) (.ref (t 0)) (.ref (sa 0)) Ma) ++ (kSA cs sa (e0 0) (e1 0) (e2 0) (e3 0)) ++ (kX5 cs e0 (.ref (n0 0)) G0) ++ (kJ40 cs n0 N0) ++ (kX5 cs e1 (.ref (n1 0)) G1) ++ (kJ40 cs n1 N1) ++ (kX5 cs e2 (.ref (n2 0)) G2) ++ (kJ40 cs n2 N2) ++ (kX5 cs e3 (.ref (n3 0)) G3) ++ (kJ40 cs n3 N3))) (wr := ((kX7 cs x (.ref (g 0)) (.ref (g2 0)) (.ref (g3 0)) (.ref (h 0)) (.ref (t 0)) (.ref (sa 0)) Ma) ++ (kSA cs sa (e0 0) (e1 0) (e2 0) (e3 0)) ++ (kX5 cs e0 (.ref (n0 0)) G0) ++ (kJ40 cs n0 N0) ++ (kX5 cs e1 (.ref (n1 0)) G1) ++ (kJ40 cs n1 N1) ++ (kX5 cs e2 (.ref (n2 0)) G2) ++ (kJ40 cs n2 N2) ++ (kJ40 cs n3 N3))) (st1 := [.int r62]) [] hx hb hml hown hu (tX5_isMissing l D cs e3 n3 G3 r62 hg63) q860 q61 q857 q858 q859 pdX5_isMissing ⟨rfl, rfl, Nat.le_of_ble_eq_true rfl, Nat.le_of_ble_eq_true rfl⟩ hK hZ hP hD hS hA [9] [0, 1, 2, 3, 4, 5, 6, 7, 8, 10] [0, 1, 2, 3, 4, 5, 6, 7, 8, 10, 9] rfl rfl rfl rfl rfl rfl rfl rfl rfl rfl hl.1 rfl (Nat.le_of_ble_eq_true rfl) dX7_write_21 rfl (fun H locs hP hD hS => ?_)
      refine lv_if_eq (tgt := 36) hx hb dX7_write_24 (by decide) (fun hc64 => ?_) (fun hc64 => ?_)
      · have hf := ip_el hc64 hf
        refine lv_iload_n hx hb dX7_write_36 rfl (lv_at hl 2 rfl) ?_
        refine lv_iconst (v := 0) hx hb dX7_write_37 (by decide) ?_
        refine lv_aload_n hx hb dX7_write_38 rfl (lv_at hl 0 rfl) ?_
        refine va_get (D := D) (ci := 7) (v := .ref (sa 0)) (C := RX7) (T := TX7) (N := 8) hx hb hu inX7 hown hK.1 hP 0 rfl rfl 5 (by decide) (hu _ q305) (fun _ h9 => h9) rfl dX7_write_39 ?_
        refine lv_iload_n hx hb dX7_write_42 rfl (lv_at hl 1 rfl) ?_
        refine sa_lit (e := e3 0) hx hb hK hP 2 rfl (k := 3) (by rw [hc61]; decide) rfl dX7_write_43 ?_
        refine va_get (D := D) (ci := 5) (v := .int (G3 0 1)) (C := RX5) (T := TX5) (N := 3) hx hb hu inX5 hown hK.1 hP 9 rfl rfl 1 (by decide) (hu _ q289) (fun _ h9 => h9) rfl dX7_write_44 ?_
        refine lv_iconst (v := 1) hx hb dX7_write_47 (by decide) ?_
        refine lv_isub hx hb dX7_write_48 ?_
        obtain ⟨r65, hg66, hf⟩ := b1_el hf
        refine cc_S0 (st1 := [.int r65]) [.int x2, .int 0, .int ((G3 0 1) - 1)] hx hb hml hown hu (tX7_within l D cs x2 0 ((G3 0 1) - 1) r65 hg66) q331 q54 q329 q330 pdX7_within ⟨rfl, rfl, Nat.le_of_ble_eq_true rfl, Nat.le_of_ble_eq_true rfl⟩ hK hZ hP hD hS hA rfl hl.1 rfl (Nat.le_of_ble_eq_true rfl) dX7_write_49 rfl (fun H locs hP hD hS => ?_)
        refine lv_if_ne (tgt := 63) hx hb dX7_write_52 (by decide) (fun hc67 => ?_) (fun hc67 => ?_)
        · have hf := in_el hc67 hf
          refine lv_aload_n hx hb dX7_write_63 rfl (lv_at hl 0 rfl) ?_
          refine va_get (D := D) (ci := 7) (v := .ref (sa 0)) (C := RX7) (T := TX7) (N := 8) hx hb hu inX7 hown hK.1 hP 0 rfl rfl 5 (by decide) (hu _ q305) (fun _ h9 => h9) rfl dX7_write_64 ?_
          refine lv_iload_n hx hb dX7_write_67 rfl (lv_at hl 1 rfl) ?_
          refine sa_lit (e := e3 0) hx hb hK hP 2 rfl (k := 3) (by rw [hc61]; decide) rfl dX7_write_68 ?_
          refine va_get (D := D) (ci := 5) (v := .ref (n3 0)) (C := RX5) (T := TX5) (N := 3) hx hb hu inX5 hown hK.1 hP 9 rfl rfl 2 (by decide) (hu _ q291) (fun _ h9 => h9) rfl dX7_write_69 ?_
          refine lv_iload_n hx hb dX7_write_72 rfl (lv_at hl 2 rfl) ?_
          obtain ⟨hi68, hf⟩ := ck_el hf
          refine va_lald hx hb hK.1 hP 10 1 rfl rfl hi68 dX7_write_73 ?_
          obtain ⟨v69, hv69, hf⟩ := lt_el hf
          refine lv_topel hv69 ?_
          refine lv_lstore (lv' := [(5, .long v69), (0, .ref (x 0)), (1, .int x1), (2, .int x2), (3, .long x3)]) hx hb dX7_write_74 hl (by decide) rfl (fun ls hl => ?_)
          refine lv_aload_n hx hb dX7_write_76 rfl (lv_at hl 1 rfl) ?_
          refine va_get (D := D) (ci := 7) (v := .ref (sa 0)) (C := RX7) (T := TX7) (N := 8) hx hb hu inX7 hown hK.1 hP 0 rfl rfl 5 (by decide) (hu _ q305) (fun _ h9 => h9) rfl dX7_write_77 ?_
          refine lv_iload_n hx hb dX7_write_80 rfl (lv_at hl 2 rfl) ?_
          refine sa_lit (e := e3 0) hx hb hK hP 2 rfl (k := 3) (by rw [hc61]; decide) rfl dX7_write_81 ?_
          refine va_get (D := D) (ci := 5) (v := .ref (n3 0)) (C := RX5) (T := TX5) (N := 3) hx hb hu inX5 hown hK.1 hP 9 rfl rfl 2 (by decide) (hu _ q291) (fun _ h9 => h9) rfl dX7_write_82 ?_
          refine lv_iload_n hx hb dX7_write_85 rfl (lv_at hl 3 rfl) ?_
          refine lv_aload_n hx hb dX7_write_86 rfl (lv_at hl 1 rfl) ?_
          refine va_get (D := D) (ci := 7) (v := .ref (sa 0)) (C := RX7) (T := TX7) (N := 8) hx hb hu inX7 hown hK.1 hP 0 rfl rfl 5 (by decide) (hu _ q305) (fun _ h9 => h9) rfl dX7_write_87 ?_
          refine lv_iload_n hx hb dX7_write_90 rfl (lv_at hl 2 rfl) ?_
          refine sa_lit (e := e3 0) hx hb hK hP 2 rfl (k := 3) (by rw [hc61]; decide) rfl dX7_write_91 ?_
          refine lv_lload_n hx hb dX7_write_92 rfl (lv_at hl 4 rfl) ?_
          obtain ⟨r70, hg71, hf⟩ := b1_el hf
          refine cc_V (w' := ((kX7 cs x (.ref (g 0)) (.ref (g2 0)) (.ref (g3 0)) (.ref (h 0)) (.ref (t 0)) (.ref (sa 0)) Ma) ++ (kSA cs sa (e0 0) (e1 0) (e2 0) (e3 0)) ++ (kX5 cs e0 (.ref (n0 0)) G0) ++ (kJ40 cs n0 N0) ++ (kX5 cs e1 (.ref (n1 0)) G1) ++ (kJ40 cs n1 N1) ++ (kX5 cs e2 (.ref (n2 0)) G2) ++ (kJ40 cs n2 N2) ++ (kX5 cs e3 (.ref (n3 0)) G3) ++ (kJ40 cs n3 N3))) (wr := ((kX7 cs x (.ref (g 0)) (.ref (g2 0)) (.ref (g3 0)) (.ref (h 0)) (.ref (t 0)) (.ref (sa 0)) Ma) ++ (kSA cs sa (e0 0) (e1 0) (e2 0) (e3 0)) ++ (kX5 cs e0 (.ref (n0 0)) G0) ++ (kJ40 cs n0 N0) ++ (kX5 cs e1 (.ref (n1 0)) G1) ++ (kJ40 cs n1 N1) ++ (kX5 cs e2 (.ref (n2 0)) G2) ++ (kJ40 cs n2 N2) ++ (kJ40 cs n3 N3))) (st1 := [.long r70, .int x2, .ref (n3 0)]) [.long x3] hx hb hml hown hu (tX5_lowest l D cs e3 n3 x3 G3 r70 hg71) q865 q61 q862 q863 q864 pdX5_lowest ⟨rfl, rfl, Nat.le_of_ble_eq_true rfl, Nat.le_of_ble_eq_true rfl⟩ hK hZ hP hD hS hA [9] [0, 1, 2, 3, 4, 5, 6, 7, 8, 10] [0, 1, 2, 3, 4, 5, 6, 7, 8, 10, 9] rfl rfl rfl rfl rfl rfl rfl rfl rfl rfl hl.1 rfl (Nat.le_of_ble_eq_true rfl) dX7_write_93 rfl (fun H locs hP hD hS => ?_)
          obtain ⟨hi72, hf⟩ := ck_el hf
          obtain ⟨N3_73, hN3_73, hf⟩ := lt_el hf
          refine va_last hx hb hK.1 hP hD hS 10 1 rfl rfl hi72 dX7_write_96 (fun H locs hP hD hS => ?_)
          have hP : va_P D vwCl ((kX7 cs x (.ref (g 0)) (.ref (g2 0)) (.ref (g3 0)) (.ref (h 0)) (.ref (t 0)) (.ref (sa 0)) Ma) ++ (kSA cs sa (e0 0) (e1 0) (e2 0) (e3 0)) ++ (kX5 cs e0 (.ref (n0 0)) G0) ++ (kJ40 cs n0 N0) ++ (kX5 cs e1 (.ref (n1 0)) G1) ++ (kJ40 cs n1 N1) ++ (kX5 cs e2 (.ref (n2 0)) G2) ++ (kJ40 cs n2 N2) ++ (kX5 cs e3 (.ref (n3 0)) G3) ++ (kJ40 cs n3 N3_73)) H := by rw [hN3_73]; exact hP
          have hD : va_D A ((kX7 cs x (.ref (g 0)) (.ref (g2 0)) (.ref (g3 0)) (.ref (h 0)) (.ref (t 0)) (.ref (sa 0)) Ma) ++ (kSA cs sa (e0 0) (e1 0) (e2 0) (e3 0)) ++ (kX5 cs e0 (.ref (n0 0)) G0) ++ (kJ40 cs n0 N0) ++ (kX5 cs e1 (.ref (n1 0)) G1) ++ (kJ40 cs n1 N1) ++ (kX5 cs e2 (.ref (n2 0)) G2) ++ (kJ40 cs n2 N2) ++ (kX5 cs e3 (.ref (n3 0)) G3) ++ (kJ40 cs n3 N3_73)) := by rw [hN3_73]; exact hD
          refine lv_lload hx hb dX7_write_97 (lv_at hl 0 rfl) ?_
          have he := Option.some.inj hf
          obtain ⟨e0, ht0⟩ := Prod.mk.inj he
          obtain ⟨e1, ht1⟩ := Prod.mk.inj ht0
          obtain ⟨e2, ht2⟩ := Prod.mk.inj ht1
          obtain ⟨e3, ht3⟩ := Prod.mk.inj ht2
          obtain ⟨e4, e5⟩ := Prod.mk.inj ht3
          exact hrl _ _ _ rfl (congrArg (fun z => some (Value.long z)) e0.symm) dX7_write_99 _ _ _ (by rw [e1, e2, e3, e4, e5]) hP hD hS
        · have hf := ip_el hc67 hf
          refine lv_aload_n hx hb dX7_write_55 rfl (lv_at hl 0 rfl) ?_
          refine lv_ldc (v := (-1000000001)) hx hb hown (hu _ q335) dX7_write_56 ?_
          obtain ⟨r74, Ma_75, hg76, hf⟩ := b2_el hf
          refine cc_V (w' := ((kX7 cs x (.ref (g 0)) (.ref (g2 0)) (.ref (g3 0)) (.ref (h 0)) (.ref (t 0)) (.ref (sa 0)) Ma_75) ++ (kSA cs sa (e0 0) (e1 0) (e2 0) (e3 0)) ++ (kX5 cs e0 (.ref (n0 0)) G0) ++ (kJ40 cs n0 N0) ++ (kX5 cs e1 (.ref (n1 0)) G1) ++ (kJ40 cs n1 N1) ++ (kX5 cs e2 (.ref (n2 0)) G2) ++ (kJ40 cs n2 N2) ++ (kX5 cs e3 (.ref (n3 0)) G3) ++ (kJ40 cs n3 N3))) (wr := ((kSA cs sa (e0 0) (e1 0) (e2 0) (e3 0)) ++ (kX5 cs e0 (.ref (n0 0)) G0) ++ (kJ40 cs n0 N0) ++ (kX5 cs e1 (.ref (n1 0)) G1) ++ (kJ40 cs n1 N1) ++ (kX5 cs e2 (.ref (n2 0)) G2) ++ (kJ40 cs n2 N2) ++ (kX5 cs e3 (.ref (n3 0)) G3) ++ (kJ40 cs n3 N3))) (st1 := [.int r74]) [.int (-1000000001)] hx hb hml hown hu (tX7_finding l D cs x g g2 g3 h t sa (-1000000001) Ma r74 Ma_75 hg76) q339 q54 q336 q338 q0 pdX7_finding ⟨rfl, rfl, Nat.le_of_ble_eq_true rfl, Nat.le_of_ble_eq_true rfl⟩ hK hZ hP hD hS hA [0, 1] [2, 3, 4, 5, 6, 7, 8, 9, 10] [9, 10, 0, 1, 2, 3, 4, 5, 6, 7, 8] rfl rfl rfl rfl rfl rfl rfl rfl rfl rfl hl.1 rfl (Nat.le_of_ble_eq_true rfl) dX7_write_58 rfl (fun H locs hP hD hS => ?_)
          refine lv_i2l (v := (r74.toInt64)) hx hb dX7_write_61 rfl ?_
          have he := Option.some.inj hf
          obtain ⟨e0, ht0⟩ := Prod.mk.inj he
          obtain ⟨e1, ht1⟩ := Prod.mk.inj ht0
          obtain ⟨e2, ht2⟩ := Prod.mk.inj ht1
          obtain ⟨e3, ht3⟩ := Prod.mk.inj ht2
          obtain ⟨e4, e5⟩ := Prod.mk.inj ht3
          exact hrl _ _ _ rfl (congrArg (fun z => some (Value.long z)) e0.symm) dX7_write_62 _ _ _ (by rw [e1, e2, e3, e4, e5]) hP hD hS
      · have hf := in_el hc64 hf
        refine lv_aload_n hx hb dX7_write_27 rfl (lv_at hl 0 rfl) ?_
        refine lv_ldcw (v := (-1000000006)) hx hb hown (hu _ q861) dX7_write_28 ?_
        obtain ⟨r77, Ma_78, hg79, hf⟩ := b2_el hf
        refine cc_V (w' := ((kX7 cs x (.ref (g 0)) (.ref (g2 0)) (.ref (g3 0)) (.ref (h 0)) (.ref (t 0)) (.ref (sa 0)) Ma_78) ++ (kSA cs sa (e0 0) (e1 0) (e2 0) (e3 0)) ++ (kX5 cs e0 (.ref (n0 0)) G0) ++ (kJ40 cs n0 N0) ++ (kX5 cs e1 (.ref (n1 0)) G1) ++ (kJ40 cs n1 N1) ++ (kX5 cs e2 (.ref (n2 0)) G2) ++ (kJ40 cs n2 N2) ++ (kX5 cs e3 (.ref (n3 0)) G3) ++ (kJ40 cs n3 N3))) (wr := ((kSA cs sa (e0 0) (e1 0) (e2 0) (e3 0)) ++ (kX5 cs e0 (.ref (n0 0)) G0) ++ (kJ40 cs n0 N0) ++ (kX5 cs e1 (.ref (n1 0)) G1) ++ (kJ40 cs n1 N1) ++ (kX5 cs e2 (.ref (n2 0)) G2) ++ (kJ40 cs n2 N2) ++ (kX5 cs e3 (.ref (n3 0)) G3) ++ (kJ40 cs n3 N3))) (st1 := [.int r77]) [.int (-1000000006)] hx hb hml hown hu (tX7_finding l D cs x g g2 g3 h t sa (-1000000006) Ma r77 Ma_78 hg79) q339 q54 q336 q338 q0 pdX7_finding ⟨rfl, rfl, Nat.le_of_ble_eq_true rfl, Nat.le_of_ble_eq_true rfl⟩ hK hZ hP hD hS hA [0, 1] [2, 3, 4, 5, 6, 7, 8, 9, 10] [9, 10, 0, 1, 2, 3, 4, 5, 6, 7, 8] rfl rfl rfl rfl rfl rfl rfl rfl rfl rfl hl.1 rfl (Nat.le_of_ble_eq_true rfl) dX7_write_31 rfl (fun H locs hP hD hS => ?_)
        refine lv_i2l (v := (r77.toInt64)) hx hb dX7_write_34 rfl ?_
        have he := Option.some.inj hf
        obtain ⟨e0, ht0⟩ := Prod.mk.inj he
        obtain ⟨e1, ht1⟩ := Prod.mk.inj ht0
        obtain ⟨e2, ht2⟩ := Prod.mk.inj ht1
        obtain ⟨e3, ht3⟩ := Prod.mk.inj ht2
        obtain ⟨e4, e5⟩ := Prod.mk.inj ht3
        exact hrl _ _ _ rfl (congrArg (fun z => some (Value.long z)) e0.symm) dX7_write_35 _ _ _ (by rw [e1, e2, e3, e4, e5]) hP hD hS
    have hf := in_el hc61 hf
    exact no_el hf
  · have hf := ip_el hc3 hf
    refine lv_aload_n hx hb dX7_write_7 rfl (lv_at hl 0 rfl) ?_
    refine lv_ldc (v := (-1000000001)) hx hb hown (hu _ q335) dX7_write_8 ?_
    obtain ⟨r80, Ma_81, hg82, hf⟩ := b2_el hf
    refine cc_V (w' := ((kX7 cs x (.ref (g 0)) (.ref (g2 0)) (.ref (g3 0)) (.ref (h 0)) (.ref (t 0)) (.ref (sa 0)) Ma_81) ++ (kSA cs sa (e0 0) (e1 0) (e2 0) (e3 0)) ++ (kX5 cs e0 (.ref (n0 0)) G0) ++ (kJ40 cs n0 N0) ++ (kX5 cs e1 (.ref (n1 0)) G1) ++ (kJ40 cs n1 N1) ++ (kX5 cs e2 (.ref (n2 0)) G2) ++ (kJ40 cs n2 N2) ++ (kX5 cs e3 (.ref (n3 0)) G3) ++ (kJ40 cs n3 N3))) (wr := ((kSA cs sa (e0 0) (e1 0) (e2 0) (e3 0)) ++ (kX5 cs e0 (.ref (n0 0)) G0) ++ (kJ40 cs n0 N0) ++ (kX5 cs e1 (.ref (n1 0)) G1) ++ (kJ40 cs n1 N1) ++ (kX5 cs e2 (.ref (n2 0)) G2) ++ (kJ40 cs n2 N2) ++ (kX5 cs e3 (.ref (n3 0)) G3) ++ (kJ40 cs n3 N3))) (st1 := [.int r80]) [.int (-1000000001)] hx hb hml hown hu (tX7_finding l D cs x g g2 g3 h t sa (-1000000001) Ma r80 Ma_81 hg82) q339 q54 q336 q338 q0 pdX7_finding ⟨rfl, rfl, Nat.le_of_ble_eq_true rfl, Nat.le_of_ble_eq_true rfl⟩ hK hZ hP hD hS hA [0, 1] [2, 3, 4, 5, 6, 7, 8, 9, 10] [9, 10, 0, 1, 2, 3, 4, 5, 6, 7, 8] rfl rfl rfl rfl rfl rfl rfl rfl rfl rfl hl.1 rfl (Nat.le_of_ble_eq_true rfl) dX7_write_10 rfl (fun H locs hP hD hS => ?_)
    refine lv_i2l (v := (r80.toInt64)) hx hb dX7_write_13 rfl ?_
    have he := Option.some.inj hf
    obtain ⟨e0, ht0⟩ := Prod.mk.inj he
    obtain ⟨e1, ht1⟩ := Prod.mk.inj ht0
    obtain ⟨e2, ht2⟩ := Prod.mk.inj ht1
    obtain ⟨e3, ht3⟩ := Prod.mk.inj ht2
    obtain ⟨e4, e5⟩ := Prod.mk.inj ht3
    exact hrl _ _ _ rfl (congrArg (fun z => some (Value.long z)) e0.symm) dX7_write_14 _ _ _ (by rw [e1, e2, e3, e4, e5]) hP hD hS

def fX7_copy_14 (G0 : ST) (G1 : ST) (G2 : ST) (G3 : ST) (Ma : ST) (N0 : LT) (N1 : LT) (N2 : LT) (N3 : LT) : Option (Int32 × ST × LT × LT × LT × LT) :=
  dc_b2 (fX7_finding (-1000000001) Ma) (fun r4 Ma_5 => some (r4, Ma_5, N0, N1, N2, N3))
def fX7_copy_45 (G0 : ST) (G1 : ST) (G2 : ST) (G3 : ST) (Ma : ST) (N0 : LT) (N1 : LT) (N2 : LT) (N3 : LT) : Option (Int32 × ST × LT × LT × LT × LT) :=
  dc_b2 (fX7_finding (-1000000006) Ma) (fun r14 Ma_15 => some (r14, Ma_15, N0, N1, N2, N3))
def fX7_copy_112 (G0 : ST) (G1 : ST) (G2 : ST) (G3 : ST) (Ma : ST) (N0 : LT) (N1 : LT) (N2 : LT) (N3 : LT) : Option (Int32 × ST × LT × LT × LT × LT) :=
  dc_b2 (fX7_finding (-1000000001) Ma) (fun r25 Ma_26 => some (r25, Ma_26, N0, N1, N2, N3))
def fX7_copy (x1 : Int32) (x2 : Int32) (x3 : Int32) (x4 : Int32) (x5 : Int32) (Ma : ST) (G0 : ST) (N0 : LT) (G1 : ST) (N1 : LT) (G2 : ST) (N2 : LT) (G3 : ST) (N3 : LT) : Option (Int32 × ST × LT × LT × LT × LT) :=
  dc_b1 (fX7_isSheet x1) (fun r1 => (if r1 = 0 then fX7_copy_14 G0 G1 G2 G3 Ma N0 N1 N2 N3 else dc_b1 (fX7_isSheet x3) (fun r7 => (if r7 = 0 then fX7_copy_14 G0 G1 G2 G3 Ma N0 N1 N2 N3 else (if x1 = 0 then dc_b1 (fX5_isMissing G0) (fun r11 => (if r11 = 0 then (if x3 = 0 then dc_b1 (fX5_isMissing G0) (fun r18 => (if r18 = 0 then (if (G0 0 0) = (G0 0 0) then dc_b1 (fX5_holds x2 x5 G0) (fun r22 => (if r22 = 0 then fX7_copy_112 G0 G1 G2 G3 Ma N0 N1 N2 N3 else dc_b1 (fX5_holds x4 x5 G0) (fun r28 => (if r28 = 0 then fX7_copy_112 G0 G1 G2 G3 Ma N0 N1 N2 N3 else dc_cp x2 x4 x5 40 40 (dc_lt (va_cpy N0 N0 (Int32.toNatClampNeg x2) (Int32.toNatClampNeg x4) (Int32.toNatClampNeg x5)) (fun N0_31 => some (x5, Ma, N0_31, N1, N2, N3))))))) else dc_b2 (fX7_finding (-1000000003) Ma) (fun r33 Ma_34 => some (r33, Ma_34, N0, N1, N2, N3))) else fX7_copy_45 G0 G1 G2 G3 Ma N0 N1 N2 N3)) else if x3 = 1 then dc_b1 (fX5_isMissing G1) (fun r37 => (if r37 = 0 then (if (G0 0 0) = (G1 0 0) then dc_b1 (fX5_holds x2 x5 G0) (fun r41 => (if r41 = 0 then fX7_copy_112 G0 G1 G2 G3 Ma N0 N1 N2 N3 else dc_b1 (fX5_holds x4 x5 G1) (fun r44 => (if r44 = 0 then fX7_copy_112 G0 G1 G2 G3 Ma N0 N1 N2 N3 else dc_cp x2 x4 x5 40 40 (dc_lt (va_cpy N0 N1 (Int32.toNatClampNeg x2) (Int32.toNatClampNeg x4) (Int32.toNatClampNeg x5)) (fun N1_47 => some (x5, Ma, N0, N1_47, N2, N3))))))) else dc_b2 (fX7_finding (-1000000003) Ma) (fun r49 Ma_50 => some (r49, Ma_50, N0, N1, N2, N3))) else fX7_copy_45 G0 G1 G2 G3 Ma N0 N1 N2 N3)) else if x3 = 2 then dc_b1 (fX5_isMissing G2) (fun r53 => (if r53 = 0 then (if (G0 0 0) = (G2 0 0) then dc_b1 (fX5_holds x2 x5 G0) (fun r57 => (if r57 = 0 then fX7_copy_112 G0 G1 G2 G3 Ma N0 N1 N2 N3 else dc_b1 (fX5_holds x4 x5 G2) (fun r60 => (if r60 = 0 then fX7_copy_112 G0 G1 G2 G3 Ma N0 N1 N2 N3 else dc_cp x2 x4 x5 40 40 (dc_lt (va_cpy N0 N2 (Int32.toNatClampNeg x2) (Int32.toNatClampNeg x4) (Int32.toNatClampNeg x5)) (fun N2_63 => some (x5, Ma, N0, N1, N2_63, N3))))))) else dc_b2 (fX7_finding (-1000000003) Ma) (fun r65 Ma_66 => some (r65, Ma_66, N0, N1, N2, N3))) else fX7_copy_45 G0 G1 G2 G3 Ma N0 N1 N2 N3)) else if x3 = 3 then dc_b1 (fX5_isMissing G3) (fun r69 => (if r69 = 0 then (if (G0 0 0) = (G3 0 0) then dc_b1 (fX5_holds x2 x5 G0) (fun r73 => (if r73 = 0 then fX7_copy_112 G0 G1 G2 G3 Ma N0 N1 N2 N3 else dc_b1 (fX5_holds x4 x5 G3) (fun r76 => (if r76 = 0 then fX7_copy_112 G0 G1 G2 G3 Ma N0 N1 N2 N3 else dc_cp x2 x4 x5 40 40 (dc_lt (va_cpy N0 N3 (Int32.toNatClampNeg x2) (Int32.toNatClampNeg x4) (Int32.toNatClampNeg x5)) (fun N3_79 => some (x5, Ma, N0, N1, N2, N3_79))))))) else dc_b2 (fX7_finding (-1000000003) Ma) (fun r81 Ma_82 => some (r81, Ma_82, N0, N1, N2, N3))) else fX7_copy_45 G0 G1 G2 G3 Ma N0 N1 N2 N3)) else none) else fX7_copy_45 G0 G1 G2 G3 Ma N0 N1 N2 N3)) else if x1 = 1 then dc_b1 (fX5_isMissing G1) (fun r85 => (if r85 = 0 then (if x3 = 0 then dc_b1 (fX5_isMissing G0) (fun r89 => (if r89 = 0 then (if (G1 0 0) = (G0 0 0) then dc_b1 (fX5_holds x2 x5 G1) (fun r93 => (if r93 = 0 then fX7_copy_112 G0 G1 G2 G3 Ma N0 N1 N2 N3 else dc_b1 (fX5_holds x4 x5 G0) (fun r96 => (if r96 = 0 then fX7_copy_112 G0 G1 G2 G3 Ma N0 N1 N2 N3 else dc_cp x2 x4 x5 40 40 (dc_lt (va_cpy N1 N0 (Int32.toNatClampNeg x2) (Int32.toNatClampNeg x4) (Int32.toNatClampNeg x5)) (fun N0_99 => some (x5, Ma, N0_99, N1, N2, N3))))))) else dc_b2 (fX7_finding (-1000000003) Ma) (fun r101 Ma_102 => some (r101, Ma_102, N0, N1, N2, N3))) else fX7_copy_45 G0 G1 G2 G3 Ma N0 N1 N2 N3)) else if x3 = 1 then dc_b1 (fX5_isMissing G1) (fun r105 => (if r105 = 0 then (if (G1 0 0) = (G1 0 0) then dc_b1 (fX5_holds x2 x5 G1) (fun r109 => (if r109 = 0 then fX7_copy_112 G0 G1 G2 G3 Ma N0 N1 N2 N3 else dc_b1 (fX5_holds x4 x5 G1) (fun r112 => (if r112 = 0 then fX7_copy_112 G0 G1 G2 G3 Ma N0 N1 N2 N3 else dc_cp x2 x4 x5 40 40 (dc_lt (va_cpy N1 N1 (Int32.toNatClampNeg x2) (Int32.toNatClampNeg x4) (Int32.toNatClampNeg x5)) (fun N1_115 => some (x5, Ma, N0, N1_115, N2, N3))))))) else dc_b2 (fX7_finding (-1000000003) Ma) (fun r117 Ma_118 => some (r117, Ma_118, N0, N1, N2, N3))) else fX7_copy_45 G0 G1 G2 G3 Ma N0 N1 N2 N3)) else if x3 = 2 then dc_b1 (fX5_isMissing G2) (fun r121 => (if r121 = 0 then (if (G1 0 0) = (G2 0 0) then dc_b1 (fX5_holds x2 x5 G1) (fun r125 => (if r125 = 0 then fX7_copy_112 G0 G1 G2 G3 Ma N0 N1 N2 N3 else dc_b1 (fX5_holds x4 x5 G2) (fun r128 => (if r128 = 0 then fX7_copy_112 G0 G1 G2 G3 Ma N0 N1 N2 N3 else dc_cp x2 x4 x5 40 40 (dc_lt (va_cpy N1 N2 (Int32.toNatClampNeg x2) (Int32.toNatClampNeg x4) (Int32.toNatClampNeg x5)) (fun N2_131 => some (x5, Ma, N0, N1, N2_131, N3))))))) else dc_b2 (fX7_finding (-1000000003) Ma) (fun r133 Ma_134 => some (r133, Ma_134, N0, N1, N2, N3))) else fX7_copy_45 G0 G1 G2 G3 Ma N0 N1 N2 N3)) else if x3 = 3 then dc_b1 (fX5_isMissing G3) (fun r137 => (if r137 = 0 then (if (G1 0 0) = (G3 0 0) then dc_b1 (fX5_holds x2 x5 G1) (fun r141 => (if r141 = 0 then fX7_copy_112 G0 G1 G2 G3 Ma N0 N1 N2 N3 else dc_b1 (fX5_holds x4 x5 G3) (fun r144 => (if r144 = 0 then fX7_copy_112 G0 G1 G2 G3 Ma N0 N1 N2 N3 else dc_cp x2 x4 x5 40 40 (dc_lt (va_cpy N1 N3 (Int32.toNatClampNeg x2) (Int32.toNatClampNeg x4) (Int32.toNatClampNeg x5)) (fun N3_147 => some (x5, Ma, N0, N1, N2, N3_147))))))) else dc_b2 (fX7_finding (-1000000003) Ma) (fun r149 Ma_150 => some (r149, Ma_150, N0, N1, N2, N3))) else fX7_copy_45 G0 G1 G2 G3 Ma N0 N1 N2 N3)) else none) else fX7_copy_45 G0 G1 G2 G3 Ma N0 N1 N2 N3)) else if x1 = 2 then dc_b1 (fX5_isMissing G2) (fun r153 => (if r153 = 0 then (if x3 = 0 then dc_b1 (fX5_isMissing G0) (fun r157 => (if r157 = 0 then (if (G2 0 0) = (G0 0 0) then dc_b1 (fX5_holds x2 x5 G2) (fun r161 => (if r161 = 0 then fX7_copy_112 G0 G1 G2 G3 Ma N0 N1 N2 N3 else dc_b1 (fX5_holds x4 x5 G0) (fun r164 => (if r164 = 0 then fX7_copy_112 G0 G1 G2 G3 Ma N0 N1 N2 N3 else dc_cp x2 x4 x5 40 40 (dc_lt (va_cpy N2 N0 (Int32.toNatClampNeg x2) (Int32.toNatClampNeg x4) (Int32.toNatClampNeg x5)) (fun N0_167 => some (x5, Ma, N0_167, N1, N2, N3))))))) else dc_b2 (fX7_finding (-1000000003) Ma) (fun r169 Ma_170 => some (r169, Ma_170, N0, N1, N2, N3))) else fX7_copy_45 G0 G1 G2 G3 Ma N0 N1 N2 N3)) else if x3 = 1 then dc_b1 (fX5_isMissing G1) (fun r173 => (if r173 = 0 then (if (G2 0 0) = (G1 0 0) then dc_b1 (fX5_holds x2 x5 G2) (fun r177 => (if r177 = 0 then fX7_copy_112 G0 G1 G2 G3 Ma N0 N1 N2 N3 else dc_b1 (fX5_holds x4 x5 G1) (fun r180 => (if r180 = 0 then fX7_copy_112 G0 G1 G2 G3 Ma N0 N1 N2 N3 else dc_cp x2 x4 x5 40 40 (dc_lt (va_cpy N2 N1 (Int32.toNatClampNeg x2) (Int32.toNatClampNeg x4) (Int32.toNatClampNeg x5)) (fun N1_183 => some (x5, Ma, N0, N1_183, N2, N3))))))) else dc_b2 (fX7_finding (-1000000003) Ma) (fun r185 Ma_186 => some (r185, Ma_186, N0, N1, N2, N3))) else fX7_copy_45 G0 G1 G2 G3 Ma N0 N1 N2 N3)) else if x3 = 2 then dc_b1 (fX5_isMissing G2) (fun r189 => (if r189 = 0 then (if (G2 0 0) = (G2 0 0) then dc_b1 (fX5_holds x2 x5 G2) (fun r193 => (if r193 = 0 then fX7_copy_112 G0 G1 G2 G3 Ma N0 N1 N2 N3 else dc_b1 (fX5_holds x4 x5 G2) (fun r196 => (if r196 = 0 then fX7_copy_112 G0 G1 G2 G3 Ma N0 N1 N2 N3 else dc_cp x2 x4 x5 40 40 (dc_lt (va_cpy N2 N2 (Int32.toNatClampNeg x2) (Int32.toNatClampNeg x4) (Int32.toNatClampNeg x5)) (fun N2_199 => some (x5, Ma, N0, N1, N2_199, N3))))))) else dc_b2 (fX7_finding (-1000000003) Ma) (fun r201 Ma_202 => some (r201, Ma_202, N0, N1, N2, N3))) else fX7_copy_45 G0 G1 G2 G3 Ma N0 N1 N2 N3)) else if x3 = 3 then dc_b1 (fX5_isMissing G3) (fun r205 => (if r205 = 0 then (if (G2 0 0) = (G3 0 0) then dc_b1 (fX5_holds x2 x5 G2) (fun r209 => (if r209 = 0 then fX7_copy_112 G0 G1 G2 G3 Ma N0 N1 N2 N3 else dc_b1 (fX5_holds x4 x5 G3) (fun r212 => (if r212 = 0 then fX7_copy_112 G0 G1 G2 G3 Ma N0 N1 N2 N3 else dc_cp x2 x4 x5 40 40 (dc_lt (va_cpy N2 N3 (Int32.toNatClampNeg x2) (Int32.toNatClampNeg x4) (Int32.toNatClampNeg x5)) (fun N3_215 => some (x5, Ma, N0, N1, N2, N3_215))))))) else dc_b2 (fX7_finding (-1000000003) Ma) (fun r217 Ma_218 => some (r217, Ma_218, N0, N1, N2, N3))) else fX7_copy_45 G0 G1 G2 G3 Ma N0 N1 N2 N3)) else none) else fX7_copy_45 G0 G1 G2 G3 Ma N0 N1 N2 N3)) else if x1 = 3 then dc_b1 (fX5_isMissing G3) (fun r221 => (if r221 = 0 then (if x3 = 0 then dc_b1 (fX5_isMissing G0) (fun r225 => (if r225 = 0 then (if (G3 0 0) = (G0 0 0) then dc_b1 (fX5_holds x2 x5 G3) (fun r229 => (if r229 = 0 then fX7_copy_112 G0 G1 G2 G3 Ma N0 N1 N2 N3 else dc_b1 (fX5_holds x4 x5 G0) (fun r232 => (if r232 = 0 then fX7_copy_112 G0 G1 G2 G3 Ma N0 N1 N2 N3 else dc_cp x2 x4 x5 40 40 (dc_lt (va_cpy N3 N0 (Int32.toNatClampNeg x2) (Int32.toNatClampNeg x4) (Int32.toNatClampNeg x5)) (fun N0_235 => some (x5, Ma, N0_235, N1, N2, N3))))))) else dc_b2 (fX7_finding (-1000000003) Ma) (fun r237 Ma_238 => some (r237, Ma_238, N0, N1, N2, N3))) else fX7_copy_45 G0 G1 G2 G3 Ma N0 N1 N2 N3)) else if x3 = 1 then dc_b1 (fX5_isMissing G1) (fun r241 => (if r241 = 0 then (if (G3 0 0) = (G1 0 0) then dc_b1 (fX5_holds x2 x5 G3) (fun r245 => (if r245 = 0 then fX7_copy_112 G0 G1 G2 G3 Ma N0 N1 N2 N3 else dc_b1 (fX5_holds x4 x5 G1) (fun r248 => (if r248 = 0 then fX7_copy_112 G0 G1 G2 G3 Ma N0 N1 N2 N3 else dc_cp x2 x4 x5 40 40 (dc_lt (va_cpy N3 N1 (Int32.toNatClampNeg x2) (Int32.toNatClampNeg x4) (Int32.toNatClampNeg x5)) (fun N1_251 => some (x5, Ma, N0, N1_251, N2, N3))))))) else dc_b2 (fX7_finding (-1000000003) Ma) (fun r253 Ma_254 => some (r253, Ma_254, N0, N1, N2, N3))) else fX7_copy_45 G0 G1 G2 G3 Ma N0 N1 N2 N3)) else if x3 = 2 then dc_b1 (fX5_isMissing G2) (fun r257 => (if r257 = 0 then (if (G3 0 0) = (G2 0 0) then dc_b1 (fX5_holds x2 x5 G3) (fun r261 => (if r261 = 0 then fX7_copy_112 G0 G1 G2 G3 Ma N0 N1 N2 N3 else dc_b1 (fX5_holds x4 x5 G2) (fun r264 => (if r264 = 0 then fX7_copy_112 G0 G1 G2 G3 Ma N0 N1 N2 N3 else dc_cp x2 x4 x5 40 40 (dc_lt (va_cpy N3 N2 (Int32.toNatClampNeg x2) (Int32.toNatClampNeg x4) (Int32.toNatClampNeg x5)) (fun N2_267 => some (x5, Ma, N0, N1, N2_267, N3))))))) else dc_b2 (fX7_finding (-1000000003) Ma) (fun r269 Ma_270 => some (r269, Ma_270, N0, N1, N2, N3))) else fX7_copy_45 G0 G1 G2 G3 Ma N0 N1 N2 N3)) else if x3 = 3 then dc_b1 (fX5_isMissing G3) (fun r273 => (if r273 = 0 then (if (G3 0 0) = (G3 0 0) then dc_b1 (fX5_holds x2 x5 G3) (fun r277 => (if r277 = 0 then fX7_copy_112 G0 G1 G2 G3 Ma N0 N1 N2 N3 else dc_b1 (fX5_holds x4 x5 G3) (fun r280 => (if r280 = 0 then fX7_copy_112 G0 G1 G2 G3 Ma N0 N1 N2 N3 else dc_cp x2 x4 x5 40 40 (dc_lt (va_cpy N3 N3 (Int32.toNatClampNeg x2) (Int32.toNatClampNeg x4) (Int32.toNatClampNeg x5)) (fun N3_283 => some (x5, Ma, N0, N1, N2, N3_283))))))) else dc_b2 (fX7_finding (-1000000003) Ma) (fun r285 Ma_286 => some (r285, Ma_286, N0, N1, N2, N3))) else fX7_copy_45 G0 G1 G2 G3 Ma N0 N1 N2 N3)) else none) else fX7_copy_45 G0 G1 G2 G3 Ma N0 N1 N2 N3)) else none)))))
abbrev rmX7_copy : Room := { frames := 2, cells := 0, slots := 0, locals := 42 }
set_option maxRecDepth 100000 in
set_option maxHeartbeats 4000000 in
theorem tX7_copy (l : Launch) (D : va_G) (cs : Nat → ClassId) (x : Nat → Nat) (g : Nat → Nat) (g2 : Nat → Nat) (g3 : Nat → Nat) (h : Nat → Nat) (t : Nat → Nat) (sa : Nat → Nat) (e0 : Nat → Nat) (e1 : Nat → Nat) (e2 : Nat → Nat) (e3 : Nat → Nat) (n0 : Nat → Nat) (n1 : Nat → Nat) (n2 : Nat → Nat) (n3 : Nat → Nat) (x1 : Int32) (x2 : Int32) (x3 : Int32) (x4 : Int32) (x5 : Int32) (Ma : ST) (G0 : ST) (N0 : LT) (G1 : ST) (N1 : LT) (G2 : ST) (N2 : LT) (G3 : ST) (N3 : LT) (r0 : Int32) (Maz : ST) (N0z : LT) (N1z : LT) (N2z : LT) (N3z : LT) (hf : fX7_copy x1 x2 x3 x4 x5 Ma G0 N0 G1 N1 G2 N2 G3 N3 = some (r0, Maz, N0z, N1z, N2z, N3z)) : CG l yX7_copy (wsm yX7_copy cX7_copy 6 (some .int)) rmX7_copy D cs [.ref (x 0), .int x1, .int x2, .int x3, .int x4, .int x5] (some (.int r0)) ((kX7 cs x (.ref (g 0)) (.ref (g2 0)) (.ref (g3 0)) (.ref (h 0)) (.ref (t 0)) (.ref (sa 0)) Ma) ++ (kSA cs sa (e0 0) (e1 0) (e2 0) (e3 0)) ++ (kX5 cs e0 (.ref (n0 0)) G0) ++ (kJ40 cs n0 N0) ++ (kX5 cs e1 (.ref (n1 0)) G1) ++ (kJ40 cs n1 N1) ++ (kX5 cs e2 (.ref (n2 0)) G2) ++ (kJ40 cs n2 N2) ++ (kX5 cs e3 (.ref (n3 0)) G3) ++ (kJ40 cs n3 N3)) ((kX7 cs x (.ref (g 0)) (.ref (g2 0)) (.ref (g3 0)) (.ref (h 0)) (.ref (t 0)) (.ref (sa 0)) Maz) ++ (kSA cs sa (e0 0) (e1 0) (e2 0) (e3 0)) ++ (kX5 cs e0 (.ref (n0 0)) G0) ++ (kJ40 cs n0 N0z) ++ (kX5 cs e1 (.ref (n1 0)) G1) ++ (kJ40 cs n1 N1z) ++ (kX5 cs e2 (.ref (n2 0)) G2) ++ (kJ40 cs n2 N2z) ++ (kX5 cs e3 (.ref (n3 0)) G3) ++ (kJ40 cs n3 N3z)) := by
  refine CG.intro (by decide) (Nat.le_of_ble_eq_true rfl) ?_
  intro p e s m below meth c A Q hx hb hml hown hu hK hZ hP0 hD0 hS0 hA hri hrz hrl hrv hra ls0 hl0
  have h14 : ∀ (Ma : ST) (N0 : LT) (N1 : LT) (N2 : LT) (N3 : LT) (H : Heap) (locs : List Loc) (ls : Array Slot), va_P D vwCl ((kX7 cs x (.ref (g 0)) (.ref (g2 0)) (.ref (g3 0)) (.ref (h 0)) (.ref (t 0)) (.ref (sa 0)) Ma) ++ (kSA cs sa (e0 0) (e1 0) (e2 0) (e3 0)) ++ (kX5 cs e0 (.ref (n0 0)) G0) ++ (kJ40 cs n0 N0) ++ (kX5 cs e1 (.ref (n1 0)) G1) ++ (kJ40 cs n1 N1) ++ (kX5 cs e2 (.ref (n2 0)) G2) ++ (kJ40 cs n2 N2) ++ (kX5 cs e3 (.ref (n3 0)) G3) ++ (kJ40 cs n3 N3)) H → va_D A ((kX7 cs x (.ref (g 0)) (.ref (g2 0)) (.ref (g3 0)) (.ref (h 0)) (.ref (t 0)) (.ref (sa 0)) Ma) ++ (kSA cs sa (e0 0) (e1 0) (e2 0) (e3 0)) ++ (kX5 cs e0 (.ref (n0 0)) G0) ++ (kJ40 cs n0 N0) ++ (kX5 cs e1 (.ref (n1 0)) G1) ++ (kJ40 cs n1 N1) ++ (kX5 cs e2 (.ref (n2 0)) G2) ++ (kJ40 cs n2 N2) ++ (kX5 cs e3 (.ref (n3 0)) G3) ++ (kJ40 cs n3 N3)) → va_S A s.heap H locs → lv_has ls 6 [(0, .ref (x 0))] → fX7_copy_14 G0 G1 G2 G3 Ma N0 N1 N2 N3 = some (r0, Maz, N0z, N1z, N2z, N3z) → W p l e rmX7_copy s m [.ref (x 0), .int x1, .int x2, .int x3, .int x4, .int x5].toArray below meth c H locs 0 0 Q (F0 m 14 ls []) := by
    intro Ma N0 N1 N2 N3 H locs ls hP hD hS hl hf
    unfold fX7_copy_14 at hf
    refine lv_aload_n hx hb dX7_copy_14 rfl (lv_at hl 0 rfl) ?_
    refine lv_ldc (v := (-1000000001)) hx hb hown (hu _ q335) dX7_copy_15 ?_
    obtain ⟨r4, Ma_5, hg6, hf⟩ := b2_el hf
    refine cc_V (w' := ((kX7 cs x (.ref (g 0)) (.ref (g2 0)) (.ref (g3 0)) (.ref (h 0)) (.ref (t 0)) (.ref (sa 0)) Ma_5) ++ (kSA cs sa (e0 0) (e1 0) (e2 0) (e3 0)) ++ (kX5 cs e0 (.ref (n0 0)) G0) ++ (kJ40 cs n0 N0) ++ (kX5 cs e1 (.ref (n1 0)) G1) ++ (kJ40 cs n1 N1) ++ (kX5 cs e2 (.ref (n2 0)) G2) ++ (kJ40 cs n2 N2) ++ (kX5 cs e3 (.ref (n3 0)) G3) ++ (kJ40 cs n3 N3))) (wr := ((kSA cs sa (e0 0) (e1 0) (e2 0) (e3 0)) ++ (kX5 cs e0 (.ref (n0 0)) G0) ++ (kJ40 cs n0 N0) ++ (kX5 cs e1 (.ref (n1 0)) G1) ++ (kJ40 cs n1 N1) ++ (kX5 cs e2 (.ref (n2 0)) G2) ++ (kJ40 cs n2 N2) ++ (kX5 cs e3 (.ref (n3 0)) G3) ++ (kJ40 cs n3 N3))) (st1 := [.int r4]) [.int (-1000000001)] hx hb hml hown hu (tX7_finding l D cs x g g2 g3 h t sa (-1000000001) Ma r4 Ma_5 hg6) q339 q54 q336 q338 q0 pdX7_finding ⟨rfl, rfl, Nat.le_of_ble_eq_true rfl, Nat.le_of_ble_eq_true rfl⟩ hK hZ hP hD hS hA [0, 1] [2, 3, 4, 5, 6, 7, 8, 9, 10] [9, 10, 0, 1, 2, 3, 4, 5, 6, 7, 8] rfl rfl rfl rfl rfl rfl rfl rfl rfl rfl hl.1 rfl (Nat.le_of_ble_eq_true rfl) dX7_copy_17 rfl (fun H locs hP hD hS => ?_)
    have he := Option.some.inj hf
    obtain ⟨e0, ht0⟩ := Prod.mk.inj he
    obtain ⟨e1, ht1⟩ := Prod.mk.inj ht0
    obtain ⟨e2, ht2⟩ := Prod.mk.inj ht1
    obtain ⟨e3, ht3⟩ := Prod.mk.inj ht2
    obtain ⟨e4, e5⟩ := Prod.mk.inj ht3
    exact hri _ _ _ rfl (congrArg (fun z => some (Value.int z)) e0.symm) dX7_copy_20 _ _ _ (by rw [e1, e2, e3, e4, e5]) hP hD hS
  have h45 : ∀ (Ma : ST) (N0 : LT) (N1 : LT) (N2 : LT) (N3 : LT) (H : Heap) (locs : List Loc) (ls : Array Slot), va_P D vwCl ((kX7 cs x (.ref (g 0)) (.ref (g2 0)) (.ref (g3 0)) (.ref (h 0)) (.ref (t 0)) (.ref (sa 0)) Ma) ++ (kSA cs sa (e0 0) (e1 0) (e2 0) (e3 0)) ++ (kX5 cs e0 (.ref (n0 0)) G0) ++ (kJ40 cs n0 N0) ++ (kX5 cs e1 (.ref (n1 0)) G1) ++ (kJ40 cs n1 N1) ++ (kX5 cs e2 (.ref (n2 0)) G2) ++ (kJ40 cs n2 N2) ++ (kX5 cs e3 (.ref (n3 0)) G3) ++ (kJ40 cs n3 N3)) H → va_D A ((kX7 cs x (.ref (g 0)) (.ref (g2 0)) (.ref (g3 0)) (.ref (h 0)) (.ref (t 0)) (.ref (sa 0)) Ma) ++ (kSA cs sa (e0 0) (e1 0) (e2 0) (e3 0)) ++ (kX5 cs e0 (.ref (n0 0)) G0) ++ (kJ40 cs n0 N0) ++ (kX5 cs e1 (.ref (n1 0)) G1) ++ (kJ40 cs n1 N1) ++ (kX5 cs e2 (.ref (n2 0)) G2) ++ (kJ40 cs n2 N2) ++ (kX5 cs e3 (.ref (n3 0)) G3) ++ (kJ40 cs n3 N3)) → va_S A s.heap H locs → lv_has ls 6 [(0, .ref (x 0))] → fX7_copy_45 G0 G1 G2 G3 Ma N0 N1 N2 N3 = some (r0, Maz, N0z, N1z, N2z, N3z) → W p l e rmX7_copy s m [.ref (x 0), .int x1, .int x2, .int x3, .int x4, .int x5].toArray below meth c H locs 0 0 Q (F0 m 45 ls []) := by
    intro Ma N0 N1 N2 N3 H locs ls hP hD hS hl hf
    unfold fX7_copy_45 at hf
    refine lv_aload_n hx hb dX7_copy_45 rfl (lv_at hl 0 rfl) ?_
    refine lv_ldcw (v := (-1000000006)) hx hb hown (hu _ q861) dX7_copy_46 ?_
    obtain ⟨r14, Ma_15, hg16, hf⟩ := b2_el hf
    refine cc_V (w' := ((kX7 cs x (.ref (g 0)) (.ref (g2 0)) (.ref (g3 0)) (.ref (h 0)) (.ref (t 0)) (.ref (sa 0)) Ma_15) ++ (kSA cs sa (e0 0) (e1 0) (e2 0) (e3 0)) ++ (kX5 cs e0 (.ref (n0 0)) G0) ++ (kJ40 cs n0 N0) ++ (kX5 cs e1 (.ref (n1 0)) G1) ++ (kJ40 cs n1 N1) ++ (kX5 cs e2 (.ref (n2 0)) G2) ++ (kJ40 cs n2 N2) ++ (kX5 cs e3 (.ref (n3 0)) G3) ++ (kJ40 cs n3 N3))) (wr := ((kSA cs sa (e0 0) (e1 0) (e2 0) (e3 0)) ++ (kX5 cs e0 (.ref (n0 0)) G0) ++ (kJ40 cs n0 N0) ++ (kX5 cs e1 (.ref (n1 0)) G1) ++ (kJ40 cs n1 N1) ++ (kX5 cs e2 (.ref (n2 0)) G2) ++ (kJ40 cs n2 N2) ++ (kX5 cs e3 (.ref (n3 0)) G3) ++ (kJ40 cs n3 N3))) (st1 := [.int r14]) [.int (-1000000006)] hx hb hml hown hu (tX7_finding l D cs x g g2 g3 h t sa (-1000000006) Ma r14 Ma_15 hg16) q339 q54 q336 q338 q0 pdX7_finding ⟨rfl, rfl, Nat.le_of_ble_eq_true rfl, Nat.le_of_ble_eq_true rfl⟩ hK hZ hP hD hS hA [0, 1] [2, 3, 4, 5, 6, 7, 8, 9, 10] [9, 10, 0, 1, 2, 3, 4, 5, 6, 7, 8] rfl rfl rfl rfl rfl rfl rfl rfl rfl rfl hl.1 rfl (Nat.le_of_ble_eq_true rfl) dX7_copy_49 rfl (fun H locs hP hD hS => ?_)
    have he := Option.some.inj hf
    obtain ⟨e0, ht0⟩ := Prod.mk.inj he
    obtain ⟨e1, ht1⟩ := Prod.mk.inj ht0
    obtain ⟨e2, ht2⟩ := Prod.mk.inj ht1
    obtain ⟨e3, ht3⟩ := Prod.mk.inj ht2
    obtain ⟨e4, e5⟩ := Prod.mk.inj ht3
    exact hri _ _ _ rfl (congrArg (fun z => some (Value.int z)) e0.symm) dX7_copy_52 _ _ _ (by rw [e1, e2, e3, e4, e5]) hP hD hS
  have h112 : ∀ (Ma : ST) (N0 : LT) (N1 : LT) (N2 : LT) (N3 : LT) (H : Heap) (locs : List Loc) (ls : Array Slot), va_P D vwCl ((kX7 cs x (.ref (g 0)) (.ref (g2 0)) (.ref (g3 0)) (.ref (h 0)) (.ref (t 0)) (.ref (sa 0)) Ma) ++ (kSA cs sa (e0 0) (e1 0) (e2 0) (e3 0)) ++ (kX5 cs e0 (.ref (n0 0)) G0) ++ (kJ40 cs n0 N0) ++ (kX5 cs e1 (.ref (n1 0)) G1) ++ (kJ40 cs n1 N1) ++ (kX5 cs e2 (.ref (n2 0)) G2) ++ (kJ40 cs n2 N2) ++ (kX5 cs e3 (.ref (n3 0)) G3) ++ (kJ40 cs n3 N3)) H → va_D A ((kX7 cs x (.ref (g 0)) (.ref (g2 0)) (.ref (g3 0)) (.ref (h 0)) (.ref (t 0)) (.ref (sa 0)) Ma) ++ (kSA cs sa (e0 0) (e1 0) (e2 0) (e3 0)) ++ (kX5 cs e0 (.ref (n0 0)) G0) ++ (kJ40 cs n0 N0) ++ (kX5 cs e1 (.ref (n1 0)) G1) ++ (kJ40 cs n1 N1) ++ (kX5 cs e2 (.ref (n2 0)) G2) ++ (kJ40 cs n2 N2) ++ (kX5 cs e3 (.ref (n3 0)) G3) ++ (kJ40 cs n3 N3)) → va_S A s.heap H locs → lv_has ls 6 [(0, .ref (x 0))] → fX7_copy_112 G0 G1 G2 G3 Ma N0 N1 N2 N3 = some (r0, Maz, N0z, N1z, N2z, N3z) → W p l e rmX7_copy s m [.ref (x 0), .int x1, .int x2, .int x3, .int x4, .int x5].toArray below meth c H locs 0 0 Q (F0 m 112 ls []) := by
    intro Ma N0 N1 N2 N3 H locs ls hP hD hS hl hf
    unfold fX7_copy_112 at hf
    refine lv_aload_n hx hb dX7_copy_112 rfl (lv_at hl 0 rfl) ?_
    refine lv_ldc (v := (-1000000001)) hx hb hown (hu _ q335) dX7_copy_113 ?_
    obtain ⟨r25, Ma_26, hg27, hf⟩ := b2_el hf
    refine cc_V (w' := ((kX7 cs x (.ref (g 0)) (.ref (g2 0)) (.ref (g3 0)) (.ref (h 0)) (.ref (t 0)) (.ref (sa 0)) Ma_26) ++ (kSA cs sa (e0 0) (e1 0) (e2 0) (e3 0)) ++ (kX5 cs e0 (.ref (n0 0)) G0) ++ (kJ40 cs n0 N0) ++ (kX5 cs e1 (.ref (n1 0)) G1) ++ (kJ40 cs n1 N1) ++ (kX5 cs e2 (.ref (n2 0)) G2) ++ (kJ40 cs n2 N2) ++ (kX5 cs e3 (.ref (n3 0)) G3) ++ (kJ40 cs n3 N3))) (wr := ((kSA cs sa (e0 0) (e1 0) (e2 0) (e3 0)) ++ (kX5 cs e0 (.ref (n0 0)) G0) ++ (kJ40 cs n0 N0) ++ (kX5 cs e1 (.ref (n1 0)) G1) ++ (kJ40 cs n1 N1) ++ (kX5 cs e2 (.ref (n2 0)) G2) ++ (kJ40 cs n2 N2) ++ (kX5 cs e3 (.ref (n3 0)) G3) ++ (kJ40 cs n3 N3))) (st1 := [.int r25]) [.int (-1000000001)] hx hb hml hown hu (tX7_finding l D cs x g g2 g3 h t sa (-1000000001) Ma r25 Ma_26 hg27) q339 q54 q336 q338 q0 pdX7_finding ⟨rfl, rfl, Nat.le_of_ble_eq_true rfl, Nat.le_of_ble_eq_true rfl⟩ hK hZ hP hD hS hA [0, 1] [2, 3, 4, 5, 6, 7, 8, 9, 10] [9, 10, 0, 1, 2, 3, 4, 5, 6, 7, 8] rfl rfl rfl rfl rfl rfl rfl rfl rfl rfl hl.1 rfl (Nat.le_of_ble_eq_true rfl) dX7_copy_115 rfl (fun H locs hP hD hS => ?_)
    have he := Option.some.inj hf
    obtain ⟨e0, ht0⟩ := Prod.mk.inj he
    obtain ⟨e1, ht1⟩ := Prod.mk.inj ht0
    obtain ⟨e2, ht2⟩ := Prod.mk.inj ht1
    obtain ⟨e3, ht3⟩ := Prod.mk.inj ht2
    obtain ⟨e4, e5⟩ := Prod.mk.inj ht3
    exact hri _ _ _ rfl (congrArg (fun z => some (Value.int z)) e0.symm) dX7_copy_118 _ _ _ (by rw [e1, e2, e3, e4, e5]) hP hD hS
  have hl : lv_has ls0 6 [(0, .ref (x 0)), (1, .int x1), (2, .int x2), (3, .int x3), (4, .int x4), (5, .int x5)] := hl0
  have hP := hP0
  have hD := hD0
  have hS := hS0
  unfold fX7_copy at hf
  refine lv_iload_n hx hb dX7_copy_0 rfl (lv_at hl 1 rfl) ?_
  obtain ⟨r1, hg2, hf⟩ := b1_el hf
  refine cc_S0 (st1 := [.int r1]) [.int x1] hx hb hml hown hu (tX7_isSheet l D cs x1 r1 hg2) q844 q54 q842 q843 pdX7_isSheet ⟨rfl, rfl, Nat.le_of_ble_eq_true rfl, Nat.le_of_ble_eq_true rfl⟩ hK hZ hP hD hS hA rfl hl.1 rfl (Nat.le_of_ble_eq_true rfl) dX7_copy_1 rfl (fun H locs hP hD hS => ?_)
  refine lv_if_eq (tgt := 14) hx hb dX7_copy_4 (by decide) (fun hc3 => ?_) (fun hc3 => ?_)
  · have hf := ip_el hc3 hf
    exact h14 Ma N0 N1 N2 N3 _ _ _ hP hD hS (lv_sub hl [0] rfl) hf
  · have hf := in_el hc3 hf
    refine lv_iload_n hx hb dX7_copy_7 rfl (lv_at hl 3 rfl) ?_
    obtain ⟨r7, hg8, hf⟩ := b1_el hf
    refine cc_S0 (st1 := [.int r7]) [.int x3] hx hb hml hown hu (tX7_isSheet l D cs x3 r7 hg8) q844 q54 q842 q843 pdX7_isSheet ⟨rfl, rfl, Nat.le_of_ble_eq_true rfl, Nat.le_of_ble_eq_true rfl⟩ hK hZ hP hD hS hA rfl hl.1 rfl (Nat.le_of_ble_eq_true rfl) dX7_copy_8 rfl (fun H locs hP hD hS => ?_)
    refine lv_if_ne (tgt := 21) hx hb dX7_copy_11 (by decide) (fun hc9 => ?_) (fun hc9 => ?_)
    · have hf := in_el hc9 hf
      refine lv_aload_n hx hb dX7_copy_21 rfl (lv_at hl 0 rfl) ?_
      refine va_get (D := D) (ci := 7) (v := .ref (sa 0)) (C := RX7) (T := TX7) (N := 8) hx hb hu inX7 hown hK.1 hP 0 rfl rfl 5 (by decide) (hu _ q305) (fun _ h9 => h9) rfl dX7_copy_22 ?_
      refine lv_iload_n hx hb dX7_copy_25 rfl (lv_at hl 1 rfl) ?_
      by_cases hc10 : x1 = 0
      · have hf := ip_el hc10 hf
        refine sa_lit (e := e0 0) hx hb hK hP 2 rfl (k := 0) (by rw [hc10]; decide) rfl dX7_copy_26 ?_
        obtain ⟨r11, hg12, hf⟩ := b1_el hf
        refine cc_V (w' := ((kX7 cs x (.ref (g 0)) (.ref (g2 0)) (.ref (g3 0)) (.ref (h 0)) (.ref (t 0)) (.ref (sa 0)) Ma) ++ (kSA cs sa (e0 0) (e1 0) (e2 0) (e3 0)) ++ (kX5 cs e0 (.ref (n0 0)) G0) ++ (kJ40 cs n0 N0) ++ (kX5 cs e1 (.ref (n1 0)) G1) ++ (kJ40 cs n1 N1) ++ (kX5 cs e2 (.ref (n2 0)) G2) ++ (kJ40 cs n2 N2) ++ (kX5 cs e3 (.ref (n3 0)) G3) ++ (kJ40 cs n3 N3))) (wr := ((kX7 cs x (.ref (g 0)) (.ref (g2 0)) (.ref (g3 0)) (.ref (h 0)) (.ref (t 0)) (.ref (sa 0)) Ma) ++ (kSA cs sa (e0 0) (e1 0) (e2 0) (e3 0)) ++ (kJ40 cs n0 N0) ++ (kX5 cs e1 (.ref (n1 0)) G1) ++ (kJ40 cs n1 N1) ++ (kX5 cs e2 (.ref (n2 0)) G2) ++ (kJ40 cs n2 N2) ++ (kX5 cs e3 (.ref (n3 0)) G3) ++ (kJ40 cs n3 N3))) (st1 := [.int r11]) [] hx hb hml hown hu (tX5_isMissing l D cs e0 n0 G0 r11 hg12) q860 q61 q857 q858 q859 pdX5_isMissing ⟨rfl, rfl, Nat.le_of_ble_eq_true rfl, Nat.le_of_ble_eq_true rfl⟩ hK hZ hP hD hS hA [3] [0, 1, 2, 4, 5, 6, 7, 8, 9, 10] [0, 1, 2, 10, 3, 4, 5, 6, 7, 8, 9] rfl rfl rfl rfl rfl rfl rfl rfl rfl rfl hl.1 rfl (Nat.le_of_ble_eq_true rfl) dX7_copy_27 rfl (fun H locs hP hD hS => ?_)
        refine lv_if_ne (tgt := 45) hx hb dX7_copy_30 (by decide) (fun hc13 => ?_) (fun hc13 => ?_)
        · have hf := in_el hc13 hf
          exact h45 Ma N0 N1 N2 N3 _ _ _ hP hD hS (lv_sub hl [0] rfl) hf
        · have hf := ip_el hc13 hf
          refine lv_aload_n hx hb dX7_copy_33 rfl (lv_at hl 0 rfl) ?_
          refine va_get (D := D) (ci := 7) (v := .ref (sa 0)) (C := RX7) (T := TX7) (N := 8) hx hb hu inX7 hown hK.1 hP 0 rfl rfl 5 (by decide) (hu _ q305) (fun _ h9 => h9) rfl dX7_copy_34 ?_
          refine lv_iload_n hx hb dX7_copy_37 rfl (lv_at hl 3 rfl) ?_
          by_cases hc17 : x3 = 0
          · have hf := ip_el hc17 hf
            refine sa_lit (e := e0 0) hx hb hK hP 2 rfl (k := 0) (by rw [hc17]; decide) rfl dX7_copy_38 ?_
            obtain ⟨r18, hg19, hf⟩ := b1_el hf
            refine cc_V (w' := ((kX7 cs x (.ref (g 0)) (.ref (g2 0)) (.ref (g3 0)) (.ref (h 0)) (.ref (t 0)) (.ref (sa 0)) Ma) ++ (kSA cs sa (e0 0) (e1 0) (e2 0) (e3 0)) ++ (kX5 cs e0 (.ref (n0 0)) G0) ++ (kJ40 cs n0 N0) ++ (kX5 cs e1 (.ref (n1 0)) G1) ++ (kJ40 cs n1 N1) ++ (kX5 cs e2 (.ref (n2 0)) G2) ++ (kJ40 cs n2 N2) ++ (kX5 cs e3 (.ref (n3 0)) G3) ++ (kJ40 cs n3 N3))) (wr := ((kX7 cs x (.ref (g 0)) (.ref (g2 0)) (.ref (g3 0)) (.ref (h 0)) (.ref (t 0)) (.ref (sa 0)) Ma) ++ (kSA cs sa (e0 0) (e1 0) (e2 0) (e3 0)) ++ (kJ40 cs n0 N0) ++ (kX5 cs e1 (.ref (n1 0)) G1) ++ (kJ40 cs n1 N1) ++ (kX5 cs e2 (.ref (n2 0)) G2) ++ (kJ40 cs n2 N2) ++ (kX5 cs e3 (.ref (n3 0)) G3) ++ (kJ40 cs n3 N3))) (st1 := [.int r18]) [] hx hb hml hown hu (tX5_isMissing l D cs e0 n0 G0 r18 hg19) q860 q61 q857 q858 q859 pdX5_isMissing ⟨rfl, rfl, Nat.le_of_ble_eq_true rfl, Nat.le_of_ble_eq_true rfl⟩ hK hZ hP hD hS hA [3] [0, 1, 2, 4, 5, 6, 7, 8, 9, 10] [0, 1, 2, 10, 3, 4, 5, 6, 7, 8, 9] rfl rfl rfl rfl rfl rfl rfl rfl rfl rfl hl.1 rfl (Nat.le_of_ble_eq_true rfl) dX7_copy_39 rfl (fun H locs hP hD hS => ?_)
            refine lv_if_eq (tgt := 53) hx hb dX7_copy_42 (by decide) (fun hc20 => ?_) (fun hc20 => ?_)
            · have hf := ip_el hc20 hf
              refine lv_aload_n hx hb dX7_copy_53 rfl (lv_at hl 0 rfl) ?_
              refine va_get (D := D) (ci := 7) (v := .ref (sa 0)) (C := RX7) (T := TX7) (N := 8) hx hb hu inX7 hown hK.1 hP 0 rfl rfl 5 (by decide) (hu _ q305) (fun _ h9 => h9) rfl dX7_copy_54 ?_
              refine lv_iload_n hx hb dX7_copy_57 rfl (lv_at hl 1 rfl) ?_
              refine sa_lit (e := e0 0) hx hb hK hP 2 rfl (k := 0) (by rw [hc10]; decide) rfl dX7_copy_58 ?_
              refine va_get (D := D) (ci := 5) (v := .int (G0 0 0)) (C := RX5) (T := TX5) (N := 3) hx hb hu inX5 hown hK.1 hP 3 rfl rfl 0 (by decide) (hu _ q287) (fun _ h9 => h9) rfl dX7_copy_59 ?_
              refine lv_aload_n hx hb dX7_copy_62 rfl (lv_at hl 0 rfl) ?_
              refine va_get (D := D) (ci := 7) (v := .ref (sa 0)) (C := RX7) (T := TX7) (N := 8) hx hb hu inX7 hown hK.1 hP 0 rfl rfl 5 (by decide) (hu _ q305) (fun _ h9 => h9) rfl dX7_copy_63 ?_
              refine lv_iload_n hx hb dX7_copy_66 rfl (lv_at hl 3 rfl) ?_
              refine sa_lit (e := e0 0) hx hb hK hP 2 rfl (k := 0) (by rw [hc17]; decide) rfl dX7_copy_67 ?_
              refine va_get (D := D) (ci := 5) (v := .int (G0 0 0)) (C := RX5) (T := TX5) (N := 3) hx hb hu inX5 hown hK.1 hP 3 rfl rfl 0 (by decide) (hu _ q287) (fun _ h9 => h9) rfl dX7_copy_68 ?_
              refine lv_icmp_eq (tgt := 81) hx hb dX7_copy_71 (by decide) (fun hc21 => ?_) (fun hc21 => ?_)
              · have hf := ip_el hc21 hf
                refine lv_aload_n hx hb dX7_copy_81 rfl (lv_at hl 0 rfl) ?_
                refine va_get (D := D) (ci := 7) (v := .ref (sa 0)) (C := RX7) (T := TX7) (N := 8) hx hb hu inX7 hown hK.1 hP 0 rfl rfl 5 (by decide) (hu _ q305) (fun _ h9 => h9) rfl dX7_copy_82 ?_
                refine lv_iload_n hx hb dX7_copy_85 rfl (lv_at hl 1 rfl) ?_
                refine sa_lit (e := e0 0) hx hb hK hP 2 rfl (k := 0) (by rw [hc10]; decide) rfl dX7_copy_86 ?_
                refine lv_iload_n hx hb dX7_copy_87 rfl (lv_at hl 2 rfl) ?_
                refine lv_iload hx hb dX7_copy_88 (lv_at hl 5 rfl) ?_
                obtain ⟨r22, hg23, hf⟩ := b1_el hf
                refine cc_V (w' := ((kX7 cs x (.ref (g 0)) (.ref (g2 0)) (.ref (g3 0)) (.ref (h 0)) (.ref (t 0)) (.ref (sa 0)) Ma) ++ (kSA cs sa (e0 0) (e1 0) (e2 0) (e3 0)) ++ (kX5 cs e0 (.ref (n0 0)) G0) ++ (kJ40 cs n0 N0) ++ (kX5 cs e1 (.ref (n1 0)) G1) ++ (kJ40 cs n1 N1) ++ (kX5 cs e2 (.ref (n2 0)) G2) ++ (kJ40 cs n2 N2) ++ (kX5 cs e3 (.ref (n3 0)) G3) ++ (kJ40 cs n3 N3))) (wr := ((kX7 cs x (.ref (g 0)) (.ref (g2 0)) (.ref (g3 0)) (.ref (h 0)) (.ref (t 0)) (.ref (sa 0)) Ma) ++ (kSA cs sa (e0 0) (e1 0) (e2 0) (e3 0)) ++ (kJ40 cs n0 N0) ++ (kX5 cs e1 (.ref (n1 0)) G1) ++ (kJ40 cs n1 N1) ++ (kX5 cs e2 (.ref (n2 0)) G2) ++ (kJ40 cs n2 N2) ++ (kX5 cs e3 (.ref (n3 0)) G3) ++ (kJ40 cs n3 N3))) (st1 := [.int r22]) [.int x2, .int x5] hx hb hml hown hu (tX5_holds l D cs e0 n0 x2 x5 G0 r22 hg23) q873 q61 q870 q871 q872 pdX5_holds ⟨rfl, rfl, Nat.le_of_ble_eq_true rfl, Nat.le_of_ble_eq_true rfl⟩ hK hZ hP hD hS hA [3] [0, 1, 2, 4, 5, 6, 7, 8, 9, 10] [0, 1, 2, 10, 3, 4, 5, 6, 7, 8, 9] rfl rfl rfl rfl rfl rfl rfl rfl rfl rfl hl.1 rfl (Nat.le_of_ble_eq_true rfl) dX7_copy_90 rfl (fun H locs hP hD hS => ?_)
                refine lv_if_eq (tgt := 112) hx hb dX7_copy_93 (by decide) (fun hc24 => ?_) (fun hc24 => ?_)
                · have hf := ip_el hc24 hf
                  exact h112 Ma N0 N1 N2 N3 _ _ _ hP hD hS (lv_sub hl [0] rfl) hf
                · have hf := in_el hc24 hf
                  refine lv_aload_n hx hb dX7_copy_96 rfl (lv_at hl 0 rfl) ?_
                  refine va_get (D := D) (ci := 7) (v := .ref (sa 0)) (C := RX7) (T := TX7) (N := 8) hx hb hu inX7 hown hK.1 hP 0 rfl rfl 5 (by decide) (hu _ q305) (fun _ h9 => h9) rfl dX7_copy_97 ?_
                  refine lv_iload_n hx hb dX7_copy_100 rfl (lv_at hl 3 rfl) ?_
                  refine sa_lit (e := e0 0) hx hb hK hP 2 rfl (k := 0) (by rw [hc17]; decide) rfl dX7_copy_101 ?_
                  refine lv_iload hx hb dX7_copy_102 (lv_at hl 4 rfl) ?_
                  refine lv_iload hx hb dX7_copy_104 (lv_at hl 5 rfl) ?_
                  obtain ⟨r28, hg29, hf⟩ := b1_el hf
                  refine cc_V (w' := ((kX7 cs x (.ref (g 0)) (.ref (g2 0)) (.ref (g3 0)) (.ref (h 0)) (.ref (t 0)) (.ref (sa 0)) Ma) ++ (kSA cs sa (e0 0) (e1 0) (e2 0) (e3 0)) ++ (kX5 cs e0 (.ref (n0 0)) G0) ++ (kJ40 cs n0 N0) ++ (kX5 cs e1 (.ref (n1 0)) G1) ++ (kJ40 cs n1 N1) ++ (kX5 cs e2 (.ref (n2 0)) G2) ++ (kJ40 cs n2 N2) ++ (kX5 cs e3 (.ref (n3 0)) G3) ++ (kJ40 cs n3 N3))) (wr := ((kX7 cs x (.ref (g 0)) (.ref (g2 0)) (.ref (g3 0)) (.ref (h 0)) (.ref (t 0)) (.ref (sa 0)) Ma) ++ (kSA cs sa (e0 0) (e1 0) (e2 0) (e3 0)) ++ (kJ40 cs n0 N0) ++ (kX5 cs e1 (.ref (n1 0)) G1) ++ (kJ40 cs n1 N1) ++ (kX5 cs e2 (.ref (n2 0)) G2) ++ (kJ40 cs n2 N2) ++ (kX5 cs e3 (.ref (n3 0)) G3) ++ (kJ40 cs n3 N3))) (st1 := [.int r28]) [.int x4, .int x5] hx hb hml hown hu (tX5_holds l D cs e0 n0 x4 x5 G0 r28 hg29) q873 q61 q870 q871 q872 pdX5_holds ⟨rfl, rfl, Nat.le_of_ble_eq_true rfl, Nat.le_of_ble_eq_true rfl⟩ hK hZ hP hD hS hA [3] [0, 1, 2, 4, 5, 6, 7, 8, 9, 10] [0, 1, 2, 10, 3, 4, 5, 6, 7, 8, 9] rfl rfl rfl rfl rfl rfl rfl rfl rfl rfl hl.1 rfl (Nat.le_of_ble_eq_true rfl) dX7_copy_106 rfl (fun H locs hP hD hS => ?_)
                  refine lv_if_ne (tgt := 119) hx hb dX7_copy_109 (by decide) (fun hc30 => ?_) (fun hc30 => ?_)
                  · have hf := in_el hc30 hf
                    refine lv_aload_n hx hb dX7_copy_119 rfl (lv_at hl 0 rfl) ?_
                    refine va_get (D := D) (ci := 7) (v := .ref (sa 0)) (C := RX7) (T := TX7) (N := 8) hx hb hu inX7 hown hK.1 hP 0 rfl rfl 5 (by decide) (hu _ q305) (fun _ h9 => h9) rfl dX7_copy_120 ?_
                    refine lv_iload_n hx hb dX7_copy_123 rfl (lv_at hl 1 rfl) ?_
                    refine sa_lit (e := e0 0) hx hb hK hP 2 rfl (k := 0) (by rw [hc10]; decide) rfl dX7_copy_124 ?_
                    refine va_get (D := D) (ci := 5) (v := .ref (n0 0)) (C := RX5) (T := TX5) (N := 3) hx hb hu inX5 hown hK.1 hP 3 rfl rfl 2 (by decide) (hu _ q291) (fun _ h9 => h9) rfl dX7_copy_125 ?_
                    refine lv_iload_n hx hb dX7_copy_128 rfl (lv_at hl 2 rfl) ?_
                    refine lv_aload_n hx hb dX7_copy_129 rfl (lv_at hl 0 rfl) ?_
                    refine va_get (D := D) (ci := 7) (v := .ref (sa 0)) (C := RX7) (T := TX7) (N := 8) hx hb hu inX7 hown hK.1 hP 0 rfl rfl 5 (by decide) (hu _ q305) (fun _ h9 => h9) rfl dX7_copy_130 ?_
                    refine lv_iload_n hx hb dX7_copy_133 rfl (lv_at hl 3 rfl) ?_
                    refine sa_lit (e := e0 0) hx hb hK hP 2 rfl (k := 0) (by rw [hc17]; decide) rfl dX7_copy_134 ?_
                    refine va_get (D := D) (ci := 5) (v := .ref (n0 0)) (C := RX5) (T := TX5) (N := 3) hx hb hu inX5 hown hK.1 hP 3 rfl rfl 2 (by decide) (hu _ q291) (fun _ h9 => h9) rfl dX7_copy_135 ?_
                    refine lv_iload hx hb dX7_copy_138 (lv_at hl 4 rfl) ?_
                    refine lv_iload hx hb dX7_copy_140 (lv_at hl 5 rfl) ?_
                    obtain ⟨hq32, hf⟩ := cp_el hf
                    obtain ⟨N0_31, hN0_31, hf⟩ := lt_el hf
                    refine va_copyl hx hb (hml.trans hl.1.symm) hown (hu _ q874) (hu _ q431) (hu _ q430) (hu _ q63) hK.1 hP hD hS 4 4 1 1 rfl rfl rfl rfl rfl hq32.1 hq32.2.1 hq32.2.2.1 hq32.2.2.2.1 hq32.2.2.2.2 (fun _ _ => rfl) (Nat.le_of_ble_eq_true rfl) (Nat.le_of_ble_eq_true rfl) dX7_copy_142 (fun H locs hP hD hS => ?_)
                    have hP : va_P D vwCl ((kX7 cs x (.ref (g 0)) (.ref (g2 0)) (.ref (g3 0)) (.ref (h 0)) (.ref (t 0)) (.ref (sa 0)) Ma) ++ (kSA cs sa (e0 0) (e1 0) (e2 0) (e3 0)) ++ (kX5 cs e0 (.ref (n0 0)) G0) ++ (kJ40 cs n0 N0_31) ++ (kX5 cs e1 (.ref (n1 0)) G1) ++ (kJ40 cs n1 N1) ++ (kX5 cs e2 (.ref (n2 0)) G2) ++ (kJ40 cs n2 N2) ++ (kX5 cs e3 (.ref (n3 0)) G3) ++ (kJ40 cs n3 N3)) H := by rw [hN0_31]; exact hP
                    have hD : va_D A ((kX7 cs x (.ref (g 0)) (.ref (g2 0)) (.ref (g3 0)) (.ref (h 0)) (.ref (t 0)) (.ref (sa 0)) Ma) ++ (kSA cs sa (e0 0) (e1 0) (e2 0) (e3 0)) ++ (kX5 cs e0 (.ref (n0 0)) G0) ++ (kJ40 cs n0 N0_31) ++ (kX5 cs e1 (.ref (n1 0)) G1) ++ (kJ40 cs n1 N1) ++ (kX5 cs e2 (.ref (n2 0)) G2) ++ (kJ40 cs n2 N2) ++ (kX5 cs e3 (.ref (n3 0)) G3) ++ (kJ40 cs n3 N3)) := by rw [hN0_31]; exact hD
                    refine lv_iload hx hb dX7_copy_145 (lv_at hl 5 rfl) ?_
                    have he := Option.some.inj hf
                    obtain ⟨e0, ht0⟩ := Prod.mk.inj he
                    obtain ⟨e1, ht1⟩ := Prod.mk.inj ht0
                    obtain ⟨e2, ht2⟩ := Prod.mk.inj ht1
                    obtain ⟨e3, ht3⟩ := Prod.mk.inj ht2
                    obtain ⟨e4, e5⟩ := Prod.mk.inj ht3
                    exact hri _ _ _ rfl (congrArg (fun z => some (Value.int z)) e0.symm) dX7_copy_147 _ _ _ (by rw [e1, e2, e3, e4, e5]) hP hD hS
                  · have hf := ip_el hc30 hf
                    exact h112 Ma N0 N1 N2 N3 _ _ _ hP hD hS (lv_sub hl [0] rfl) hf
              · have hf := in_el hc21 hf
                refine lv_aload_n hx hb dX7_copy_74 rfl (lv_at hl 0 rfl) ?_
                refine lv_ldc (v := (-1000000003)) hx hb hown (hu _ q465) dX7_copy_75 ?_
                obtain ⟨r33, Ma_34, hg35, hf⟩ := b2_el hf
                refine cc_V (w' := ((kX7 cs x (.ref (g 0)) (.ref (g2 0)) (.ref (g3 0)) (.ref (h 0)) (.ref (t 0)) (.ref (sa 0)) Ma_34) ++ (kSA cs sa (e0 0) (e1 0) (e2 0) (e3 0)) ++ (kX5 cs e0 (.ref (n0 0)) G0) ++ (kJ40 cs n0 N0) ++ (kX5 cs e1 (.ref (n1 0)) G1) ++ (kJ40 cs n1 N1) ++ (kX5 cs e2 (.ref (n2 0)) G2) ++ (kJ40 cs n2 N2) ++ (kX5 cs e3 (.ref (n3 0)) G3) ++ (kJ40 cs n3 N3))) (wr := ((kSA cs sa (e0 0) (e1 0) (e2 0) (e3 0)) ++ (kX5 cs e0 (.ref (n0 0)) G0) ++ (kJ40 cs n0 N0) ++ (kX5 cs e1 (.ref (n1 0)) G1) ++ (kJ40 cs n1 N1) ++ (kX5 cs e2 (.ref (n2 0)) G2) ++ (kJ40 cs n2 N2) ++ (kX5 cs e3 (.ref (n3 0)) G3) ++ (kJ40 cs n3 N3))) (st1 := [.int r33]) [.int (-1000000003)] hx hb hml hown hu (tX7_finding l D cs x g g2 g3 h t sa (-1000000003) Ma r33 Ma_34 hg35) q339 q54 q336 q338 q0 pdX7_finding ⟨rfl, rfl, Nat.le_of_ble_eq_true rfl, Nat.le_of_ble_eq_true rfl⟩ hK hZ hP hD hS hA [0, 1] [2, 3, 4, 5, 6, 7, 8, 9, 10] [9, 10, 0, 1, 2, 3, 4, 5, 6, 7, 8] rfl rfl rfl rfl rfl rfl rfl rfl rfl rfl hl.1 rfl (Nat.le_of_ble_eq_true rfl) dX7_copy_77 rfl (fun H locs hP hD hS => ?_)
                have he := Option.some.inj hf
                obtain ⟨e0, ht0⟩ := Prod.mk.inj he
                obtain ⟨e1, ht1⟩ := Prod.mk.inj ht0
                obtain ⟨e2, ht2⟩ := Prod.mk.inj ht1
                obtain ⟨e3, ht3⟩ := Prod.mk.inj ht2
                obtain ⟨e4, e5⟩ := Prod.mk.inj ht3
                exact hri _ _ _ rfl (congrArg (fun z => some (Value.int z)) e0.symm) dX7_copy_80 _ _ _ (by rw [e1, e2, e3, e4, e5]) hP hD hS
            · have hf := in_el hc20 hf
              exact h45 Ma N0 N1 N2 N3 _ _ _ hP hD hS (lv_sub hl [0] rfl) hf
          have hf := in_el hc17 hf
          by_cases hc36 : x3 = 1
          · have hf := ip_el hc36 hf
            refine sa_lit (e := e1 0) hx hb hK hP 2 rfl (k := 1) (by rw [hc36]; decide) rfl dX7_copy_38 ?_
            obtain ⟨r37, hg38, hf⟩ := b1_el hf
            refine cc_V (w' := ((kX7 cs x (.ref (g 0)) (.ref (g2 0)) (.ref (g3 0)) (.ref (h 0)) (.ref (t 0)) (.ref (sa 0)) Ma) ++ (kSA cs sa (e0 0) (e1 0) (e2 0) (e3 0)) ++ (kX5 cs e0 (.ref (n0 0)) G0) ++ (kJ40 cs n0 N0) ++ (kX5 cs e1 (.ref (n1 0)) G1) ++ (kJ40 cs n1 N1) ++ (kX5 cs e2 (.ref (n2 0)) G2) ++ (kJ40 cs n2 N2) ++ (kX5 cs e3 (.ref (n3 0)) G3) ++ (kJ40 cs n3 N3))) (wr := ((kX7 cs x (.ref (g 0)) (.ref (g2 0)) (.ref (g3 0)) (.ref (h 0)) (.ref (t 0)) (.ref (sa 0)) Ma) ++ (kSA cs sa (e0 0) (e1 0) (e2 0) (e3 0)) ++ (kX5 cs e0 (.ref (n0 0)) G0) ++ (kJ40 cs n0 N0) ++ (kJ40 cs n1 N1) ++ (kX5 cs e2 (.ref (n2 0)) G2) ++ (kJ40 cs n2 N2) ++ (kX5 cs e3 (.ref (n3 0)) G3) ++ (kJ40 cs n3 N3))) (st1 := [.int r37]) [] hx hb hml hown hu (tX5_isMissing l D cs e1 n1 G1 r37 hg38) q860 q61 q857 q858 q859 pdX5_isMissing ⟨rfl, rfl, Nat.le_of_ble_eq_true rfl, Nat.le_of_ble_eq_true rfl⟩ hK hZ hP hD hS hA [5] [0, 1, 2, 3, 4, 6, 7, 8, 9, 10] [0, 1, 2, 3, 4, 10, 5, 6, 7, 8, 9] rfl rfl rfl rfl rfl rfl rfl rfl rfl rfl hl.1 rfl (Nat.le_of_ble_eq_true rfl) dX7_copy_39 rfl (fun H locs hP hD hS => ?_)
            refine lv_if_eq (tgt := 53) hx hb dX7_copy_42 (by decide) (fun hc39 => ?_) (fun hc39 => ?_)
            · have hf := ip_el hc39 hf
              refine lv_aload_n hx hb dX7_copy_53 rfl (lv_at hl 0 rfl) ?_
              refine va_get (D := D) (ci := 7) (v := .ref (sa 0)) (C := RX7) (T := TX7) (N := 8) hx hb hu inX7 hown hK.1 hP 0 rfl rfl 5 (by decide) (hu _ q305) (fun _ h9 => h9) rfl dX7_copy_54 ?_
              refine lv_iload_n hx hb dX7_copy_57 rfl (lv_at hl 1 rfl) ?_
              refine sa_lit (e := e0 0) hx hb hK hP 2 rfl (k := 0) (by rw [hc10]; decide) rfl dX7_copy_58 ?_
              refine va_get (D := D) (ci := 5) (v := .int (G0 0 0)) (C := RX5) (T := TX5) (N := 3) hx hb hu inX5 hown hK.1 hP 3 rfl rfl 0 (by decide) (hu _ q287) (fun _ h9 => h9) rfl dX7_copy_59 ?_
              refine lv_aload_n hx hb dX7_copy_62 rfl (lv_at hl 0 rfl) ?_
              refine va_get (D := D) (ci := 7) (v := .ref (sa 0)) (C := RX7) (T := TX7) (N := 8) hx hb hu inX7 hown hK.1 hP 0 rfl rfl 5 (by decide) (hu _ q305) (fun _ h9 => h9) rfl dX7_copy_63 ?_
              refine lv_iload_n hx hb dX7_copy_66 rfl (lv_at hl 3 rfl) ?_
              refine sa_lit (e := e1 0) hx hb hK hP 2 rfl (k := 1) (by rw [hc36]; decide) rfl dX7_copy_67 ?_
              refine va_get (D := D) (ci := 5) (v := .int (G1 0 0)) (C := RX5) (T := TX5) (N := 3) hx hb hu inX5 hown hK.1 hP 5 rfl rfl 0 (by decide) (hu _ q287) (fun _ h9 => h9) rfl dX7_copy_68 ?_
              refine lv_icmp_eq (tgt := 81) hx hb dX7_copy_71 (by decide) (fun hc40 => ?_) (fun hc40 => ?_)
              · have hf := ip_el hc40 hf
                refine lv_aload_n hx hb dX7_copy_81 rfl (lv_at hl 0 rfl) ?_
                refine va_get (D := D) (ci := 7) (v := .ref (sa 0)) (C := RX7) (T := TX7) (N := 8) hx hb hu inX7 hown hK.1 hP 0 rfl rfl 5 (by decide) (hu _ q305) (fun _ h9 => h9) rfl dX7_copy_82 ?_
                refine lv_iload_n hx hb dX7_copy_85 rfl (lv_at hl 1 rfl) ?_
                refine sa_lit (e := e0 0) hx hb hK hP 2 rfl (k := 0) (by rw [hc10]; decide) rfl dX7_copy_86 ?_
                refine lv_iload_n hx hb dX7_copy_87 rfl (lv_at hl 2 rfl) ?_
                refine lv_iload hx hb dX7_copy_88 (lv_at hl 5 rfl) ?_
                obtain ⟨r41, hg42, hf⟩ := b1_el hf
                refine cc_V (w' := ((kX7 cs x (.ref (g 0)) (.ref (g2 0)) (.ref (g3 0)) (.ref (h 0)) (.ref (t 0)) (.ref (sa 0)) Ma) ++ (kSA cs sa (e0 0) (e1 0) (e2 0) (e3 0)) ++ (kX5 cs e0 (.ref (n0 0)) G0) ++ (kJ40 cs n0 N0) ++ (kX5 cs e1 (.ref (n1 0)) G1) ++ (kJ40 cs n1 N1) ++ (kX5 cs e2 (.ref (n2 0)) G2) ++ (kJ40 cs n2 N2) ++ (kX5 cs e3 (.ref (n3 0)) G3) ++ (kJ40 cs n3 N3))) (wr := ((kX7 cs x (.ref (g 0)) (.ref (g2 0)) (.ref (g3 0)) (.ref (h 0)) (.ref (t 0)) (.ref (sa 0)) Ma) ++ (kSA cs sa (e0 0) (e1 0) (e2 0) (e3 0)) ++ (kJ40 cs n0 N0) ++ (kX5 cs e1 (.ref (n1 0)) G1) ++ (kJ40 cs n1 N1) ++ (kX5 cs e2 (.ref (n2 0)) G2) ++ (kJ40 cs n2 N2) ++ (kX5 cs e3 (.ref (n3 0)) G3) ++ (kJ40 cs n3 N3))) (st1 := [.int r41]) [.int x2, .int x5] hx hb hml hown hu (tX5_holds l D cs e0 n0 x2 x5 G0 r41 hg42) q873 q61 q870 q871 q872 pdX5_holds ⟨rfl, rfl, Nat.le_of_ble_eq_true rfl, Nat.le_of_ble_eq_true rfl⟩ hK hZ hP hD hS hA [3] [0, 1, 2, 4, 5, 6, 7, 8, 9, 10] [0, 1, 2, 10, 3, 4, 5, 6, 7, 8, 9] rfl rfl rfl rfl rfl rfl rfl rfl rfl rfl hl.1 rfl (Nat.le_of_ble_eq_true rfl) dX7_copy_90 rfl (fun H locs hP hD hS => ?_)
                refine lv_if_eq (tgt := 112) hx hb dX7_copy_93 (by decide) (fun hc43 => ?_) (fun hc43 => ?_)
                · have hf := ip_el hc43 hf
                  exact h112 Ma N0 N1 N2 N3 _ _ _ hP hD hS (lv_sub hl [0] rfl) hf
                · have hf := in_el hc43 hf
                  refine lv_aload_n hx hb dX7_copy_96 rfl (lv_at hl 0 rfl) ?_
                  refine va_get (D := D) (ci := 7) (v := .ref (sa 0)) (C := RX7) (T := TX7) (N := 8) hx hb hu inX7 hown hK.1 hP 0 rfl rfl 5 (by decide) (hu _ q305) (fun _ h9 => h9) rfl dX7_copy_97 ?_
                  refine lv_iload_n hx hb dX7_copy_100 rfl (lv_at hl 3 rfl) ?_
                  refine sa_lit (e := e1 0) hx hb hK hP 2 rfl (k := 1) (by rw [hc36]; decide) rfl dX7_copy_101 ?_
                  refine lv_iload hx hb dX7_copy_102 (lv_at hl 4 rfl) ?_
                  refine lv_iload hx hb dX7_copy_104 (lv_at hl 5 rfl) ?_
                  obtain ⟨r44, hg45, hf⟩ := b1_el hf
                  refine cc_V (w' := ((kX7 cs x (.ref (g 0)) (.ref (g2 0)) (.ref (g3 0)) (.ref (h 0)) (.ref (t 0)) (.ref (sa 0)) Ma) ++ (kSA cs sa (e0 0) (e1 0) (e2 0) (e3 0)) ++ (kX5 cs e0 (.ref (n0 0)) G0) ++ (kJ40 cs n0 N0) ++ (kX5 cs e1 (.ref (n1 0)) G1) ++ (kJ40 cs n1 N1) ++ (kX5 cs e2 (.ref (n2 0)) G2) ++ (kJ40 cs n2 N2) ++ (kX5 cs e3 (.ref (n3 0)) G3) ++ (kJ40 cs n3 N3))) (wr := ((kX7 cs x (.ref (g 0)) (.ref (g2 0)) (.ref (g3 0)) (.ref (h 0)) (.ref (t 0)) (.ref (sa 0)) Ma) ++ (kSA cs sa (e0 0) (e1 0) (e2 0) (e3 0)) ++ (kX5 cs e0 (.ref (n0 0)) G0) ++ (kJ40 cs n0 N0) ++ (kJ40 cs n1 N1) ++ (kX5 cs e2 (.ref (n2 0)) G2) ++ (kJ40 cs n2 N2) ++ (kX5 cs e3 (.ref (n3 0)) G3) ++ (kJ40 cs n3 N3))) (st1 := [.int r44]) [.int x4, .int x5] hx hb hml hown hu (tX5_holds l D cs e1 n1 x4 x5 G1 r44 hg45) q873 q61 q870 q871 q872 pdX5_holds ⟨rfl, rfl, Nat.le_of_ble_eq_true rfl, Nat.le_of_ble_eq_true rfl⟩ hK hZ hP hD hS hA [5] [0, 1, 2, 3, 4, 6, 7, 8, 9, 10] [0, 1, 2, 3, 4, 10, 5, 6, 7, 8, 9] rfl rfl rfl rfl rfl rfl rfl rfl rfl rfl hl.1 rfl (Nat.le_of_ble_eq_true rfl) dX7_copy_106 rfl (fun H locs hP hD hS => ?_)
                  refine lv_if_ne (tgt := 119) hx hb dX7_copy_109 (by decide) (fun hc46 => ?_) (fun hc46 => ?_)
                  · have hf := in_el hc46 hf
                    refine lv_aload_n hx hb dX7_copy_119 rfl (lv_at hl 0 rfl) ?_
                    refine va_get (D := D) (ci := 7) (v := .ref (sa 0)) (C := RX7) (T := TX7) (N := 8) hx hb hu inX7 hown hK.1 hP 0 rfl rfl 5 (by decide) (hu _ q305) (fun _ h9 => h9) rfl dX7_copy_120 ?_
                    refine lv_iload_n hx hb dX7_copy_123 rfl (lv_at hl 1 rfl) ?_
                    refine sa_lit (e := e0 0) hx hb hK hP 2 rfl (k := 0) (by rw [hc10]; decide) rfl dX7_copy_124 ?_
                    refine va_get (D := D) (ci := 5) (v := .ref (n0 0)) (C := RX5) (T := TX5) (N := 3) hx hb hu inX5 hown hK.1 hP 3 rfl rfl 2 (by decide) (hu _ q291) (fun _ h9 => h9) rfl dX7_copy_125 ?_
                    refine lv_iload_n hx hb dX7_copy_128 rfl (lv_at hl 2 rfl) ?_
                    refine lv_aload_n hx hb dX7_copy_129 rfl (lv_at hl 0 rfl) ?_
                    refine va_get (D := D) (ci := 7) (v := .ref (sa 0)) (C := RX7) (T := TX7) (N := 8) hx hb hu inX7 hown hK.1 hP 0 rfl rfl 5 (by decide) (hu _ q305) (fun _ h9 => h9) rfl dX7_copy_130 ?_
                    refine lv_iload_n hx hb dX7_copy_133 rfl (lv_at hl 3 rfl) ?_
                    refine sa_lit (e := e1 0) hx hb hK hP 2 rfl (k := 1) (by rw [hc36]; decide) rfl dX7_copy_134 ?_
                    refine va_get (D := D) (ci := 5) (v := .ref (n1 0)) (C := RX5) (T := TX5) (N := 3) hx hb hu inX5 hown hK.1 hP 5 rfl rfl 2 (by decide) (hu _ q291) (fun _ h9 => h9) rfl dX7_copy_135 ?_
                    refine lv_iload hx hb dX7_copy_138 (lv_at hl 4 rfl) ?_
                    refine lv_iload hx hb dX7_copy_140 (lv_at hl 5 rfl) ?_
                    obtain ⟨hq48, hf⟩ := cp_el hf
                    obtain ⟨N1_47, hN1_47, hf⟩ := lt_el hf
                    refine va_copyl hx hb (hml.trans hl.1.symm) hown (hu _ q874) (hu _ q431) (hu _ q430) (hu _ q63) hK.1 hP hD hS 4 6 1 1 rfl rfl rfl rfl rfl hq48.1 hq48.2.1 hq48.2.2.1 hq48.2.2.2.1 hq48.2.2.2.2 (fun _ _ => rfl) (Nat.le_of_ble_eq_true rfl) (Nat.le_of_ble_eq_true rfl) dX7_copy_142 (fun H locs hP hD hS => ?_)
                    have hP : va_P D vwCl ((kX7 cs x (.ref (g 0)) (.ref (g2 0)) (.ref (g3 0)) (.ref (h 0)) (.ref (t 0)) (.ref (sa 0)) Ma) ++ (kSA cs sa (e0 0) (e1 0) (e2 0) (e3 0)) ++ (kX5 cs e0 (.ref (n0 0)) G0) ++ (kJ40 cs n0 N0) ++ (kX5 cs e1 (.ref (n1 0)) G1) ++ (kJ40 cs n1 N1_47) ++ (kX5 cs e2 (.ref (n2 0)) G2) ++ (kJ40 cs n2 N2) ++ (kX5 cs e3 (.ref (n3 0)) G3) ++ (kJ40 cs n3 N3)) H := by rw [hN1_47]; exact hP
                    have hD : va_D A ((kX7 cs x (.ref (g 0)) (.ref (g2 0)) (.ref (g3 0)) (.ref (h 0)) (.ref (t 0)) (.ref (sa 0)) Ma) ++ (kSA cs sa (e0 0) (e1 0) (e2 0) (e3 0)) ++ (kX5 cs e0 (.ref (n0 0)) G0) ++ (kJ40 cs n0 N0) ++ (kX5 cs e1 (.ref (n1 0)) G1) ++ (kJ40 cs n1 N1_47) ++ (kX5 cs e2 (.ref (n2 0)) G2) ++ (kJ40 cs n2 N2) ++ (kX5 cs e3 (.ref (n3 0)) G3) ++ (kJ40 cs n3 N3)) := by rw [hN1_47]; exact hD
                    refine lv_iload hx hb dX7_copy_145 (lv_at hl 5 rfl) ?_
                    have he := Option.some.inj hf
                    obtain ⟨e0, ht0⟩ := Prod.mk.inj he
                    obtain ⟨e1, ht1⟩ := Prod.mk.inj ht0
                    obtain ⟨e2, ht2⟩ := Prod.mk.inj ht1
                    obtain ⟨e3, ht3⟩ := Prod.mk.inj ht2
                    obtain ⟨e4, e5⟩ := Prod.mk.inj ht3
                    exact hri _ _ _ rfl (congrArg (fun z => some (Value.int z)) e0.symm) dX7_copy_147 _ _ _ (by rw [e1, e2, e3, e4, e5]) hP hD hS
                  · have hf := ip_el hc46 hf
                    exact h112 Ma N0 N1 N2 N3 _ _ _ hP hD hS (lv_sub hl [0] rfl) hf
              · have hf := in_el hc40 hf
                refine lv_aload_n hx hb dX7_copy_74 rfl (lv_at hl 0 rfl) ?_
                refine lv_ldc (v := (-1000000003)) hx hb hown (hu _ q465) dX7_copy_75 ?_
                obtain ⟨r49, Ma_50, hg51, hf⟩ := b2_el hf
                refine cc_V (w' := ((kX7 cs x (.ref (g 0)) (.ref (g2 0)) (.ref (g3 0)) (.ref (h 0)) (.ref (t 0)) (.ref (sa 0)) Ma_50) ++ (kSA cs sa (e0 0) (e1 0) (e2 0) (e3 0)) ++ (kX5 cs e0 (.ref (n0 0)) G0) ++ (kJ40 cs n0 N0) ++ (kX5 cs e1 (.ref (n1 0)) G1) ++ (kJ40 cs n1 N1) ++ (kX5 cs e2 (.ref (n2 0)) G2) ++ (kJ40 cs n2 N2) ++ (kX5 cs e3 (.ref (n3 0)) G3) ++ (kJ40 cs n3 N3))) (wr := ((kSA cs sa (e0 0) (e1 0) (e2 0) (e3 0)) ++ (kX5 cs e0 (.ref (n0 0)) G0) ++ (kJ40 cs n0 N0) ++ (kX5 cs e1 (.ref (n1 0)) G1) ++ (kJ40 cs n1 N1) ++ (kX5 cs e2 (.ref (n2 0)) G2) ++ (kJ40 cs n2 N2) ++ (kX5 cs e3 (.ref (n3 0)) G3) ++ (kJ40 cs n3 N3))) (st1 := [.int r49]) [.int (-1000000003)] hx hb hml hown hu (tX7_finding l D cs x g g2 g3 h t sa (-1000000003) Ma r49 Ma_50 hg51) q339 q54 q336 q338 q0 pdX7_finding ⟨rfl, rfl, Nat.le_of_ble_eq_true rfl, Nat.le_of_ble_eq_true rfl⟩ hK hZ hP hD hS hA [0, 1] [2, 3, 4, 5, 6, 7, 8, 9, 10] [9, 10, 0, 1, 2, 3, 4, 5, 6, 7, 8] rfl rfl rfl rfl rfl rfl rfl rfl rfl rfl hl.1 rfl (Nat.le_of_ble_eq_true rfl) dX7_copy_77 rfl (fun H locs hP hD hS => ?_)
                have he := Option.some.inj hf
                obtain ⟨e0, ht0⟩ := Prod.mk.inj he
                obtain ⟨e1, ht1⟩ := Prod.mk.inj ht0
                obtain ⟨e2, ht2⟩ := Prod.mk.inj ht1
                obtain ⟨e3, ht3⟩ := Prod.mk.inj ht2
                obtain ⟨e4, e5⟩ := Prod.mk.inj ht3
                exact hri _ _ _ rfl (congrArg (fun z => some (Value.int z)) e0.symm) dX7_copy_80 _ _ _ (by rw [e1, e2, e3, e4, e5]) hP hD hS
            · have hf := in_el hc39 hf
              exact h45 Ma N0 N1 N2 N3 _ _ _ hP hD hS (lv_sub hl [0] rfl) hf
          have hf := in_el hc36 hf
          by_cases hc52 : x3 = 2
          · have hf := ip_el hc52 hf
            refine sa_lit (e := e2 0) hx hb hK hP 2 rfl (k := 2) (by rw [hc52]; decide) rfl dX7_copy_38 ?_
            obtain ⟨r53, hg54, hf⟩ := b1_el hf
            refine cc_V (w' := ((kX7 cs x (.ref (g 0)) (.ref (g2 0)) (.ref (g3 0)) (.ref (h 0)) (.ref (t 0)) (.ref (sa 0)) Ma) ++ (kSA cs sa (e0 0) (e1 0) (e2 0) (e3 0)) ++ (kX5 cs e0 (.ref (n0 0)) G0) ++ (kJ40 cs n0 N0) ++ (kX5 cs e1 (.ref (n1 0)) G1) ++ (kJ40 cs n1 N1) ++ (kX5 cs e2 (.ref (n2 0)) G2) ++ (kJ40 cs n2 N2) ++ (kX5 cs e3 (.ref (n3 0)) G3) ++ (kJ40 cs n3 N3))) (wr := ((kX7 cs x (.ref (g 0)) (.ref (g2 0)) (.ref (g3 0)) (.ref (h 0)) (.ref (t 0)) (.ref (sa 0)) Ma) ++ (kSA cs sa (e0 0) (e1 0) (e2 0) (e3 0)) ++ (kX5 cs e0 (.ref (n0 0)) G0) ++ (kJ40 cs n0 N0) ++ (kX5 cs e1 (.ref (n1 0)) G1) ++ (kJ40 cs n1 N1) ++ (kJ40 cs n2 N2) ++ (kX5 cs e3 (.ref (n3 0)) G3) ++ (kJ40 cs n3 N3))) (st1 := [.int r53]) [] hx hb hml hown hu (tX5_isMissing l D cs e2 n2 G2 r53 hg54) q860 q61 q857 q858 q859 pdX5_isMissing ⟨rfl, rfl, Nat.le_of_ble_eq_true rfl, Nat.le_of_ble_eq_true rfl⟩ hK hZ hP hD hS hA [7] [0, 1, 2, 3, 4, 5, 6, 8, 9, 10] [0, 1, 2, 3, 4, 5, 6, 10, 7, 8, 9] rfl rfl rfl rfl rfl rfl rfl rfl rfl rfl hl.1 rfl (Nat.le_of_ble_eq_true rfl) dX7_copy_39 rfl (fun H locs hP hD hS => ?_)
            refine lv_if_eq (tgt := 53) hx hb dX7_copy_42 (by decide) (fun hc55 => ?_) (fun hc55 => ?_)
            · have hf := ip_el hc55 hf
              refine lv_aload_n hx hb dX7_copy_53 rfl (lv_at hl 0 rfl) ?_
              refine va_get (D := D) (ci := 7) (v := .ref (sa 0)) (C := RX7) (T := TX7) (N := 8) hx hb hu inX7 hown hK.1 hP 0 rfl rfl 5 (by decide) (hu _ q305) (fun _ h9 => h9) rfl dX7_copy_54 ?_
              refine lv_iload_n hx hb dX7_copy_57 rfl (lv_at hl 1 rfl) ?_
              refine sa_lit (e := e0 0) hx hb hK hP 2 rfl (k := 0) (by rw [hc10]; decide) rfl dX7_copy_58 ?_
              refine va_get (D := D) (ci := 5) (v := .int (G0 0 0)) (C := RX5) (T := TX5) (N := 3) hx hb hu inX5 hown hK.1 hP 3 rfl rfl 0 (by decide) (hu _ q287) (fun _ h9 => h9) rfl dX7_copy_59 ?_
              refine lv_aload_n hx hb dX7_copy_62 rfl (lv_at hl 0 rfl) ?_
              refine va_get (D := D) (ci := 7) (v := .ref (sa 0)) (C := RX7) (T := TX7) (N := 8) hx hb hu inX7 hown hK.1 hP 0 rfl rfl 5 (by decide) (hu _ q305) (fun _ h9 => h9) rfl dX7_copy_63 ?_
              refine lv_iload_n hx hb dX7_copy_66 rfl (lv_at hl 3 rfl) ?_
              refine sa_lit (e := e2 0) hx hb hK hP 2 rfl (k := 2) (by rw [hc52]; decide) rfl dX7_copy_67 ?_
              refine va_get (D := D) (ci := 5) (v := .int (G2 0 0)) (C := RX5) (T := TX5) (N := 3) hx hb hu inX5 hown hK.1 hP 7 rfl rfl 0 (by decide) (hu _ q287) (fun _ h9 => h9) rfl dX7_copy_68 ?_
              refine lv_icmp_eq (tgt := 81) hx hb dX7_copy_71 (by decide) (fun hc56 => ?_) (fun hc56 => ?_)
              · have hf := ip_el hc56 hf
                refine lv_aload_n hx hb dX7_copy_81 rfl (lv_at hl 0 rfl) ?_
                refine va_get (D := D) (ci := 7) (v := .ref (sa 0)) (C := RX7) (T := TX7) (N := 8) hx hb hu inX7 hown hK.1 hP 0 rfl rfl 5 (by decide) (hu _ q305) (fun _ h9 => h9) rfl dX7_copy_82 ?_
                refine lv_iload_n hx hb dX7_copy_85 rfl (lv_at hl 1 rfl) ?_
                refine sa_lit (e := e0 0) hx hb hK hP 2 rfl (k := 0) (by rw [hc10]; decide) rfl dX7_copy_86 ?_
                refine lv_iload_n hx hb dX7_copy_87 rfl (lv_at hl 2 rfl) ?_
                refine lv_iload hx hb dX7_copy_88 (lv_at hl 5 rfl) ?_
                obtain ⟨r57, hg58, hf⟩ := b1_el hf
                refine cc_V (w' := ((kX7 cs x (.ref (g 0)) (.ref (g2 0)) (.ref (g3 0)) (.ref (h 0)) (.ref (t 0)) (.ref (sa 0)) Ma) ++ (kSA cs sa (e0 0) (e1 0) (e2 0) (e3 0)) ++ (kX5 cs e0 (.ref (n0 0)) G0) ++ (kJ40 cs n0 N0) ++ (kX5 cs e1 (.ref (n1 0)) G1) ++ (kJ40 cs n1 N1) ++ (kX5 cs e2 (.ref (n2 0)) G2) ++ (kJ40 cs n2 N2) ++ (kX5 cs e3 (.ref (n3 0)) G3) ++ (kJ40 cs n3 N3))) (wr := ((kX7 cs x (.ref (g 0)) (.ref (g2 0)) (.ref (g3 0)) (.ref (h 0)) (.ref (t 0)) (.ref (sa 0)) Ma) ++ (kSA cs sa (e0 0) (e1 0) (e2 0) (e3 0)) ++ (kJ40 cs n0 N0) ++ (kX5 cs e1 (.ref (n1 0)) G1) ++ (kJ40 cs n1 N1) ++ (kX5 cs e2 (.ref (n2 0)) G2) ++ (kJ40 cs n2 N2) ++ (kX5 cs e3 (.ref (n3 0)) G3) ++ (kJ40 cs n3 N3))) (st1 := [.int r57]) [.int x2, .int x5] hx hb hml hown hu (tX5_holds l D cs e0 n0 x2 x5 G0 r57 hg58) q873 q61 q870 q871 q872 pdX5_holds ⟨rfl, rfl, Nat.le_of_ble_eq_true rfl, Nat.le_of_ble_eq_true rfl⟩ hK hZ hP hD hS hA [3] [0, 1, 2, 4, 5, 6, 7, 8, 9, 10] [0, 1, 2, 10, 3, 4, 5, 6, 7, 8, 9] rfl rfl rfl rfl rfl rfl rfl rfl rfl rfl hl.1 rfl (Nat.le_of_ble_eq_true rfl) dX7_copy_90 rfl (fun H locs hP hD hS => ?_)
                refine lv_if_eq (tgt := 112) hx hb dX7_copy_93 (by decide) (fun hc59 => ?_) (fun hc59 => ?_)
                · have hf := ip_el hc59 hf
                  exact h112 Ma N0 N1 N2 N3 _ _ _ hP hD hS (lv_sub hl [0] rfl) hf
                · have hf := in_el hc59 hf
                  refine lv_aload_n hx hb dX7_copy_96 rfl (lv_at hl 0 rfl) ?_
                  refine va_get (D := D) (ci := 7) (v := .ref (sa 0)) (C := RX7) (T := TX7) (N := 8) hx hb hu inX7 hown hK.1 hP 0 rfl rfl 5 (by decide) (hu _ q305) (fun _ h9 => h9) rfl dX7_copy_97 ?_
                  refine lv_iload_n hx hb dX7_copy_100 rfl (lv_at hl 3 rfl) ?_
                  refine sa_lit (e := e2 0) hx hb hK hP 2 rfl (k := 2) (by rw [hc52]; decide) rfl dX7_copy_101 ?_
                  refine lv_iload hx hb dX7_copy_102 (lv_at hl 4 rfl) ?_
                  refine lv_iload hx hb dX7_copy_104 (lv_at hl 5 rfl) ?_
                  obtain ⟨r60, hg61, hf⟩ := b1_el hf
                  refine cc_V (w' := ((kX7 cs x (.ref (g 0)) (.ref (g2 0)) (.ref (g3 0)) (.ref (h 0)) (.ref (t 0)) (.ref (sa 0)) Ma) ++ (kSA cs sa (e0 0) (e1 0) (e2 0) (e3 0)) ++ (kX5 cs e0 (.ref (n0 0)) G0) ++ (kJ40 cs n0 N0) ++ (kX5 cs e1 (.ref (n1 0)) G1) ++ (kJ40 cs n1 N1) ++ (kX5 cs e2 (.ref (n2 0)) G2) ++ (kJ40 cs n2 N2) ++ (kX5 cs e3 (.ref (n3 0)) G3) ++ (kJ40 cs n3 N3))) (wr := ((kX7 cs x (.ref (g 0)) (.ref (g2 0)) (.ref (g3 0)) (.ref (h 0)) (.ref (t 0)) (.ref (sa 0)) Ma) ++ (kSA cs sa (e0 0) (e1 0) (e2 0) (e3 0)) ++ (kX5 cs e0 (.ref (n0 0)) G0) ++ (kJ40 cs n0 N0) ++ (kX5 cs e1 (.ref (n1 0)) G1) ++ (kJ40 cs n1 N1) ++ (kJ40 cs n2 N2) ++ (kX5 cs e3 (.ref (n3 0)) G3) ++ (kJ40 cs n3 N3))) (st1 := [.int r60]) [.int x4, .int x5] hx hb hml hown hu (tX5_holds l D cs e2 n2 x4 x5 G2 r60 hg61) q873 q61 q870 q871 q872 pdX5_holds ⟨rfl, rfl, Nat.le_of_ble_eq_true rfl, Nat.le_of_ble_eq_true rfl⟩ hK hZ hP hD hS hA [7] [0, 1, 2, 3, 4, 5, 6, 8, 9, 10] [0, 1, 2, 3, 4, 5, 6, 10, 7, 8, 9] rfl rfl rfl rfl rfl rfl rfl rfl rfl rfl hl.1 rfl (Nat.le_of_ble_eq_true rfl) dX7_copy_106 rfl (fun H locs hP hD hS => ?_)
                  refine lv_if_ne (tgt := 119) hx hb dX7_copy_109 (by decide) (fun hc62 => ?_) (fun hc62 => ?_)
                  · have hf := in_el hc62 hf
                    refine lv_aload_n hx hb dX7_copy_119 rfl (lv_at hl 0 rfl) ?_
                    refine va_get (D := D) (ci := 7) (v := .ref (sa 0)) (C := RX7) (T := TX7) (N := 8) hx hb hu inX7 hown hK.1 hP 0 rfl rfl 5 (by decide) (hu _ q305) (fun _ h9 => h9) rfl dX7_copy_120 ?_
                    refine lv_iload_n hx hb dX7_copy_123 rfl (lv_at hl 1 rfl) ?_
                    refine sa_lit (e := e0 0) hx hb hK hP 2 rfl (k := 0) (by rw [hc10]; decide) rfl dX7_copy_124 ?_
                    refine va_get (D := D) (ci := 5) (v := .ref (n0 0)) (C := RX5) (T := TX5) (N := 3) hx hb hu inX5 hown hK.1 hP 3 rfl rfl 2 (by decide) (hu _ q291) (fun _ h9 => h9) rfl dX7_copy_125 ?_
                    refine lv_iload_n hx hb dX7_copy_128 rfl (lv_at hl 2 rfl) ?_
                    refine lv_aload_n hx hb dX7_copy_129 rfl (lv_at hl 0 rfl) ?_
                    refine va_get (D := D) (ci := 7) (v := .ref (sa 0)) (C := RX7) (T := TX7) (N := 8) hx hb hu inX7 hown hK.1 hP 0 rfl rfl 5 (by decide) (hu _ q305) (fun _ h9 => h9) rfl dX7_copy_130 ?_
                    refine lv_iload_n hx hb dX7_copy_133 rfl (lv_at hl 3 rfl) ?_
                    refine sa_lit (e := e2 0) hx hb hK hP 2 rfl (k := 2) (by rw [hc52]; decide) rfl dX7_copy_134 ?_
                    refine va_get (D := D) (ci := 5) (v := .ref (n2 0)) (C := RX5) (T := TX5) (N := 3) hx hb hu inX5 hown hK.1 hP 7 rfl rfl 2 (by decide) (hu _ q291) (fun _ h9 => h9) rfl dX7_copy_135 ?_
                    refine lv_iload hx hb dX7_copy_138 (lv_at hl 4 rfl) ?_
                    refine lv_iload hx hb dX7_copy_140 (lv_at hl 5 rfl) ?_
                    obtain ⟨hq64, hf⟩ := cp_el hf
                    obtain ⟨N2_63, hN2_63, hf⟩ := lt_el hf
                    refine va_copyl hx hb (hml.trans hl.1.symm) hown (hu _ q874) (hu _ q431) (hu _ q430) (hu _ q63) hK.1 hP hD hS 4 8 1 1 rfl rfl rfl rfl rfl hq64.1 hq64.2.1 hq64.2.2.1 hq64.2.2.2.1 hq64.2.2.2.2 (fun _ _ => rfl) (Nat.le_of_ble_eq_true rfl) (Nat.le_of_ble_eq_true rfl) dX7_copy_142 (fun H locs hP hD hS => ?_)
                    have hP : va_P D vwCl ((kX7 cs x (.ref (g 0)) (.ref (g2 0)) (.ref (g3 0)) (.ref (h 0)) (.ref (t 0)) (.ref (sa 0)) Ma) ++ (kSA cs sa (e0 0) (e1 0) (e2 0) (e3 0)) ++ (kX5 cs e0 (.ref (n0 0)) G0) ++ (kJ40 cs n0 N0) ++ (kX5 cs e1 (.ref (n1 0)) G1) ++ (kJ40 cs n1 N1) ++ (kX5 cs e2 (.ref (n2 0)) G2) ++ (kJ40 cs n2 N2_63) ++ (kX5 cs e3 (.ref (n3 0)) G3) ++ (kJ40 cs n3 N3)) H := by rw [hN2_63]; exact hP
                    have hD : va_D A ((kX7 cs x (.ref (g 0)) (.ref (g2 0)) (.ref (g3 0)) (.ref (h 0)) (.ref (t 0)) (.ref (sa 0)) Ma) ++ (kSA cs sa (e0 0) (e1 0) (e2 0) (e3 0)) ++ (kX5 cs e0 (.ref (n0 0)) G0) ++ (kJ40 cs n0 N0) ++ (kX5 cs e1 (.ref (n1 0)) G1) ++ (kJ40 cs n1 N1) ++ (kX5 cs e2 (.ref (n2 0)) G2) ++ (kJ40 cs n2 N2_63) ++ (kX5 cs e3 (.ref (n3 0)) G3) ++ (kJ40 cs n3 N3)) := by rw [hN2_63]; exact hD
                    refine lv_iload hx hb dX7_copy_145 (lv_at hl 5 rfl) ?_
                    have he := Option.some.inj hf
                    obtain ⟨e0, ht0⟩ := Prod.mk.inj he
                    obtain ⟨e1, ht1⟩ := Prod.mk.inj ht0
                    obtain ⟨e2, ht2⟩ := Prod.mk.inj ht1
                    obtain ⟨e3, ht3⟩ := Prod.mk.inj ht2
                    obtain ⟨e4, e5⟩ := Prod.mk.inj ht3
                    exact hri _ _ _ rfl (congrArg (fun z => some (Value.int z)) e0.symm) dX7_copy_147 _ _ _ (by rw [e1, e2, e3, e4, e5]) hP hD hS
                  · have hf := ip_el hc62 hf
                    exact h112 Ma N0 N1 N2 N3 _ _ _ hP hD hS (lv_sub hl [0] rfl) hf
              · have hf := in_el hc56 hf
                refine lv_aload_n hx hb dX7_copy_74 rfl (lv_at hl 0 rfl) ?_
                refine lv_ldc (v := (-1000000003)) hx hb hown (hu _ q465) dX7_copy_75 ?_
                obtain ⟨r65, Ma_66, hg67, hf⟩ := b2_el hf
                refine cc_V (w' := ((kX7 cs x (.ref (g 0)) (.ref (g2 0)) (.ref (g3 0)) (.ref (h 0)) (.ref (t 0)) (.ref (sa 0)) Ma_66) ++ (kSA cs sa (e0 0) (e1 0) (e2 0) (e3 0)) ++ (kX5 cs e0 (.ref (n0 0)) G0) ++ (kJ40 cs n0 N0) ++ (kX5 cs e1 (.ref (n1 0)) G1) ++ (kJ40 cs n1 N1) ++ (kX5 cs e2 (.ref (n2 0)) G2) ++ (kJ40 cs n2 N2) ++ (kX5 cs e3 (.ref (n3 0)) G3) ++ (kJ40 cs n3 N3))) (wr := ((kSA cs sa (e0 0) (e1 0) (e2 0) (e3 0)) ++ (kX5 cs e0 (.ref (n0 0)) G0) ++ (kJ40 cs n0 N0) ++ (kX5 cs e1 (.ref (n1 0)) G1) ++ (kJ40 cs n1 N1) ++ (kX5 cs e2 (.ref (n2 0)) G2) ++ (kJ40 cs n2 N2) ++ (kX5 cs e3 (.ref (n3 0)) G3) ++ (kJ40 cs n3 N3))) (st1 := [.int r65]) [.int (-1000000003)] hx hb hml hown hu (tX7_finding l D cs x g g2 g3 h t sa (-1000000003) Ma r65 Ma_66 hg67) q339 q54 q336 q338 q0 pdX7_finding ⟨rfl, rfl, Nat.le_of_ble_eq_true rfl, Nat.le_of_ble_eq_true rfl⟩ hK hZ hP hD hS hA [0, 1] [2, 3, 4, 5, 6, 7, 8, 9, 10] [9, 10, 0, 1, 2, 3, 4, 5, 6, 7, 8] rfl rfl rfl rfl rfl rfl rfl rfl rfl rfl hl.1 rfl (Nat.le_of_ble_eq_true rfl) dX7_copy_77 rfl (fun H locs hP hD hS => ?_)
                have he := Option.some.inj hf
                obtain ⟨e0, ht0⟩ := Prod.mk.inj he
                obtain ⟨e1, ht1⟩ := Prod.mk.inj ht0
                obtain ⟨e2, ht2⟩ := Prod.mk.inj ht1
                obtain ⟨e3, ht3⟩ := Prod.mk.inj ht2
                obtain ⟨e4, e5⟩ := Prod.mk.inj ht3
                exact hri _ _ _ rfl (congrArg (fun z => some (Value.int z)) e0.symm) dX7_copy_80 _ _ _ (by rw [e1, e2, e3, e4, e5]) hP hD hS
            · have hf := in_el hc55 hf
              exact h45 Ma N0 N1 N2 N3 _ _ _ hP hD hS (lv_sub hl [0] rfl) hf
          have hf := in_el hc52 hf
          by_cases hc68 : x3 = 3
          · have hf := ip_el hc68 hf
            refine sa_lit (e := e3 0) hx hb hK hP 2 rfl (k := 3) (by rw [hc68]; decide) rfl dX7_copy_38 ?_
            obtain ⟨r69, hg70, hf⟩ := b1_el hf
            refine cc_V (w' := ((kX7 cs x (.ref (g 0)) (.ref (g2 0)) (.ref (g3 0)) (.ref (h 0)) (.ref (t 0)) (.ref (sa 0)) Ma) ++ (kSA cs sa (e0 0) (e1 0) (e2 0) (e3 0)) ++ (kX5 cs e0 (.ref (n0 0)) G0) ++ (kJ40 cs n0 N0) ++ (kX5 cs e1 (.ref (n1 0)) G1) ++ (kJ40 cs n1 N1) ++ (kX5 cs e2 (.ref (n2 0)) G2) ++ (kJ40 cs n2 N2) ++ (kX5 cs e3 (.ref (n3 0)) G3) ++ (kJ40 cs n3 N3))) (wr := ((kX7 cs x (.ref (g 0)) (.ref (g2 0)) (.ref (g3 0)) (.ref (h 0)) (.ref (t 0)) (.ref (sa 0)) Ma) ++ (kSA cs sa (e0 0) (e1 0) (e2 0) (e3 0)) ++ (kX5 cs e0 (.ref (n0 0)) G0) ++ (kJ40 cs n0 N0) ++ (kX5 cs e1 (.ref (n1 0)) G1) ++ (kJ40 cs n1 N1) ++ (kX5 cs e2 (.ref (n2 0)) G2) ++ (kJ40 cs n2 N2) ++ (kJ40 cs n3 N3))) (st1 := [.int r69]) [] hx hb hml hown hu (tX5_isMissing l D cs e3 n3 G3 r69 hg70) q860 q61 q857 q858 q859 pdX5_isMissing ⟨rfl, rfl, Nat.le_of_ble_eq_true rfl, Nat.le_of_ble_eq_true rfl⟩ hK hZ hP hD hS hA [9] [0, 1, 2, 3, 4, 5, 6, 7, 8, 10] [0, 1, 2, 3, 4, 5, 6, 7, 8, 10, 9] rfl rfl rfl rfl rfl rfl rfl rfl rfl rfl hl.1 rfl (Nat.le_of_ble_eq_true rfl) dX7_copy_39 rfl (fun H locs hP hD hS => ?_)
            refine lv_if_eq (tgt := 53) hx hb dX7_copy_42 (by decide) (fun hc71 => ?_) (fun hc71 => ?_)
            · have hf := ip_el hc71 hf
              refine lv_aload_n hx hb dX7_copy_53 rfl (lv_at hl 0 rfl) ?_
              refine va_get (D := D) (ci := 7) (v := .ref (sa 0)) (C := RX7) (T := TX7) (N := 8) hx hb hu inX7 hown hK.1 hP 0 rfl rfl 5 (by decide) (hu _ q305) (fun _ h9 => h9) rfl dX7_copy_54 ?_
              refine lv_iload_n hx hb dX7_copy_57 rfl (lv_at hl 1 rfl) ?_
              refine sa_lit (e := e0 0) hx hb hK hP 2 rfl (k := 0) (by rw [hc10]; decide) rfl dX7_copy_58 ?_
              refine va_get (D := D) (ci := 5) (v := .int (G0 0 0)) (C := RX5) (T := TX5) (N := 3) hx hb hu inX5 hown hK.1 hP 3 rfl rfl 0 (by decide) (hu _ q287) (fun _ h9 => h9) rfl dX7_copy_59 ?_
              refine lv_aload_n hx hb dX7_copy_62 rfl (lv_at hl 0 rfl) ?_
              refine va_get (D := D) (ci := 7) (v := .ref (sa 0)) (C := RX7) (T := TX7) (N := 8) hx hb hu inX7 hown hK.1 hP 0 rfl rfl 5 (by decide) (hu _ q305) (fun _ h9 => h9) rfl dX7_copy_63 ?_
              refine lv_iload_n hx hb dX7_copy_66 rfl (lv_at hl 3 rfl) ?_
              refine sa_lit (e := e3 0) hx hb hK hP 2 rfl (k := 3) (by rw [hc68]; decide) rfl dX7_copy_67 ?_
              refine va_get (D := D) (ci := 5) (v := .int (G3 0 0)) (C := RX5) (T := TX5) (N := 3) hx hb hu inX5 hown hK.1 hP 9 rfl rfl 0 (by decide) (hu _ q287) (fun _ h9 => h9) rfl dX7_copy_68 ?_
              refine lv_icmp_eq (tgt := 81) hx hb dX7_copy_71 (by decide) (fun hc72 => ?_) (fun hc72 => ?_)
              · have hf := ip_el hc72 hf
                refine lv_aload_n hx hb dX7_copy_81 rfl (lv_at hl 0 rfl) ?_
                refine va_get (D := D) (ci := 7) (v := .ref (sa 0)) (C := RX7) (T := TX7) (N := 8) hx hb hu inX7 hown hK.1 hP 0 rfl rfl 5 (by decide) (hu _ q305) (fun _ h9 => h9) rfl dX7_copy_82 ?_
                refine lv_iload_n hx hb dX7_copy_85 rfl (lv_at hl 1 rfl) ?_
                refine sa_lit (e := e0 0) hx hb hK hP 2 rfl (k := 0) (by rw [hc10]; decide) rfl dX7_copy_86 ?_
                refine lv_iload_n hx hb dX7_copy_87 rfl (lv_at hl 2 rfl) ?_
                refine lv_iload hx hb dX7_copy_88 (lv_at hl 5 rfl) ?_
                obtain ⟨r73, hg74, hf⟩ := b1_el hf
                refine cc_V (w' := ((kX7 cs x (.ref (g 0)) (.ref (g2 0)) (.ref (g3 0)) (.ref (h 0)) (.ref (t 0)) (.ref (sa 0)) Ma) ++ (kSA cs sa (e0 0) (e1 0) (e2 0) (e3 0)) ++ (kX5 cs e0 (.ref (n0 0)) G0) ++ (kJ40 cs n0 N0) ++ (kX5 cs e1 (.ref (n1 0)) G1) ++ (kJ40 cs n1 N1) ++ (kX5 cs e2 (.ref (n2 0)) G2) ++ (kJ40 cs n2 N2) ++ (kX5 cs e3 (.ref (n3 0)) G3) ++ (kJ40 cs n3 N3))) (wr := ((kX7 cs x (.ref (g 0)) (.ref (g2 0)) (.ref (g3 0)) (.ref (h 0)) (.ref (t 0)) (.ref (sa 0)) Ma) ++ (kSA cs sa (e0 0) (e1 0) (e2 0) (e3 0)) ++ (kJ40 cs n0 N0) ++ (kX5 cs e1 (.ref (n1 0)) G1) ++ (kJ40 cs n1 N1) ++ (kX5 cs e2 (.ref (n2 0)) G2) ++ (kJ40 cs n2 N2) ++ (kX5 cs e3 (.ref (n3 0)) G3) ++ (kJ40 cs n3 N3))) (st1 := [.int r73]) [.int x2, .int x5] hx hb hml hown hu (tX5_holds l D cs e0 n0 x2 x5 G0 r73 hg74) q873 q61 q870 q871 q872 pdX5_holds ⟨rfl, rfl, Nat.le_of_ble_eq_true rfl, Nat.le_of_ble_eq_true rfl⟩ hK hZ hP hD hS hA [3] [0, 1, 2, 4, 5, 6, 7, 8, 9, 10] [0, 1, 2, 10, 3, 4, 5, 6, 7, 8, 9] rfl rfl rfl rfl rfl rfl rfl rfl rfl rfl hl.1 rfl (Nat.le_of_ble_eq_true rfl) dX7_copy_90 rfl (fun H locs hP hD hS => ?_)
                refine lv_if_eq (tgt := 112) hx hb dX7_copy_93 (by decide) (fun hc75 => ?_) (fun hc75 => ?_)
                · have hf := ip_el hc75 hf
                  exact h112 Ma N0 N1 N2 N3 _ _ _ hP hD hS (lv_sub hl [0] rfl) hf
                · have hf := in_el hc75 hf
                  refine lv_aload_n hx hb dX7_copy_96 rfl (lv_at hl 0 rfl) ?_
                  refine va_get (D := D) (ci := 7) (v := .ref (sa 0)) (C := RX7) (T := TX7) (N := 8) hx hb hu inX7 hown hK.1 hP 0 rfl rfl 5 (by decide) (hu _ q305) (fun _ h9 => h9) rfl dX7_copy_97 ?_
                  refine lv_iload_n hx hb dX7_copy_100 rfl (lv_at hl 3 rfl) ?_
                  refine sa_lit (e := e3 0) hx hb hK hP 2 rfl (k := 3) (by rw [hc68]; decide) rfl dX7_copy_101 ?_
                  refine lv_iload hx hb dX7_copy_102 (lv_at hl 4 rfl) ?_
                  refine lv_iload hx hb dX7_copy_104 (lv_at hl 5 rfl) ?_
                  obtain ⟨r76, hg77, hf⟩ := b1_el hf
                  refine cc_V (w' := ((kX7 cs x (.ref (g 0)) (.ref (g2 0)) (.ref (g3 0)) (.ref (h 0)) (.ref (t 0)) (.ref (sa 0)) Ma) ++ (kSA cs sa (e0 0) (e1 0) (e2 0) (e3 0)) ++ (kX5 cs e0 (.ref (n0 0)) G0) ++ (kJ40 cs n0 N0) ++ (kX5 cs e1 (.ref (n1 0)) G1) ++ (kJ40 cs n1 N1) ++ (kX5 cs e2 (.ref (n2 0)) G2) ++ (kJ40 cs n2 N2) ++ (kX5 cs e3 (.ref (n3 0)) G3) ++ (kJ40 cs n3 N3))) (wr := ((kX7 cs x (.ref (g 0)) (.ref (g2 0)) (.ref (g3 0)) (.ref (h 0)) (.ref (t 0)) (.ref (sa 0)) Ma) ++ (kSA cs sa (e0 0) (e1 0) (e2 0) (e3 0)) ++ (kX5 cs e0 (.ref (n0 0)) G0) ++ (kJ40 cs n0 N0) ++ (kX5 cs e1 (.ref (n1 0)) G1) ++ (kJ40 cs n1 N1) ++ (kX5 cs e2 (.ref (n2 0)) G2) ++ (kJ40 cs n2 N2) ++ (kJ40 cs n3 N3))) (st1 := [.int r76]) [.int x4, .int x5] hx hb hml hown hu (tX5_holds l D cs e3 n3 x4 x5 G3 r76 hg77) q873 q61 q870 q871 q872 pdX5_holds ⟨rfl, rfl, Nat.le_of_ble_eq_true rfl, Nat.le_of_ble_eq_true rfl⟩ hK hZ hP hD hS hA [9] [0, 1, 2, 3, 4, 5, 6, 7, 8, 10] [0, 1, 2, 3, 4, 5, 6, 7, 8, 10, 9] rfl rfl rfl rfl rfl rfl rfl rfl rfl rfl hl.1 rfl (Nat.le_of_ble_eq_true rfl) dX7_copy_106 rfl (fun H locs hP hD hS => ?_)
                  refine lv_if_ne (tgt := 119) hx hb dX7_copy_109 (by decide) (fun hc78 => ?_) (fun hc78 => ?_)
                  · have hf := in_el hc78 hf
                    refine lv_aload_n hx hb dX7_copy_119 rfl (lv_at hl 0 rfl) ?_
                    refine va_get (D := D) (ci := 7) (v := .ref (sa 0)) (C := RX7) (T := TX7) (N := 8) hx hb hu inX7 hown hK.1 hP 0 rfl rfl 5 (by decide) (hu _ q305) (fun _ h9 => h9) rfl dX7_copy_120 ?_
                    refine lv_iload_n hx hb dX7_copy_123 rfl (lv_at hl 1 rfl) ?_
                    refine sa_lit (e := e0 0) hx hb hK hP 2 rfl (k := 0) (by rw [hc10]; decide) rfl dX7_copy_124 ?_
                    refine va_get (D := D) (ci := 5) (v := .ref (n0 0)) (C := RX5) (T := TX5) (N := 3) hx hb hu inX5 hown hK.1 hP 3 rfl rfl 2 (by decide) (hu _ q291) (fun _ h9 => h9) rfl dX7_copy_125 ?_
                    refine lv_iload_n hx hb dX7_copy_128 rfl (lv_at hl 2 rfl) ?_
                    refine lv_aload_n hx hb dX7_copy_129 rfl (lv_at hl 0 rfl) ?_
                    refine va_get (D := D) (ci := 7) (v := .ref (sa 0)) (C := RX7) (T := TX7) (N := 8) hx hb hu inX7 hown hK.1 hP 0 rfl rfl 5 (by decide) (hu _ q305) (fun _ h9 => h9) rfl dX7_copy_130 ?_
                    refine lv_iload_n hx hb dX7_copy_133 rfl (lv_at hl 3 rfl) ?_
                    refine sa_lit (e := e3 0) hx hb hK hP 2 rfl (k := 3) (by rw [hc68]; decide) rfl dX7_copy_134 ?_
                    refine va_get (D := D) (ci := 5) (v := .ref (n3 0)) (C := RX5) (T := TX5) (N := 3) hx hb hu inX5 hown hK.1 hP 9 rfl rfl 2 (by decide) (hu _ q291) (fun _ h9 => h9) rfl dX7_copy_135 ?_
                    refine lv_iload hx hb dX7_copy_138 (lv_at hl 4 rfl) ?_
                    refine lv_iload hx hb dX7_copy_140 (lv_at hl 5 rfl) ?_
                    obtain ⟨hq80, hf⟩ := cp_el hf
                    obtain ⟨N3_79, hN3_79, hf⟩ := lt_el hf
                    refine va_copyl hx hb (hml.trans hl.1.symm) hown (hu _ q874) (hu _ q431) (hu _ q430) (hu _ q63) hK.1 hP hD hS 4 10 1 1 rfl rfl rfl rfl rfl hq80.1 hq80.2.1 hq80.2.2.1 hq80.2.2.2.1 hq80.2.2.2.2 (fun _ _ => rfl) (Nat.le_of_ble_eq_true rfl) (Nat.le_of_ble_eq_true rfl) dX7_copy_142 (fun H locs hP hD hS => ?_)
                    have hP : va_P D vwCl ((kX7 cs x (.ref (g 0)) (.ref (g2 0)) (.ref (g3 0)) (.ref (h 0)) (.ref (t 0)) (.ref (sa 0)) Ma) ++ (kSA cs sa (e0 0) (e1 0) (e2 0) (e3 0)) ++ (kX5 cs e0 (.ref (n0 0)) G0) ++ (kJ40 cs n0 N0) ++ (kX5 cs e1 (.ref (n1 0)) G1) ++ (kJ40 cs n1 N1) ++ (kX5 cs e2 (.ref (n2 0)) G2) ++ (kJ40 cs n2 N2) ++ (kX5 cs e3 (.ref (n3 0)) G3) ++ (kJ40 cs n3 N3_79)) H := by rw [hN3_79]; exact hP
                    have hD : va_D A ((kX7 cs x (.ref (g 0)) (.ref (g2 0)) (.ref (g3 0)) (.ref (h 0)) (.ref (t 0)) (.ref (sa 0)) Ma) ++ (kSA cs sa (e0 0) (e1 0) (e2 0) (e3 0)) ++ (kX5 cs e0 (.ref (n0 0)) G0) ++ (kJ40 cs n0 N0) ++ (kX5 cs e1 (.ref (n1 0)) G1) ++ (kJ40 cs n1 N1) ++ (kX5 cs e2 (.ref (n2 0)) G2) ++ (kJ40 cs n2 N2) ++ (kX5 cs e3 (.ref (n3 0)) G3) ++ (kJ40 cs n3 N3_79)) := by rw [hN3_79]; exact hD
                    refine lv_iload hx hb dX7_copy_145 (lv_at hl 5 rfl) ?_
                    have he := Option.some.inj hf
                    obtain ⟨e0, ht0⟩ := Prod.mk.inj he
                    obtain ⟨e1, ht1⟩ := Prod.mk.inj ht0
                    obtain ⟨e2, ht2⟩ := Prod.mk.inj ht1
                    obtain ⟨e3, ht3⟩ := Prod.mk.inj ht2
                    obtain ⟨e4, e5⟩ := Prod.mk.inj ht3
                    exact hri _ _ _ rfl (congrArg (fun z => some (Value.int z)) e0.symm) dX7_copy_147 _ _ _ (by rw [e1, e2, e3, e4, e5]) hP hD hS
                  · have hf := ip_el hc78 hf
                    exact h112 Ma N0 N1 N2 N3 _ _ _ hP hD hS (lv_sub hl [0] rfl) hf
              · have hf := in_el hc72 hf
                refine lv_aload_n hx hb dX7_copy_74 rfl (lv_at hl 0 rfl) ?_
                refine lv_ldc (v := (-1000000003)) hx hb hown (hu _ q465) dX7_copy_75 ?_
                obtain ⟨r81, Ma_82, hg83, hf⟩ := b2_el hf
                refine cc_V (w' := ((kX7 cs x (.ref (g 0)) (.ref (g2 0)) (.ref (g3 0)) (.ref (h 0)) (.ref (t 0)) (.ref (sa 0)) Ma_82) ++ (kSA cs sa (e0 0) (e1 0) (e2 0) (e3 0)) ++ (kX5 cs e0 (.ref (n0 0)) G0) ++ (kJ40 cs n0 N0) ++ (kX5 cs e1 (.ref (n1 0)) G1) ++ (kJ40 cs n1 N1) ++ (kX5 cs e2 (.ref (n2 0)) G2) ++ (kJ40 cs n2 N2) ++ (kX5 cs e3 (.ref (n3 0)) G3) ++ (kJ40 cs n3 N3))) (wr := ((kSA cs sa (e0 0) (e1 0) (e2 0) (e3 0)) ++ (kX5 cs e0 (.ref (n0 0)) G0) ++ (kJ40 cs n0 N0) ++ (kX5 cs e1 (.ref (n1 0)) G1) ++ (kJ40 cs n1 N1) ++ (kX5 cs e2 (.ref (n2 0)) G2) ++ (kJ40 cs n2 N2) ++ (kX5 cs e3 (.ref (n3 0)) G3) ++ (kJ40 cs n3 N3))) (st1 := [.int r81]) [.int (-1000000003)] hx hb hml hown hu (tX7_finding l D cs x g g2 g3 h t sa (-1000000003) Ma r81 Ma_82 hg83) q339 q54 q336 q338 q0 pdX7_finding ⟨rfl, rfl, Nat.le_of_ble_eq_true rfl, Nat.le_of_ble_eq_true rfl⟩ hK hZ hP hD hS hA [0, 1] [2, 3, 4, 5, 6, 7, 8, 9, 10] [9, 10, 0, 1, 2, 3, 4, 5, 6, 7, 8] rfl rfl rfl rfl rfl rfl rfl rfl rfl rfl hl.1 rfl (Nat.le_of_ble_eq_true rfl) dX7_copy_77 rfl (fun H locs hP hD hS => ?_)
                have he := Option.some.inj hf
                obtain ⟨e0, ht0⟩ := Prod.mk.inj he
                obtain ⟨e1, ht1⟩ := Prod.mk.inj ht0
                obtain ⟨e2, ht2⟩ := Prod.mk.inj ht1
                obtain ⟨e3, ht3⟩ := Prod.mk.inj ht2
                obtain ⟨e4, e5⟩ := Prod.mk.inj ht3
                exact hri _ _ _ rfl (congrArg (fun z => some (Value.int z)) e0.symm) dX7_copy_80 _ _ _ (by rw [e1, e2, e3, e4, e5]) hP hD hS
            · have hf := in_el hc71 hf
              exact h45 Ma N0 N1 N2 N3 _ _ _ hP hD hS (lv_sub hl [0] rfl) hf
          have hf := in_el hc68 hf
          exact no_el hf
      have hf := in_el hc10 hf
      by_cases hc84 : x1 = 1
      · have hf := ip_el hc84 hf
        refine sa_lit (e := e1 0) hx hb hK hP 2 rfl (k := 1) (by rw [hc84]; decide) rfl dX7_copy_26 ?_
        obtain ⟨r85, hg86, hf⟩ := b1_el hf
        refine cc_V (w' := ((kX7 cs x (.ref (g 0)) (.ref (g2 0)) (.ref (g3 0)) (.ref (h 0)) (.ref (t 0)) (.ref (sa 0)) Ma) ++ (kSA cs sa (e0 0) (e1 0) (e2 0) (e3 0)) ++ (kX5 cs e0 (.ref (n0 0)) G0) ++ (kJ40 cs n0 N0) ++ (kX5 cs e1 (.ref (n1 0)) G1) ++ (kJ40 cs n1 N1) ++ (kX5 cs e2 (.ref (n2 0)) G2) ++ (kJ40 cs n2 N2) ++ (kX5 cs e3 (.ref (n3 0)) G3) ++ (kJ40 cs n3 N3))) (wr := ((kX7 cs x (.ref (g 0)) (.ref (g2 0)) (.ref (g3 0)) (.ref (h 0)) (.ref (t 0)) (.ref (sa 0)) Ma) ++ (kSA cs sa (e0 0) (e1 0) (e2 0) (e3 0)) ++ (kX5 cs e0 (.ref (n0 0)) G0) ++ (kJ40 cs n0 N0) ++ (kJ40 cs n1 N1) ++ (kX5 cs e2 (.ref (n2 0)) G2) ++ (kJ40 cs n2 N2) ++ (kX5 cs e3 (.ref (n3 0)) G3) ++ (kJ40 cs n3 N3))) (st1 := [.int r85]) [] hx hb hml hown hu (tX5_isMissing l D cs e1 n1 G1 r85 hg86) q860 q61 q857 q858 q859 pdX5_isMissing ⟨rfl, rfl, Nat.le_of_ble_eq_true rfl, Nat.le_of_ble_eq_true rfl⟩ hK hZ hP hD hS hA [5] [0, 1, 2, 3, 4, 6, 7, 8, 9, 10] [0, 1, 2, 3, 4, 10, 5, 6, 7, 8, 9] rfl rfl rfl rfl rfl rfl rfl rfl rfl rfl hl.1 rfl (Nat.le_of_ble_eq_true rfl) dX7_copy_27 rfl (fun H locs hP hD hS => ?_)
        refine lv_if_ne (tgt := 45) hx hb dX7_copy_30 (by decide) (fun hc87 => ?_) (fun hc87 => ?_)
        · have hf := in_el hc87 hf
          exact h45 Ma N0 N1 N2 N3 _ _ _ hP hD hS (lv_sub hl [0] rfl) hf
        · have hf := ip_el hc87 hf
          refine lv_aload_n hx hb dX7_copy_33 rfl (lv_at hl 0 rfl) ?_
          refine va_get (D := D) (ci := 7) (v := .ref (sa 0)) (C := RX7) (T := TX7) (N := 8) hx hb hu inX7 hown hK.1 hP 0 rfl rfl 5 (by decide) (hu _ q305) (fun _ h9 => h9) rfl dX7_copy_34 ?_
          refine lv_iload_n hx hb dX7_copy_37 rfl (lv_at hl 3 rfl) ?_
          by_cases hc88 : x3 = 0
          · have hf := ip_el hc88 hf
            refine sa_lit (e := e0 0) hx hb hK hP 2 rfl (k := 0) (by rw [hc88]; decide) rfl dX7_copy_38 ?_
            obtain ⟨r89, hg90, hf⟩ := b1_el hf
            refine cc_V (w' := ((kX7 cs x (.ref (g 0)) (.ref (g2 0)) (.ref (g3 0)) (.ref (h 0)) (.ref (t 0)) (.ref (sa 0)) Ma) ++ (kSA cs sa (e0 0) (e1 0) (e2 0) (e3 0)) ++ (kX5 cs e0 (.ref (n0 0)) G0) ++ (kJ40 cs n0 N0) ++ (kX5 cs e1 (.ref (n1 0)) G1) ++ (kJ40 cs n1 N1) ++ (kX5 cs e2 (.ref (n2 0)) G2) ++ (kJ40 cs n2 N2) ++ (kX5 cs e3 (.ref (n3 0)) G3) ++ (kJ40 cs n3 N3))) (wr := ((kX7 cs x (.ref (g 0)) (.ref (g2 0)) (.ref (g3 0)) (.ref (h 0)) (.ref (t 0)) (.ref (sa 0)) Ma) ++ (kSA cs sa (e0 0) (e1 0) (e2 0) (e3 0)) ++ (kJ40 cs n0 N0) ++ (kX5 cs e1 (.ref (n1 0)) G1) ++ (kJ40 cs n1 N1) ++ (kX5 cs e2 (.ref (n2 0)) G2) ++ (kJ40 cs n2 N2) ++ (kX5 cs e3 (.ref (n3 0)) G3) ++ (kJ40 cs n3 N3))) (st1 := [.int r89]) [] hx hb hml hown hu (tX5_isMissing l D cs e0 n0 G0 r89 hg90) q860 q61 q857 q858 q859 pdX5_isMissing ⟨rfl, rfl, Nat.le_of_ble_eq_true rfl, Nat.le_of_ble_eq_true rfl⟩ hK hZ hP hD hS hA [3] [0, 1, 2, 4, 5, 6, 7, 8, 9, 10] [0, 1, 2, 10, 3, 4, 5, 6, 7, 8, 9] rfl rfl rfl rfl rfl rfl rfl rfl rfl rfl hl.1 rfl (Nat.le_of_ble_eq_true rfl) dX7_copy_39 rfl (fun H locs hP hD hS => ?_)
            refine lv_if_eq (tgt := 53) hx hb dX7_copy_42 (by decide) (fun hc91 => ?_) (fun hc91 => ?_)
            · have hf := ip_el hc91 hf
              refine lv_aload_n hx hb dX7_copy_53 rfl (lv_at hl 0 rfl) ?_
              refine va_get (D := D) (ci := 7) (v := .ref (sa 0)) (C := RX7) (T := TX7) (N := 8) hx hb hu inX7 hown hK.1 hP 0 rfl rfl 5 (by decide) (hu _ q305) (fun _ h9 => h9) rfl dX7_copy_54 ?_
              refine lv_iload_n hx hb dX7_copy_57 rfl (lv_at hl 1 rfl) ?_
              refine sa_lit (e := e1 0) hx hb hK hP 2 rfl (k := 1) (by rw [hc84]; decide) rfl dX7_copy_58 ?_
              refine va_get (D := D) (ci := 5) (v := .int (G1 0 0)) (C := RX5) (T := TX5) (N := 3) hx hb hu inX5 hown hK.1 hP 5 rfl rfl 0 (by decide) (hu _ q287) (fun _ h9 => h9) rfl dX7_copy_59 ?_
              refine lv_aload_n hx hb dX7_copy_62 rfl (lv_at hl 0 rfl) ?_
              refine va_get (D := D) (ci := 7) (v := .ref (sa 0)) (C := RX7) (T := TX7) (N := 8) hx hb hu inX7 hown hK.1 hP 0 rfl rfl 5 (by decide) (hu _ q305) (fun _ h9 => h9) rfl dX7_copy_63 ?_
              refine lv_iload_n hx hb dX7_copy_66 rfl (lv_at hl 3 rfl) ?_
              refine sa_lit (e := e0 0) hx hb hK hP 2 rfl (k := 0) (by rw [hc88]; decide) rfl dX7_copy_67 ?_
              refine va_get (D := D) (ci := 5) (v := .int (G0 0 0)) (C := RX5) (T := TX5) (N := 3) hx hb hu inX5 hown hK.1 hP 3 rfl rfl 0 (by decide) (hu _ q287) (fun _ h9 => h9) rfl dX7_copy_68 ?_
              refine lv_icmp_eq (tgt := 81) hx hb dX7_copy_71 (by decide) (fun hc92 => ?_) (fun hc92 => ?_)
              · have hf := ip_el hc92 hf
                refine lv_aload_n hx hb dX7_copy_81 rfl (lv_at hl 0 rfl) ?_
                refine va_get (D := D) (ci := 7) (v := .ref (sa 0)) (C := RX7) (T := TX7) (N := 8) hx hb hu inX7 hown hK.1 hP 0 rfl rfl 5 (by decide) (hu _ q305) (fun _ h9 => h9) rfl dX7_copy_82 ?_
                refine lv_iload_n hx hb dX7_copy_85 rfl (lv_at hl 1 rfl) ?_
                refine sa_lit (e := e1 0) hx hb hK hP 2 rfl (k := 1) (by rw [hc84]; decide) rfl dX7_copy_86 ?_
                refine lv_iload_n hx hb dX7_copy_87 rfl (lv_at hl 2 rfl) ?_
                refine lv_iload hx hb dX7_copy_88 (lv_at hl 5 rfl) ?_
                obtain ⟨r93, hg94, hf⟩ := b1_el hf
                refine cc_V (w' := ((kX7 cs x (.ref (g 0)) (.ref (g2 0)) (.ref (g3 0)) (.ref (h 0)) (.ref (t 0)) (.ref (sa 0)) Ma) ++ (kSA cs sa (e0 0) (e1 0) (e2 0) (e3 0)) ++ (kX5 cs e0 (.ref (n0 0)) G0) ++ (kJ40 cs n0 N0) ++ (kX5 cs e1 (.ref (n1 0)) G1) ++ (kJ40 cs n1 N1) ++ (kX5 cs e2 (.ref (n2 0)) G2) ++ (kJ40 cs n2 N2) ++ (kX5 cs e3 (.ref (n3 0)) G3) ++ (kJ40 cs n3 N3))) (wr := ((kX7 cs x (.ref (g 0)) (.ref (g2 0)) (.ref (g3 0)) (.ref (h 0)) (.ref (t 0)) (.ref (sa 0)) Ma) ++ (kSA cs sa (e0 0) (e1 0) (e2 0) (e3 0)) ++ (kX5 cs e0 (.ref (n0 0)) G0) ++ (kJ40 cs n0 N0) ++ (kJ40 cs n1 N1) ++ (kX5 cs e2 (.ref (n2 0)) G2) ++ (kJ40 cs n2 N2) ++ (kX5 cs e3 (.ref (n3 0)) G3) ++ (kJ40 cs n3 N3))) (st1 := [.int r93]) [.int x2, .int x5] hx hb hml hown hu (tX5_holds l D cs e1 n1 x2 x5 G1 r93 hg94) q873 q61 q870 q871 q872 pdX5_holds ⟨rfl, rfl, Nat.le_of_ble_eq_true rfl, Nat.le_of_ble_eq_true rfl⟩ hK hZ hP hD hS hA [5] [0, 1, 2, 3, 4, 6, 7, 8, 9, 10] [0, 1, 2, 3, 4, 10, 5, 6, 7, 8, 9] rfl rfl rfl rfl rfl rfl rfl rfl rfl rfl hl.1 rfl (Nat.le_of_ble_eq_true rfl) dX7_copy_90 rfl (fun H locs hP hD hS => ?_)
                refine lv_if_eq (tgt := 112) hx hb dX7_copy_93 (by decide) (fun hc95 => ?_) (fun hc95 => ?_)
                · have hf := ip_el hc95 hf
                  exact h112 Ma N0 N1 N2 N3 _ _ _ hP hD hS (lv_sub hl [0] rfl) hf
                · have hf := in_el hc95 hf
                  refine lv_aload_n hx hb dX7_copy_96 rfl (lv_at hl 0 rfl) ?_
                  refine va_get (D := D) (ci := 7) (v := .ref (sa 0)) (C := RX7) (T := TX7) (N := 8) hx hb hu inX7 hown hK.1 hP 0 rfl rfl 5 (by decide) (hu _ q305) (fun _ h9 => h9) rfl dX7_copy_97 ?_
                  refine lv_iload_n hx hb dX7_copy_100 rfl (lv_at hl 3 rfl) ?_
                  refine sa_lit (e := e0 0) hx hb hK hP 2 rfl (k := 0) (by rw [hc88]; decide) rfl dX7_copy_101 ?_
                  refine lv_iload hx hb dX7_copy_102 (lv_at hl 4 rfl) ?_
                  refine lv_iload hx hb dX7_copy_104 (lv_at hl 5 rfl) ?_
                  obtain ⟨r96, hg97, hf⟩ := b1_el hf
                  refine cc_V (w' := ((kX7 cs x (.ref (g 0)) (.ref (g2 0)) (.ref (g3 0)) (.ref (h 0)) (.ref (t 0)) (.ref (sa 0)) Ma) ++ (kSA cs sa (e0 0) (e1 0) (e2 0) (e3 0)) ++ (kX5 cs e0 (.ref (n0 0)) G0) ++ (kJ40 cs n0 N0) ++ (kX5 cs e1 (.ref (n1 0)) G1) ++ (kJ40 cs n1 N1) ++ (kX5 cs e2 (.ref (n2 0)) G2) ++ (kJ40 cs n2 N2) ++ (kX5 cs e3 (.ref (n3 0)) G3) ++ (kJ40 cs n3 N3))) (wr := ((kX7 cs x (.ref (g 0)) (.ref (g2 0)) (.ref (g3 0)) (.ref (h 0)) (.ref (t 0)) (.ref (sa 0)) Ma) ++ (kSA cs sa (e0 0) (e1 0) (e2 0) (e3 0)) ++ (kJ40 cs n0 N0) ++ (kX5 cs e1 (.ref (n1 0)) G1) ++ (kJ40 cs n1 N1) ++ (kX5 cs e2 (.ref (n2 0)) G2) ++ (kJ40 cs n2 N2) ++ (kX5 cs e3 (.ref (n3 0)) G3) ++ (kJ40 cs n3 N3))) (st1 := [.int r96]) [.int x4, .int x5] hx hb hml hown hu (tX5_holds l D cs e0 n0 x4 x5 G0 r96 hg97) q873 q61 q870 q871 q872 pdX5_holds ⟨rfl, rfl, Nat.le_of_ble_eq_true rfl, Nat.le_of_ble_eq_true rfl⟩ hK hZ hP hD hS hA [3] [0, 1, 2, 4, 5, 6, 7, 8, 9, 10] [0, 1, 2, 10, 3, 4, 5, 6, 7, 8, 9] rfl rfl rfl rfl rfl rfl rfl rfl rfl rfl hl.1 rfl (Nat.le_of_ble_eq_true rfl) dX7_copy_106 rfl (fun H locs hP hD hS => ?_)
                  refine lv_if_ne (tgt := 119) hx hb dX7_copy_109 (by decide) (fun hc98 => ?_) (fun hc98 => ?_)
                  · have hf := in_el hc98 hf
                    refine lv_aload_n hx hb dX7_copy_119 rfl (lv_at hl 0 rfl) ?_
                    refine va_get (D := D) (ci := 7) (v := .ref (sa 0)) (C := RX7) (T := TX7) (N := 8) hx hb hu inX7 hown hK.1 hP 0 rfl rfl 5 (by decide) (hu _ q305) (fun _ h9 => h9) rfl dX7_copy_120 ?_
                    refine lv_iload_n hx hb dX7_copy_123 rfl (lv_at hl 1 rfl) ?_
                    refine sa_lit (e := e1 0) hx hb hK hP 2 rfl (k := 1) (by rw [hc84]; decide) rfl dX7_copy_124 ?_
                    refine va_get (D := D) (ci := 5) (v := .ref (n1 0)) (C := RX5) (T := TX5) (N := 3) hx hb hu inX5 hown hK.1 hP 5 rfl rfl 2 (by decide) (hu _ q291) (fun _ h9 => h9) rfl dX7_copy_125 ?_
                    refine lv_iload_n hx hb dX7_copy_128 rfl (lv_at hl 2 rfl) ?_
                    refine lv_aload_n hx hb dX7_copy_129 rfl (lv_at hl 0 rfl) ?_
                    refine va_get (D := D) (ci := 7) (v := .ref (sa 0)) (C := RX7) (T := TX7) (N := 8) hx hb hu inX7 hown hK.1 hP 0 rfl rfl 5 (by decide) (hu _ q305) (fun _ h9 => h9) rfl dX7_copy_130 ?_
                    refine lv_iload_n hx hb dX7_copy_133 rfl (lv_at hl 3 rfl) ?_
                    refine sa_lit (e := e0 0) hx hb hK hP 2 rfl (k := 0) (by rw [hc88]; decide) rfl dX7_copy_134 ?_
                    refine va_get (D := D) (ci := 5) (v := .ref (n0 0)) (C := RX5) (T := TX5) (N := 3) hx hb hu inX5 hown hK.1 hP 3 rfl rfl 2 (by decide) (hu _ q291) (fun _ h9 => h9) rfl dX7_copy_135 ?_
                    refine lv_iload hx hb dX7_copy_138 (lv_at hl 4 rfl) ?_
                    refine lv_iload hx hb dX7_copy_140 (lv_at hl 5 rfl) ?_
                    obtain ⟨hq100, hf⟩ := cp_el hf
                    obtain ⟨N0_99, hN0_99, hf⟩ := lt_el hf
                    refine va_copyl hx hb (hml.trans hl.1.symm) hown (hu _ q874) (hu _ q431) (hu _ q430) (hu _ q63) hK.1 hP hD hS 6 4 1 1 rfl rfl rfl rfl rfl hq100.1 hq100.2.1 hq100.2.2.1 hq100.2.2.2.1 hq100.2.2.2.2 (fun _ _ => rfl) (Nat.le_of_ble_eq_true rfl) (Nat.le_of_ble_eq_true rfl) dX7_copy_142 (fun H locs hP hD hS => ?_)
                    have hP : va_P D vwCl ((kX7 cs x (.ref (g 0)) (.ref (g2 0)) (.ref (g3 0)) (.ref (h 0)) (.ref (t 0)) (.ref (sa 0)) Ma) ++ (kSA cs sa (e0 0) (e1 0) (e2 0) (e3 0)) ++ (kX5 cs e0 (.ref (n0 0)) G0) ++ (kJ40 cs n0 N0_99) ++ (kX5 cs e1 (.ref (n1 0)) G1) ++ (kJ40 cs n1 N1) ++ (kX5 cs e2 (.ref (n2 0)) G2) ++ (kJ40 cs n2 N2) ++ (kX5 cs e3 (.ref (n3 0)) G3) ++ (kJ40 cs n3 N3)) H := by rw [hN0_99]; exact hP
                    have hD : va_D A ((kX7 cs x (.ref (g 0)) (.ref (g2 0)) (.ref (g3 0)) (.ref (h 0)) (.ref (t 0)) (.ref (sa 0)) Ma) ++ (kSA cs sa (e0 0) (e1 0) (e2 0) (e3 0)) ++ (kX5 cs e0 (.ref (n0 0)) G0) ++ (kJ40 cs n0 N0_99) ++ (kX5 cs e1 (.ref (n1 0)) G1) ++ (kJ40 cs n1 N1) ++ (kX5 cs e2 (.ref (n2 0)) G2) ++ (kJ40 cs n2 N2) ++ (kX5 cs e3 (.ref (n3 0)) G3) ++ (kJ40 cs n3 N3)) := by rw [hN0_99]; exact hD
                    refine lv_iload hx hb dX7_copy_145 (lv_at hl 5 rfl) ?_
                    have he := Option.some.inj hf
                    obtain ⟨e0, ht0⟩ := Prod.mk.inj he
                    obtain ⟨e1, ht1⟩ := Prod.mk.inj ht0
                    obtain ⟨e2, ht2⟩ := Prod.mk.inj ht1
                    obtain ⟨e3, ht3⟩ := Prod.mk.inj ht2
                    obtain ⟨e4, e5⟩ := Prod.mk.inj ht3
                    exact hri _ _ _ rfl (congrArg (fun z => some (Value.int z)) e0.symm) dX7_copy_147 _ _ _ (by rw [e1, e2, e3, e4, e5]) hP hD hS
                  · have hf := ip_el hc98 hf
                    exact h112 Ma N0 N1 N2 N3 _ _ _ hP hD hS (lv_sub hl [0] rfl) hf
              · have hf := in_el hc92 hf
                refine lv_aload_n hx hb dX7_copy_74 rfl (lv_at hl 0 rfl) ?_
                refine lv_ldc (v := (-1000000003)) hx hb hown (hu _ q465) dX7_copy_75 ?_
                obtain ⟨r101, Ma_102, hg103, hf⟩ := b2_el hf
                refine cc_V (w' := ((kX7 cs x (.ref (g 0)) (.ref (g2 0)) (.ref (g3 0)) (.ref (h 0)) (.ref (t 0)) (.ref (sa 0)) Ma_102) ++ (kSA cs sa (e0 0) (e1 0) (e2 0) (e3 0)) ++ (kX5 cs e0 (.ref (n0 0)) G0) ++ (kJ40 cs n0 N0) ++ (kX5 cs e1 (.ref (n1 0)) G1) ++ (kJ40 cs n1 N1) ++ (kX5 cs e2 (.ref (n2 0)) G2) ++ (kJ40 cs n2 N2) ++ (kX5 cs e3 (.ref (n3 0)) G3) ++ (kJ40 cs n3 N3))) (wr := ((kSA cs sa (e0 0) (e1 0) (e2 0) (e3 0)) ++ (kX5 cs e0 (.ref (n0 0)) G0) ++ (kJ40 cs n0 N0) ++ (kX5 cs e1 (.ref (n1 0)) G1) ++ (kJ40 cs n1 N1) ++ (kX5 cs e2 (.ref (n2 0)) G2) ++ (kJ40 cs n2 N2) ++ (kX5 cs e3 (.ref (n3 0)) G3) ++ (kJ40 cs n3 N3))) (st1 := [.int r101]) [.int (-1000000003)] hx hb hml hown hu (tX7_finding l D cs x g g2 g3 h t sa (-1000000003) Ma r101 Ma_102 hg103) q339 q54 q336 q338 q0 pdX7_finding ⟨rfl, rfl, Nat.le_of_ble_eq_true rfl, Nat.le_of_ble_eq_true rfl⟩ hK hZ hP hD hS hA [0, 1] [2, 3, 4, 5, 6, 7, 8, 9, 10] [9, 10, 0, 1, 2, 3, 4, 5, 6, 7, 8] rfl rfl rfl rfl rfl rfl rfl rfl rfl rfl hl.1 rfl (Nat.le_of_ble_eq_true rfl) dX7_copy_77 rfl (fun H locs hP hD hS => ?_)
                have he := Option.some.inj hf
                obtain ⟨e0, ht0⟩ := Prod.mk.inj he
                obtain ⟨e1, ht1⟩ := Prod.mk.inj ht0
                obtain ⟨e2, ht2⟩ := Prod.mk.inj ht1
                obtain ⟨e3, ht3⟩ := Prod.mk.inj ht2
                obtain ⟨e4, e5⟩ := Prod.mk.inj ht3
                exact hri _ _ _ rfl (congrArg (fun z => some (Value.int z)) e0.symm) dX7_copy_80 _ _ _ (by rw [e1, e2, e3, e4, e5]) hP hD hS
            · have hf := in_el hc91 hf
              exact h45 Ma N0 N1 N2 N3 _ _ _ hP hD hS (lv_sub hl [0] rfl) hf
          have hf := in_el hc88 hf
          by_cases hc104 : x3 = 1
          · have hf := ip_el hc104 hf
            refine sa_lit (e := e1 0) hx hb hK hP 2 rfl (k := 1) (by rw [hc104]; decide) rfl dX7_copy_38 ?_
            obtain ⟨r105, hg106, hf⟩ := b1_el hf
            refine cc_V (w' := ((kX7 cs x (.ref (g 0)) (.ref (g2 0)) (.ref (g3 0)) (.ref (h 0)) (.ref (t 0)) (.ref (sa 0)) Ma) ++ (kSA cs sa (e0 0) (e1 0) (e2 0) (e3 0)) ++ (kX5 cs e0 (.ref (n0 0)) G0) ++ (kJ40 cs n0 N0) ++ (kX5 cs e1 (.ref (n1 0)) G1) ++ (kJ40 cs n1 N1) ++ (kX5 cs e2 (.ref (n2 0)) G2) ++ (kJ40 cs n2 N2) ++ (kX5 cs e3 (.ref (n3 0)) G3) ++ (kJ40 cs n3 N3))) (wr := ((kX7 cs x (.ref (g 0)) (.ref (g2 0)) (.ref (g3 0)) (.ref (h 0)) (.ref (t 0)) (.ref (sa 0)) Ma) ++ (kSA cs sa (e0 0) (e1 0) (e2 0) (e3 0)) ++ (kX5 cs e0 (.ref (n0 0)) G0) ++ (kJ40 cs n0 N0) ++ (kJ40 cs n1 N1) ++ (kX5 cs e2 (.ref (n2 0)) G2) ++ (kJ40 cs n2 N2) ++ (kX5 cs e3 (.ref (n3 0)) G3) ++ (kJ40 cs n3 N3))) (st1 := [.int r105]) [] hx hb hml hown hu (tX5_isMissing l D cs e1 n1 G1 r105 hg106) q860 q61 q857 q858 q859 pdX5_isMissing ⟨rfl, rfl, Nat.le_of_ble_eq_true rfl, Nat.le_of_ble_eq_true rfl⟩ hK hZ hP hD hS hA [5] [0, 1, 2, 3, 4, 6, 7, 8, 9, 10] [0, 1, 2, 3, 4, 10, 5, 6, 7, 8, 9] rfl rfl rfl rfl rfl rfl rfl rfl rfl rfl hl.1 rfl (Nat.le_of_ble_eq_true rfl) dX7_copy_39 rfl (fun H locs hP hD hS => ?_)
            refine lv_if_eq (tgt := 53) hx hb dX7_copy_42 (by decide) (fun hc107 => ?_) (fun hc107 => ?_)
            · have hf := ip_el hc107 hf
              refine lv_aload_n hx hb dX7_copy_53 rfl (lv_at hl 0 rfl) ?_
              refine va_get (D := D) (ci := 7) (v := .ref (sa 0)) (C := RX7) (T := TX7) (N := 8) hx hb hu inX7 hown hK.1 hP 0 rfl rfl 5 (by decide) (hu _ q305) (fun _ h9 => h9) rfl dX7_copy_54 ?_
              refine lv_iload_n hx hb dX7_copy_57 rfl (lv_at hl 1 rfl) ?_
              refine sa_lit (e := e1 0) hx hb hK hP 2 rfl (k := 1) (by rw [hc84]; decide) rfl dX7_copy_58 ?_
              refine va_get (D := D) (ci := 5) (v := .int (G1 0 0)) (C := RX5) (T := TX5) (N := 3) hx hb hu inX5 hown hK.1 hP 5 rfl rfl 0 (by decide) (hu _ q287) (fun _ h9 => h9) rfl dX7_copy_59 ?_
              refine lv_aload_n hx hb dX7_copy_62 rfl (lv_at hl 0 rfl) ?_
              refine va_get (D := D) (ci := 7) (v := .ref (sa 0)) (C := RX7) (T := TX7) (N := 8) hx hb hu inX7 hown hK.1 hP 0 rfl rfl 5 (by decide) (hu _ q305) (fun _ h9 => h9) rfl dX7_copy_63 ?_
              refine lv_iload_n hx hb dX7_copy_66 rfl (lv_at hl 3 rfl) ?_
              refine sa_lit (e := e1 0) hx hb hK hP 2 rfl (k := 1) (by rw [hc104]; decide) rfl dX7_copy_67 ?_
              refine va_get (D := D) (ci := 5) (v := .int (G1 0 0)) (C := RX5) (T := TX5) (N := 3) hx hb hu inX5 hown hK.1 hP 5 rfl rfl 0 (by decide) (hu _ q287) (fun _ h9 => h9) rfl dX7_copy_68 ?_
              refine lv_icmp_eq (tgt := 81) hx hb dX7_copy_71 (by decide) (fun hc108 => ?_) (fun hc108 => ?_)
              · have hf := ip_el hc108 hf
                refine lv_aload_n hx hb dX7_copy_81 rfl (lv_at hl 0 rfl) ?_
                refine va_get (D := D) (ci := 7) (v := .ref (sa 0)) (C := RX7) (T := TX7) (N := 8) hx hb hu inX7 hown hK.1 hP 0 rfl rfl 5 (by decide) (hu _ q305) (fun _ h9 => h9) rfl dX7_copy_82 ?_
                refine lv_iload_n hx hb dX7_copy_85 rfl (lv_at hl 1 rfl) ?_
                refine sa_lit (e := e1 0) hx hb hK hP 2 rfl (k := 1) (by rw [hc84]; decide) rfl dX7_copy_86 ?_
                refine lv_iload_n hx hb dX7_copy_87 rfl (lv_at hl 2 rfl) ?_
                refine lv_iload hx hb dX7_copy_88 (lv_at hl 5 rfl) ?_
                obtain ⟨r109, hg110, hf⟩ := b1_el hf
                refine cc_V (w' := ((kX7 cs x (.ref (g 0)) (.ref (g2 0)) (.ref (g3 0)) (.ref (h 0)) (.ref (t 0)) (.ref (sa 0)) Ma) ++ (kSA cs sa (e0 0) (e1 0) (e2 0) (e3 0)) ++ (kX5 cs e0 (.ref (n0 0)) G0) ++ (kJ40 cs n0 N0) ++ (kX5 cs e1 (.ref (n1 0)) G1) ++ (kJ40 cs n1 N1) ++ (kX5 cs e2 (.ref (n2 0)) G2) ++ (kJ40 cs n2 N2) ++ (kX5 cs e3 (.ref (n3 0)) G3) ++ (kJ40 cs n3 N3))) (wr := ((kX7 cs x (.ref (g 0)) (.ref (g2 0)) (.ref (g3 0)) (.ref (h 0)) (.ref (t 0)) (.ref (sa 0)) Ma) ++ (kSA cs sa (e0 0) (e1 0) (e2 0) (e3 0)) ++ (kX5 cs e0 (.ref (n0 0)) G0) ++ (kJ40 cs n0 N0) ++ (kJ40 cs n1 N1) ++ (kX5 cs e2 (.ref (n2 0)) G2) ++ (kJ40 cs n2 N2) ++ (kX5 cs e3 (.ref (n3 0)) G3) ++ (kJ40 cs n3 N3))) (st1 := [.int r109]) [.int x2, .int x5] hx hb hml hown hu (tX5_holds l D cs e1 n1 x2 x5 G1 r109 hg110) q873 q61 q870 q871 q872 pdX5_holds ⟨rfl, rfl, Nat.le_of_ble_eq_true rfl, Nat.le_of_ble_eq_true rfl⟩ hK hZ hP hD hS hA [5] [0, 1, 2, 3, 4, 6, 7, 8, 9, 10] [0, 1, 2, 3, 4, 10, 5, 6, 7, 8, 9] rfl rfl rfl rfl rfl rfl rfl rfl rfl rfl hl.1 rfl (Nat.le_of_ble_eq_true rfl) dX7_copy_90 rfl (fun H locs hP hD hS => ?_)
                refine lv_if_eq (tgt := 112) hx hb dX7_copy_93 (by decide) (fun hc111 => ?_) (fun hc111 => ?_)
                · have hf := ip_el hc111 hf
                  exact h112 Ma N0 N1 N2 N3 _ _ _ hP hD hS (lv_sub hl [0] rfl) hf
                · have hf := in_el hc111 hf
                  refine lv_aload_n hx hb dX7_copy_96 rfl (lv_at hl 0 rfl) ?_
                  refine va_get (D := D) (ci := 7) (v := .ref (sa 0)) (C := RX7) (T := TX7) (N := 8) hx hb hu inX7 hown hK.1 hP 0 rfl rfl 5 (by decide) (hu _ q305) (fun _ h9 => h9) rfl dX7_copy_97 ?_
                  refine lv_iload_n hx hb dX7_copy_100 rfl (lv_at hl 3 rfl) ?_
                  refine sa_lit (e := e1 0) hx hb hK hP 2 rfl (k := 1) (by rw [hc104]; decide) rfl dX7_copy_101 ?_
                  refine lv_iload hx hb dX7_copy_102 (lv_at hl 4 rfl) ?_
                  refine lv_iload hx hb dX7_copy_104 (lv_at hl 5 rfl) ?_
                  obtain ⟨r112, hg113, hf⟩ := b1_el hf
                  refine cc_V (w' := ((kX7 cs x (.ref (g 0)) (.ref (g2 0)) (.ref (g3 0)) (.ref (h 0)) (.ref (t 0)) (.ref (sa 0)) Ma) ++ (kSA cs sa (e0 0) (e1 0) (e2 0) (e3 0)) ++ (kX5 cs e0 (.ref (n0 0)) G0) ++ (kJ40 cs n0 N0) ++ (kX5 cs e1 (.ref (n1 0)) G1) ++ (kJ40 cs n1 N1) ++ (kX5 cs e2 (.ref (n2 0)) G2) ++ (kJ40 cs n2 N2) ++ (kX5 cs e3 (.ref (n3 0)) G3) ++ (kJ40 cs n3 N3))) (wr := ((kX7 cs x (.ref (g 0)) (.ref (g2 0)) (.ref (g3 0)) (.ref (h 0)) (.ref (t 0)) (.ref (sa 0)) Ma) ++ (kSA cs sa (e0 0) (e1 0) (e2 0) (e3 0)) ++ (kX5 cs e0 (.ref (n0 0)) G0) ++ (kJ40 cs n0 N0) ++ (kJ40 cs n1 N1) ++ (kX5 cs e2 (.ref (n2 0)) G2) ++ (kJ40 cs n2 N2) ++ (kX5 cs e3 (.ref (n3 0)) G3) ++ (kJ40 cs n3 N3))) (st1 := [.int r112]) [.int x4, .int x5] hx hb hml hown hu (tX5_holds l D cs e1 n1 x4 x5 G1 r112 hg113) q873 q61 q870 q871 q872 pdX5_holds ⟨rfl, rfl, Nat.le_of_ble_eq_true rfl, Nat.le_of_ble_eq_true rfl⟩ hK hZ hP hD hS hA [5] [0, 1, 2, 3, 4, 6, 7, 8, 9, 10] [0, 1, 2, 3, 4, 10, 5, 6, 7, 8, 9] rfl rfl rfl rfl rfl rfl rfl rfl rfl rfl hl.1 rfl (Nat.le_of_ble_eq_true rfl) dX7_copy_106 rfl (fun H locs hP hD hS => ?_)
                  refine lv_if_ne (tgt := 119) hx hb dX7_copy_109 (by decide) (fun hc114 => ?_) (fun hc114 => ?_)
                  · have hf := in_el hc114 hf
                    refine lv_aload_n hx hb dX7_copy_119 rfl (lv_at hl 0 rfl) ?_
                    refine va_get (D := D) (ci := 7) (v := .ref (sa 0)) (C := RX7) (T := TX7) (N := 8) hx hb hu inX7 hown hK.1 hP 0 rfl rfl 5 (by decide) (hu _ q305) (fun _ h9 => h9) rfl dX7_copy_120 ?_
                    refine lv_iload_n hx hb dX7_copy_123 rfl (lv_at hl 1 rfl) ?_
                    refine sa_lit (e := e1 0) hx hb hK hP 2 rfl (k := 1) (by rw [hc84]; decide) rfl dX7_copy_124 ?_
                    refine va_get (D := D) (ci := 5) (v := .ref (n1 0)) (C := RX5) (T := TX5) (N := 3) hx hb hu inX5 hown hK.1 hP 5 rfl rfl 2 (by decide) (hu _ q291) (fun _ h9 => h9) rfl dX7_copy_125 ?_
                    refine lv_iload_n hx hb dX7_copy_128 rfl (lv_at hl 2 rfl) ?_
                    refine lv_aload_n hx hb dX7_copy_129 rfl (lv_at hl 0 rfl) ?_
                    refine va_get (D := D) (ci := 7) (v := .ref (sa 0)) (C := RX7) (T := TX7) (N := 8) hx hb hu inX7 hown hK.1 hP 0 rfl rfl 5 (by decide) (hu _ q305) (fun _ h9 => h9) rfl dX7_copy_130 ?_
                    refine lv_iload_n hx hb dX7_copy_133 rfl (lv_at hl 3 rfl) ?_
                    refine sa_lit (e := e1 0) hx hb hK hP 2 rfl (k := 1) (by rw [hc104]; decide) rfl dX7_copy_134 ?_
                    refine va_get (D := D) (ci := 5) (v := .ref (n1 0)) (C := RX5) (T := TX5) (N := 3) hx hb hu inX5 hown hK.1 hP 5 rfl rfl 2 (by decide) (hu _ q291) (fun _ h9 => h9) rfl dX7_copy_135 ?_
                    refine lv_iload hx hb dX7_copy_138 (lv_at hl 4 rfl) ?_
                    refine lv_iload hx hb dX7_copy_140 (lv_at hl 5 rfl) ?_
                    obtain ⟨hq116, hf⟩ := cp_el hf
                    obtain ⟨N1_115, hN1_115, hf⟩ := lt_el hf
                    refine va_copyl hx hb (hml.trans hl.1.symm) hown (hu _ q874) (hu _ q431) (hu _ q430) (hu _ q63) hK.1 hP hD hS 6 6 1 1 rfl rfl rfl rfl rfl hq116.1 hq116.2.1 hq116.2.2.1 hq116.2.2.2.1 hq116.2.2.2.2 (fun _ _ => rfl) (Nat.le_of_ble_eq_true rfl) (Nat.le_of_ble_eq_true rfl) dX7_copy_142 (fun H locs hP hD hS => ?_)
                    have hP : va_P D vwCl ((kX7 cs x (.ref (g 0)) (.ref (g2 0)) (.ref (g3 0)) (.ref (h 0)) (.ref (t 0)) (.ref (sa 0)) Ma) ++ (kSA cs sa (e0 0) (e1 0) (e2 0) (e3 0)) ++ (kX5 cs e0 (.ref (n0 0)) G0) ++ (kJ40 cs n0 N0) ++ (kX5 cs e1 (.ref (n1 0)) G1) ++ (kJ40 cs n1 N1_115) ++ (kX5 cs e2 (.ref (n2 0)) G2) ++ (kJ40 cs n2 N2) ++ (kX5 cs e3 (.ref (n3 0)) G3) ++ (kJ40 cs n3 N3)) H := by rw [hN1_115]; exact hP
                    have hD : va_D A ((kX7 cs x (.ref (g 0)) (.ref (g2 0)) (.ref (g3 0)) (.ref (h 0)) (.ref (t 0)) (.ref (sa 0)) Ma) ++ (kSA cs sa (e0 0) (e1 0) (e2 0) (e3 0)) ++ (kX5 cs e0 (.ref (n0 0)) G0) ++ (kJ40 cs n0 N0) ++ (kX5 cs e1 (.ref (n1 0)) G1) ++ (kJ40 cs n1 N1_115) ++ (kX5 cs e2 (.ref (n2 0)) G2) ++ (kJ40 cs n2 N2) ++ (kX5 cs e3 (.ref (n3 0)) G3) ++ (kJ40 cs n3 N3)) := by rw [hN1_115]; exact hD
                    refine lv_iload hx hb dX7_copy_145 (lv_at hl 5 rfl) ?_
                    have he := Option.some.inj hf
                    obtain ⟨e0, ht0⟩ := Prod.mk.inj he
                    obtain ⟨e1, ht1⟩ := Prod.mk.inj ht0
                    obtain ⟨e2, ht2⟩ := Prod.mk.inj ht1
                    obtain ⟨e3, ht3⟩ := Prod.mk.inj ht2
                    obtain ⟨e4, e5⟩ := Prod.mk.inj ht3
                    exact hri _ _ _ rfl (congrArg (fun z => some (Value.int z)) e0.symm) dX7_copy_147 _ _ _ (by rw [e1, e2, e3, e4, e5]) hP hD hS
                  · have hf := ip_el hc114 hf
                    exact h112 Ma N0 N1 N2 N3 _ _ _ hP hD hS (lv_sub hl [0] rfl) hf
              · have hf := in_el hc108 hf
                refine lv_aload_n hx hb dX7_copy_74 rfl (lv_at hl 0 rfl) ?_
                refine lv_ldc (v := (-1000000003)) hx hb hown (hu _ q465) dX7_copy_75 ?_
                obtain ⟨r117, Ma_118, hg119, hf⟩ := b2_el hf
                refine cc_V (w' := ((kX7 cs x (.ref (g 0)) (.ref (g2 0)) (.ref (g3 0)) (.ref (h 0)) (.ref (t 0)) (.ref (sa 0)) Ma_118) ++ (kSA cs sa (e0 0) (e1 0) (e2 0) (e3 0)) ++ (kX5 cs e0 (.ref (n0 0)) G0) ++ (kJ40 cs n0 N0) ++ (kX5 cs e1 (.ref (n1 0)) G1) ++ (kJ40 cs n1 N1) ++ (kX5 cs e2 (.ref (n2 0)) G2) ++ (kJ40 cs n2 N2) ++ (kX5 cs e3 (.ref (n3 0)) G3) ++ (kJ40 cs n3 N3))) (wr := ((kSA cs sa (e0 0) (e1 0) (e2 0) (e3 0)) ++ (kX5 cs e0 (.ref (n0 0)) G0) ++ (kJ40 cs n0 N0) ++ (kX5 cs e1 (.ref (n1 0)) G1) ++ (kJ40 cs n1 N1) ++ (kX5 cs e2 (.ref (n2 0)) G2) ++ (kJ40 cs n2 N2) ++ (kX5 cs e3 (.ref (n3 0)) G3) ++ (kJ40 cs n3 N3))) (st1 := [.int r117]) [.int (-1000000003)] hx hb hml hown hu (tX7_finding l D cs x g g2 g3 h t sa (-1000000003) Ma r117 Ma_118 hg119) q339 q54 q336 q338 q0 pdX7_finding ⟨rfl, rfl, Nat.le_of_ble_eq_true rfl, Nat.le_of_ble_eq_true rfl⟩ hK hZ hP hD hS hA [0, 1] [2, 3, 4, 5, 6, 7, 8, 9, 10] [9, 10, 0, 1, 2, 3, 4, 5, 6, 7, 8] rfl rfl rfl rfl rfl rfl rfl rfl rfl rfl hl.1 rfl (Nat.le_of_ble_eq_true rfl) dX7_copy_77 rfl (fun H locs hP hD hS => ?_)
                have he := Option.some.inj hf
                obtain ⟨e0, ht0⟩ := Prod.mk.inj he
                obtain ⟨e1, ht1⟩ := Prod.mk.inj ht0
                obtain ⟨e2, ht2⟩ := Prod.mk.inj ht1
                obtain ⟨e3, ht3⟩ := Prod.mk.inj ht2
                obtain ⟨e4, e5⟩ := Prod.mk.inj ht3
                exact hri _ _ _ rfl (congrArg (fun z => some (Value.int z)) e0.symm) dX7_copy_80 _ _ _ (by rw [e1, e2, e3, e4, e5]) hP hD hS
            · have hf := in_el hc107 hf
              exact h45 Ma N0 N1 N2 N3 _ _ _ hP hD hS (lv_sub hl [0] rfl) hf
          have hf := in_el hc104 hf
          by_cases hc120 : x3 = 2
          · have hf := ip_el hc120 hf
            refine sa_lit (e := e2 0) hx hb hK hP 2 rfl (k := 2) (by rw [hc120]; decide) rfl dX7_copy_38 ?_
            obtain ⟨r121, hg122, hf⟩ := b1_el hf
            refine cc_V (w' := ((kX7 cs x (.ref (g 0)) (.ref (g2 0)) (.ref (g3 0)) (.ref (h 0)) (.ref (t 0)) (.ref (sa 0)) Ma) ++ (kSA cs sa (e0 0) (e1 0) (e2 0) (e3 0)) ++ (kX5 cs e0 (.ref (n0 0)) G0) ++ (kJ40 cs n0 N0) ++ (kX5 cs e1 (.ref (n1 0)) G1) ++ (kJ40 cs n1 N1) ++ (kX5 cs e2 (.ref (n2 0)) G2) ++ (kJ40 cs n2 N2) ++ (kX5 cs e3 (.ref (n3 0)) G3) ++ (kJ40 cs n3 N3))) (wr := ((kX7 cs x (.ref (g 0)) (.ref (g2 0)) (.ref (g3 0)) (.ref (h 0)) (.ref (t 0)) (.ref (sa 0)) Ma) ++ (kSA cs sa (e0 0) (e1 0) (e2 0) (e3 0)) ++ (kX5 cs e0 (.ref (n0 0)) G0) ++ (kJ40 cs n0 N0) ++ (kX5 cs e1 (.ref (n1 0)) G1) ++ (kJ40 cs n1 N1) ++ (kJ40 cs n2 N2) ++ (kX5 cs e3 (.ref (n3 0)) G3) ++ (kJ40 cs n3 N3))) (st1 := [.int r121]) [] hx hb hml hown hu (tX5_isMissing l D cs e2 n2 G2 r121 hg122) q860 q61 q857 q858 q859 pdX5_isMissing ⟨rfl, rfl, Nat.le_of_ble_eq_true rfl, Nat.le_of_ble_eq_true rfl⟩ hK hZ hP hD hS hA [7] [0, 1, 2, 3, 4, 5, 6, 8, 9, 10] [0, 1, 2, 3, 4, 5, 6, 10, 7, 8, 9] rfl rfl rfl rfl rfl rfl rfl rfl rfl rfl hl.1 rfl (Nat.le_of_ble_eq_true rfl) dX7_copy_39 rfl (fun H locs hP hD hS => ?_)
            refine lv_if_eq (tgt := 53) hx hb dX7_copy_42 (by decide) (fun hc123 => ?_) (fun hc123 => ?_)
            · have hf := ip_el hc123 hf
              refine lv_aload_n hx hb dX7_copy_53 rfl (lv_at hl 0 rfl) ?_
              refine va_get (D := D) (ci := 7) (v := .ref (sa 0)) (C := RX7) (T := TX7) (N := 8) hx hb hu inX7 hown hK.1 hP 0 rfl rfl 5 (by decide) (hu _ q305) (fun _ h9 => h9) rfl dX7_copy_54 ?_
              refine lv_iload_n hx hb dX7_copy_57 rfl (lv_at hl 1 rfl) ?_
              refine sa_lit (e := e1 0) hx hb hK hP 2 rfl (k := 1) (by rw [hc84]; decide) rfl dX7_copy_58 ?_
              refine va_get (D := D) (ci := 5) (v := .int (G1 0 0)) (C := RX5) (T := TX5) (N := 3) hx hb hu inX5 hown hK.1 hP 5 rfl rfl 0 (by decide) (hu _ q287) (fun _ h9 => h9) rfl dX7_copy_59 ?_
              refine lv_aload_n hx hb dX7_copy_62 rfl (lv_at hl 0 rfl) ?_
              refine va_get (D := D) (ci := 7) (v := .ref (sa 0)) (C := RX7) (T := TX7) (N := 8) hx hb hu inX7 hown hK.1 hP 0 rfl rfl 5 (by decide) (hu _ q305) (fun _ h9 => h9) rfl dX7_copy_63 ?_
              refine lv_iload_n hx hb dX7_copy_66 rfl (lv_at hl 3 rfl) ?_
              refine sa_lit (e := e2 0) hx hb hK hP 2 rfl (k := 2) (by rw [hc120]; decide) rfl dX7_copy_67 ?_
              refine va_get (D := D) (ci := 5) (v := .int (G2 0 0)) (C := RX5) (T := TX5) (N := 3) hx hb hu inX5 hown hK.1 hP 7 rfl rfl 0 (by decide) (hu _ q287) (fun _ h9 => h9) rfl dX7_copy_68 ?_
              refine lv_icmp_eq (tgt := 81) hx hb dX7_copy_71 (by decide) (fun hc124 => ?_) (fun hc124 => ?_)
              · have hf := ip_el hc124 hf
                refine lv_aload_n hx hb dX7_copy_81 rfl (lv_at hl 0 rfl) ?_
                refine va_get (D := D) (ci := 7) (v := .ref (sa 0)) (C := RX7) (T := TX7) (N := 8) hx hb hu inX7 hown hK.1 hP 0 rfl rfl 5 (by decide) (hu _ q305) (fun _ h9 => h9) rfl dX7_copy_82 ?_
                refine lv_iload_n hx hb dX7_copy_85 rfl (lv_at hl 1 rfl) ?_
                refine sa_lit (e := e1 0) hx hb hK hP 2 rfl (k := 1) (by rw [hc84]; decide) rfl dX7_copy_86 ?_
                refine lv_iload_n hx hb dX7_copy_87 rfl (lv_at hl 2 rfl) ?_
                refine lv_iload hx hb dX7_copy_88 (lv_at hl 5 rfl) ?_
                obtain ⟨r125, hg126, hf⟩ := b1_el hf
                refine cc_V (w' := ((kX7 cs x (.ref (g 0)) (.ref (g2 0)) (.ref (g3 0)) (.ref (h 0)) (.ref (t 0)) (.ref (sa 0)) Ma) ++ (kSA cs sa (e0 0) (e1 0) (e2 0) (e3 0)) ++ (kX5 cs e0 (.ref (n0 0)) G0) ++ (kJ40 cs n0 N0) ++ (kX5 cs e1 (.ref (n1 0)) G1) ++ (kJ40 cs n1 N1) ++ (kX5 cs e2 (.ref (n2 0)) G2) ++ (kJ40 cs n2 N2) ++ (kX5 cs e3 (.ref (n3 0)) G3) ++ (kJ40 cs n3 N3))) (wr := ((kX7 cs x (.ref (g 0)) (.ref (g2 0)) (.ref (g3 0)) (.ref (h 0)) (.ref (t 0)) (.ref (sa 0)) Ma) ++ (kSA cs sa (e0 0) (e1 0) (e2 0) (e3 0)) ++ (kX5 cs e0 (.ref (n0 0)) G0) ++ (kJ40 cs n0 N0) ++ (kJ40 cs n1 N1) ++ (kX5 cs e2 (.ref (n2 0)) G2) ++ (kJ40 cs n2 N2) ++ (kX5 cs e3 (.ref (n3 0)) G3) ++ (kJ40 cs n3 N3))) (st1 := [.int r125]) [.int x2, .int x5] hx hb hml hown hu (tX5_holds l D cs e1 n1 x2 x5 G1 r125 hg126) q873 q61 q870 q871 q872 pdX5_holds ⟨rfl, rfl, Nat.le_of_ble_eq_true rfl, Nat.le_of_ble_eq_true rfl⟩ hK hZ hP hD hS hA [5] [0, 1, 2, 3, 4, 6, 7, 8, 9, 10] [0, 1, 2, 3, 4, 10, 5, 6, 7, 8, 9] rfl rfl rfl rfl rfl rfl rfl rfl rfl rfl hl.1 rfl (Nat.le_of_ble_eq_true rfl) dX7_copy_90 rfl (fun H locs hP hD hS => ?_)
                refine lv_if_eq (tgt := 112) hx hb dX7_copy_93 (by decide) (fun hc127 => ?_) (fun hc127 => ?_)
                · have hf := ip_el hc127 hf
                  exact h112 Ma N0 N1 N2 N3 _ _ _ hP hD hS (lv_sub hl [0] rfl) hf
                · have hf := in_el hc127 hf
                  refine lv_aload_n hx hb dX7_copy_96 rfl (lv_at hl 0 rfl) ?_
                  refine va_get (D := D) (ci := 7) (v := .ref (sa 0)) (C := RX7) (T := TX7) (N := 8) hx hb hu inX7 hown hK.1 hP 0 rfl rfl 5 (by decide) (hu _ q305) (fun _ h9 => h9) rfl dX7_copy_97 ?_
                  refine lv_iload_n hx hb dX7_copy_100 rfl (lv_at hl 3 rfl) ?_
                  refine sa_lit (e := e2 0) hx hb hK hP 2 rfl (k := 2) (by rw [hc120]; decide) rfl dX7_copy_101 ?_
                  refine lv_iload hx hb dX7_copy_102 (lv_at hl 4 rfl) ?_
                  refine lv_iload hx hb dX7_copy_104 (lv_at hl 5 rfl) ?_
                  obtain ⟨r128, hg129, hf⟩ := b1_el hf
                  refine cc_V (w' := ((kX7 cs x (.ref (g 0)) (.ref (g2 0)) (.ref (g3 0)) (.ref (h 0)) (.ref (t 0)) (.ref (sa 0)) Ma) ++ (kSA cs sa (e0 0) (e1 0) (e2 0) (e3 0)) ++ (kX5 cs e0 (.ref (n0 0)) G0) ++ (kJ40 cs n0 N0) ++ (kX5 cs e1 (.ref (n1 0)) G1) ++ (kJ40 cs n1 N1) ++ (kX5 cs e2 (.ref (n2 0)) G2) ++ (kJ40 cs n2 N2) ++ (kX5 cs e3 (.ref (n3 0)) G3) ++ (kJ40 cs n3 N3))) (wr := ((kX7 cs x (.ref (g 0)) (.ref (g2 0)) (.ref (g3 0)) (.ref (h 0)) (.ref (t 0)) (.ref (sa 0)) Ma) ++ (kSA cs sa (e0 0) (e1 0) (e2 0) (e3 0)) ++ (kX5 cs e0 (.ref (n0 0)) G0) ++ (kJ40 cs n0 N0) ++ (kX5 cs e1 (.ref (n1 0)) G1) ++ (kJ40 cs n1 N1) ++ (kJ40 cs n2 N2) ++ (kX5 cs e3 (.ref (n3 0)) G3) ++ (kJ40 cs n3 N3))) (st1 := [.int r128]) [.int x4, .int x5] hx hb hml hown hu (tX5_holds l D cs e2 n2 x4 x5 G2 r128 hg129) q873 q61 q870 q871 q872 pdX5_holds ⟨rfl, rfl, Nat.le_of_ble_eq_true rfl, Nat.le_of_ble_eq_true rfl⟩ hK hZ hP hD hS hA [7] [0, 1, 2, 3, 4, 5, 6, 8, 9, 10] [0, 1, 2, 3, 4, 5, 6, 10, 7, 8, 9] rfl rfl rfl rfl rfl rfl rfl rfl rfl rfl hl.1 rfl (Nat.le_of_ble_eq_true rfl) dX7_copy_106 rfl (fun H locs hP hD hS => ?_)
                  refine lv_if_ne (tgt := 119) hx hb dX7_copy_109 (by decide) (fun hc130 => ?_) (fun hc130 => ?_)
                  · have hf := in_el hc130 hf
                    refine lv_aload_n hx hb dX7_copy_119 rfl (lv_at hl 0 rfl) ?_
                    refine va_get (D := D) (ci := 7) (v := .ref (sa 0)) (C := RX7) (T := TX7) (N := 8) hx hb hu inX7 hown hK.1 hP 0 rfl rfl 5 (by decide) (hu _ q305) (fun _ h9 => h9) rfl dX7_copy_120 ?_
                    refine lv_iload_n hx hb dX7_copy_123 rfl (lv_at hl 1 rfl) ?_
                    refine sa_lit (e := e1 0) hx hb hK hP 2 rfl (k := 1) (by rw [hc84]; decide) rfl dX7_copy_124 ?_
                    refine va_get (D := D) (ci := 5) (v := .ref (n1 0)) (C := RX5) (T := TX5) (N := 3) hx hb hu inX5 hown hK.1 hP 5 rfl rfl 2 (by decide) (hu _ q291) (fun _ h9 => h9) rfl dX7_copy_125 ?_
                    refine lv_iload_n hx hb dX7_copy_128 rfl (lv_at hl 2 rfl) ?_
                    refine lv_aload_n hx hb dX7_copy_129 rfl (lv_at hl 0 rfl) ?_
                    refine va_get (D := D) (ci := 7) (v := .ref (sa 0)) (C := RX7) (T := TX7) (N := 8) hx hb hu inX7 hown hK.1 hP 0 rfl rfl 5 (by decide) (hu _ q305) (fun _ h9 => h9) rfl dX7_copy_130 ?_
                    refine lv_iload_n hx hb dX7_copy_133 rfl (lv_at hl 3 rfl) ?_
                    refine sa_lit (e := e2 0) hx hb hK hP 2 rfl (k := 2) (by rw [hc120]; decide) rfl dX7_copy_134 ?_
                    refine va_get (D := D) (ci := 5) (v := .ref (n2 0)) (C := RX5) (T := TX5) (N := 3) hx hb hu inX5 hown hK.1 hP 7 rfl rfl 2 (by decide) (hu _ q291) (fun _ h9 => h9) rfl dX7_copy_135 ?_
                    refine lv_iload hx hb dX7_copy_138 (lv_at hl 4 rfl) ?_
                    refine lv_iload hx hb dX7_copy_140 (lv_at hl 5 rfl) ?_
                    obtain ⟨hq132, hf⟩ := cp_el hf
                    obtain ⟨N2_131, hN2_131, hf⟩ := lt_el hf
                    refine va_copyl hx hb (hml.trans hl.1.symm) hown (hu _ q874) (hu _ q431) (hu _ q430) (hu _ q63) hK.1 hP hD hS 6 8 1 1 rfl rfl rfl rfl rfl hq132.1 hq132.2.1 hq132.2.2.1 hq132.2.2.2.1 hq132.2.2.2.2 (fun _ _ => rfl) (Nat.le_of_ble_eq_true rfl) (Nat.le_of_ble_eq_true rfl) dX7_copy_142 (fun H locs hP hD hS => ?_)
                    have hP : va_P D vwCl ((kX7 cs x (.ref (g 0)) (.ref (g2 0)) (.ref (g3 0)) (.ref (h 0)) (.ref (t 0)) (.ref (sa 0)) Ma) ++ (kSA cs sa (e0 0) (e1 0) (e2 0) (e3 0)) ++ (kX5 cs e0 (.ref (n0 0)) G0) ++ (kJ40 cs n0 N0) ++ (kX5 cs e1 (.ref (n1 0)) G1) ++ (kJ40 cs n1 N1) ++ (kX5 cs e2 (.ref (n2 0)) G2) ++ (kJ40 cs n2 N2_131) ++ (kX5 cs e3 (.ref (n3 0)) G3) ++ (kJ40 cs n3 N3)) H := by rw [hN2_131]; exact hP
                    have hD : va_D A ((kX7 cs x (.ref (g 0)) (.ref (g2 0)) (.ref (g3 0)) (.ref (h 0)) (.ref (t 0)) (.ref (sa 0)) Ma) ++ (kSA cs sa (e0 0) (e1 0) (e2 0) (e3 0)) ++ (kX5 cs e0 (.ref (n0 0)) G0) ++ (kJ40 cs n0 N0) ++ (kX5 cs e1 (.ref (n1 0)) G1) ++ (kJ40 cs n1 N1) ++ (kX5 cs e2 (.ref (n2 0)) G2) ++ (kJ40 cs n2 N2_131) ++ (kX5 cs e3 (.ref (n3 0)) G3) ++ (kJ40 cs n3 N3)) := by rw [hN2_131]; exact hD
                    refine lv_iload hx hb dX7_copy_145 (lv_at hl 5 rfl) ?_
                    have he := Option.some.inj hf
                    obtain ⟨e0, ht0⟩ := Prod.mk.inj he
                    obtain ⟨e1, ht1⟩ := Prod.mk.inj ht0
                    obtain ⟨e2, ht2⟩ := Prod.mk.inj ht1
                    obtain ⟨e3, ht3⟩ := Prod.mk.inj ht2
                    obtain ⟨e4, e5⟩ := Prod.mk.inj ht3
                    exact hri _ _ _ rfl (congrArg (fun z => some (Value.int z)) e0.symm) dX7_copy_147 _ _ _ (by rw [e1, e2, e3, e4, e5]) hP hD hS
                  · have hf := ip_el hc130 hf
                    exact h112 Ma N0 N1 N2 N3 _ _ _ hP hD hS (lv_sub hl [0] rfl) hf
              · have hf := in_el hc124 hf
                refine lv_aload_n hx hb dX7_copy_74 rfl (lv_at hl 0 rfl) ?_
                refine lv_ldc (v := (-1000000003)) hx hb hown (hu _ q465) dX7_copy_75 ?_
                obtain ⟨r133, Ma_134, hg135, hf⟩ := b2_el hf
                refine cc_V (w' := ((kX7 cs x (.ref (g 0)) (.ref (g2 0)) (.ref (g3 0)) (.ref (h 0)) (.ref (t 0)) (.ref (sa 0)) Ma_134) ++ (kSA cs sa (e0 0) (e1 0) (e2 0) (e3 0)) ++ (kX5 cs e0 (.ref (n0 0)) G0) ++ (kJ40 cs n0 N0) ++ (kX5 cs e1 (.ref (n1 0)) G1) ++ (kJ40 cs n1 N1) ++ (kX5 cs e2 (.ref (n2 0)) G2) ++ (kJ40 cs n2 N2) ++ (kX5 cs e3 (.ref (n3 0)) G3) ++ (kJ40 cs n3 N3))) (wr := ((kSA cs sa (e0 0) (e1 0) (e2 0) (e3 0)) ++ (kX5 cs e0 (.ref (n0 0)) G0) ++ (kJ40 cs n0 N0) ++ (kX5 cs e1 (.ref (n1 0)) G1) ++ (kJ40 cs n1 N1) ++ (kX5 cs e2 (.ref (n2 0)) G2) ++ (kJ40 cs n2 N2) ++ (kX5 cs e3 (.ref (n3 0)) G3) ++ (kJ40 cs n3 N3))) (st1 := [.int r133]) [.int (-1000000003)] hx hb hml hown hu (tX7_finding l D cs x g g2 g3 h t sa (-1000000003) Ma r133 Ma_134 hg135) q339 q54 q336 q338 q0 pdX7_finding ⟨rfl, rfl, Nat.le_of_ble_eq_true rfl, Nat.le_of_ble_eq_true rfl⟩ hK hZ hP hD hS hA [0, 1] [2, 3, 4, 5, 6, 7, 8, 9, 10] [9, 10, 0, 1, 2, 3, 4, 5, 6, 7, 8] rfl rfl rfl rfl rfl rfl rfl rfl rfl rfl hl.1 rfl (Nat.le_of_ble_eq_true rfl) dX7_copy_77 rfl (fun H locs hP hD hS => ?_)
                have he := Option.some.inj hf
                obtain ⟨e0, ht0⟩ := Prod.mk.inj he
                obtain ⟨e1, ht1⟩ := Prod.mk.inj ht0
                obtain ⟨e2, ht2⟩ := Prod.mk.inj ht1
                obtain ⟨e3, ht3⟩ := Prod.mk.inj ht2
                obtain ⟨e4, e5⟩ := Prod.mk.inj ht3
                exact hri _ _ _ rfl (congrArg (fun z => some (Value.int z)) e0.symm) dX7_copy_80 _ _ _ (by rw [e1, e2, e3, e4, e5]) hP hD hS
            · have hf := in_el hc123 hf
              exact h45 Ma N0 N1 N2 N3 _ _ _ hP hD hS (lv_sub hl [0] rfl) hf
          have hf := in_el hc120 hf
          by_cases hc136 : x3 = 3
          · have hf := ip_el hc136 hf
            refine sa_lit (e := e3 0) hx hb hK hP 2 rfl (k := 3) (by rw [hc136]; decide) rfl dX7_copy_38 ?_
            obtain ⟨r137, hg138, hf⟩ := b1_el hf
            refine cc_V (w' := ((kX7 cs x (.ref (g 0)) (.ref (g2 0)) (.ref (g3 0)) (.ref (h 0)) (.ref (t 0)) (.ref (sa 0)) Ma) ++ (kSA cs sa (e0 0) (e1 0) (e2 0) (e3 0)) ++ (kX5 cs e0 (.ref (n0 0)) G0) ++ (kJ40 cs n0 N0) ++ (kX5 cs e1 (.ref (n1 0)) G1) ++ (kJ40 cs n1 N1) ++ (kX5 cs e2 (.ref (n2 0)) G2) ++ (kJ40 cs n2 N2) ++ (kX5 cs e3 (.ref (n3 0)) G3) ++ (kJ40 cs n3 N3))) (wr := ((kX7 cs x (.ref (g 0)) (.ref (g2 0)) (.ref (g3 0)) (.ref (h 0)) (.ref (t 0)) (.ref (sa 0)) Ma) ++ (kSA cs sa (e0 0) (e1 0) (e2 0) (e3 0)) ++ (kX5 cs e0 (.ref (n0 0)) G0) ++ (kJ40 cs n0 N0) ++ (kX5 cs e1 (.ref (n1 0)) G1) ++ (kJ40 cs n1 N1) ++ (kX5 cs e2 (.ref (n2 0)) G2) ++ (kJ40 cs n2 N2) ++ (kJ40 cs n3 N3))) (st1 := [.int r137]) [] hx hb hml hown hu (tX5_isMissing l D cs e3 n3 G3 r137 hg138) q860 q61 q857 q858 q859 pdX5_isMissing ⟨rfl, rfl, Nat.le_of_ble_eq_true rfl, Nat.le_of_ble_eq_true rfl⟩ hK hZ hP hD hS hA [9] [0, 1, 2, 3, 4, 5, 6, 7, 8, 10] [0, 1, 2, 3, 4, 5, 6, 7, 8, 10, 9] rfl rfl rfl rfl rfl rfl rfl rfl rfl rfl hl.1 rfl (Nat.le_of_ble_eq_true rfl) dX7_copy_39 rfl (fun H locs hP hD hS => ?_)
            refine lv_if_eq (tgt := 53) hx hb dX7_copy_42 (by decide) (fun hc139 => ?_) (fun hc139 => ?_)
            · have hf := ip_el hc139 hf
              refine lv_aload_n hx hb dX7_copy_53 rfl (lv_at hl 0 rfl) ?_
              refine va_get (D := D) (ci := 7) (v := .ref (sa 0)) (C := RX7) (T := TX7) (N := 8) hx hb hu inX7 hown hK.1 hP 0 rfl rfl 5 (by decide) (hu _ q305) (fun _ h9 => h9) rfl dX7_copy_54 ?_
              refine lv_iload_n hx hb dX7_copy_57 rfl (lv_at hl 1 rfl) ?_
              refine sa_lit (e := e1 0) hx hb hK hP 2 rfl (k := 1) (by rw [hc84]; decide) rfl dX7_copy_58 ?_
              refine va_get (D := D) (ci := 5) (v := .int (G1 0 0)) (C := RX5) (T := TX5) (N := 3) hx hb hu inX5 hown hK.1 hP 5 rfl rfl 0 (by decide) (hu _ q287) (fun _ h9 => h9) rfl dX7_copy_59 ?_
              refine lv_aload_n hx hb dX7_copy_62 rfl (lv_at hl 0 rfl) ?_
              refine va_get (D := D) (ci := 7) (v := .ref (sa 0)) (C := RX7) (T := TX7) (N := 8) hx hb hu inX7 hown hK.1 hP 0 rfl rfl 5 (by decide) (hu _ q305) (fun _ h9 => h9) rfl dX7_copy_63 ?_
              refine lv_iload_n hx hb dX7_copy_66 rfl (lv_at hl 3 rfl) ?_
              refine sa_lit (e := e3 0) hx hb hK hP 2 rfl (k := 3) (by rw [hc136]; decide) rfl dX7_copy_67 ?_
              refine va_get (D := D) (ci := 5) (v := .int (G3 0 0)) (C := RX5) (T := TX5) (N := 3) hx hb hu inX5 hown hK.1 hP 9 rfl rfl 0 (by decide) (hu _ q287) (fun _ h9 => h9) rfl dX7_copy_68 ?_
              refine lv_icmp_eq (tgt := 81) hx hb dX7_copy_71 (by decide) (fun hc140 => ?_) (fun hc140 => ?_)
              · have hf := ip_el hc140 hf
                refine lv_aload_n hx hb dX7_copy_81 rfl (lv_at hl 0 rfl) ?_
                refine va_get (D := D) (ci := 7) (v := .ref (sa 0)) (C := RX7) (T := TX7) (N := 8) hx hb hu inX7 hown hK.1 hP 0 rfl rfl 5 (by decide) (hu _ q305) (fun _ h9 => h9) rfl dX7_copy_82 ?_
                refine lv_iload_n hx hb dX7_copy_85 rfl (lv_at hl 1 rfl) ?_
                refine sa_lit (e := e1 0) hx hb hK hP 2 rfl (k := 1) (by rw [hc84]; decide) rfl dX7_copy_86 ?_
                refine lv_iload_n hx hb dX7_copy_87 rfl (lv_at hl 2 rfl) ?_
                refine lv_iload hx hb dX7_copy_88 (lv_at hl 5 rfl) ?_
                obtain ⟨r141, hg142, hf⟩ := b1_el hf
                refine cc_V (w' := ((kX7 cs x (.ref (g 0)) (.ref (g2 0)) (.ref (g3 0)) (.ref (h 0)) (.ref (t 0)) (.ref (sa 0)) Ma) ++ (kSA cs sa (e0 0) (e1 0) (e2 0) (e3 0)) ++ (kX5 cs e0 (.ref (n0 0)) G0) ++ (kJ40 cs n0 N0) ++ (kX5 cs e1 (.ref (n1 0)) G1) ++ (kJ40 cs n1 N1) ++ (kX5 cs e2 (.ref (n2 0)) G2) ++ (kJ40 cs n2 N2) ++ (kX5 cs e3 (.ref (n3 0)) G3) ++ (kJ40 cs n3 N3))) (wr := ((kX7 cs x (.ref (g 0)) (.ref (g2 0)) (.ref (g3 0)) (.ref (h 0)) (.ref (t 0)) (.ref (sa 0)) Ma) ++ (kSA cs sa (e0 0) (e1 0) (e2 0) (e3 0)) ++ (kX5 cs e0 (.ref (n0 0)) G0) ++ (kJ40 cs n0 N0) ++ (kJ40 cs n1 N1) ++ (kX5 cs e2 (.ref (n2 0)) G2) ++ (kJ40 cs n2 N2) ++ (kX5 cs e3 (.ref (n3 0)) G3) ++ (kJ40 cs n3 N3))) (st1 := [.int r141]) [.int x2, .int x5] hx hb hml hown hu (tX5_holds l D cs e1 n1 x2 x5 G1 r141 hg142) q873 q61 q870 q871 q872 pdX5_holds ⟨rfl, rfl, Nat.le_of_ble_eq_true rfl, Nat.le_of_ble_eq_true rfl⟩ hK hZ hP hD hS hA [5] [0, 1, 2, 3, 4, 6, 7, 8, 9, 10] [0, 1, 2, 3, 4, 10, 5, 6, 7, 8, 9] rfl rfl rfl rfl rfl rfl rfl rfl rfl rfl hl.1 rfl (Nat.le_of_ble_eq_true rfl) dX7_copy_90 rfl (fun H locs hP hD hS => ?_)
                refine lv_if_eq (tgt := 112) hx hb dX7_copy_93 (by decide) (fun hc143 => ?_) (fun hc143 => ?_)
                · have hf := ip_el hc143 hf
                  exact h112 Ma N0 N1 N2 N3 _ _ _ hP hD hS (lv_sub hl [0] rfl) hf
                · have hf := in_el hc143 hf
                  refine lv_aload_n hx hb dX7_copy_96 rfl (lv_at hl 0 rfl) ?_
                  refine va_get (D := D) (ci := 7) (v := .ref (sa 0)) (C := RX7) (T := TX7) (N := 8) hx hb hu inX7 hown hK.1 hP 0 rfl rfl 5 (by decide) (hu _ q305) (fun _ h9 => h9) rfl dX7_copy_97 ?_
                  refine lv_iload_n hx hb dX7_copy_100 rfl (lv_at hl 3 rfl) ?_
                  refine sa_lit (e := e3 0) hx hb hK hP 2 rfl (k := 3) (by rw [hc136]; decide) rfl dX7_copy_101 ?_
                  refine lv_iload hx hb dX7_copy_102 (lv_at hl 4 rfl) ?_
                  refine lv_iload hx hb dX7_copy_104 (lv_at hl 5 rfl) ?_
                  obtain ⟨r144, hg145, hf⟩ := b1_el hf
                  refine cc_V (w' := ((kX7 cs x (.ref (g 0)) (.ref (g2 0)) (.ref (g3 0)) (.ref (h 0)) (.ref (t 0)) (.ref (sa 0)) Ma) ++ (kSA cs sa (e0 0) (e1 0) (e2 0) (e3 0)) ++ (kX5 cs e0 (.ref (n0 0)) G0) ++ (kJ40 cs n0 N0) ++ (kX5 cs e1 (.ref (n1 0)) G1) ++ (kJ40 cs n1 N1) ++ (kX5 cs e2 (.ref (n2 0)) G2) ++ (kJ40 cs n2 N2) ++ (kX5 cs e3 (.ref (n3 0)) G3) ++ (kJ40 cs n3 N3))) (wr := ((kX7 cs x (.ref (g 0)) (.ref (g2 0)) (.ref (g3 0)) (.ref (h 0)) (.ref (t 0)) (.ref (sa 0)) Ma) ++ (kSA cs sa (e0 0) (e1 0) (e2 0) (e3 0)) ++ (kX5 cs e0 (.ref (n0 0)) G0) ++ (kJ40 cs n0 N0) ++ (kX5 cs e1 (.ref (n1 0)) G1) ++ (kJ40 cs n1 N1) ++ (kX5 cs e2 (.ref (n2 0)) G2) ++ (kJ40 cs n2 N2) ++ (kJ40 cs n3 N3))) (st1 := [.int r144]) [.int x4, .int x5] hx hb hml hown hu (tX5_holds l D cs e3 n3 x4 x5 G3 r144 hg145) q873 q61 q870 q871 q872 pdX5_holds ⟨rfl, rfl, Nat.le_of_ble_eq_true rfl, Nat.le_of_ble_eq_true rfl⟩ hK hZ hP hD hS hA [9] [0, 1, 2, 3, 4, 5, 6, 7, 8, 10] [0, 1, 2, 3, 4, 5, 6, 7, 8, 10, 9] rfl rfl rfl rfl rfl rfl rfl rfl rfl rfl hl.1 rfl (Nat.le_of_ble_eq_true rfl) dX7_copy_106 rfl (fun H locs hP hD hS => ?_)
                  refine lv_if_ne (tgt := 119) hx hb dX7_copy_109 (by decide) (fun hc146 => ?_) (fun hc146 => ?_)
                  · have hf := in_el hc146 hf
                    refine lv_aload_n hx hb dX7_copy_119 rfl (lv_at hl 0 rfl) ?_
                    refine va_get (D := D) (ci := 7) (v := .ref (sa 0)) (C := RX7) (T := TX7) (N := 8) hx hb hu inX7 hown hK.1 hP 0 rfl rfl 5 (by decide) (hu _ q305) (fun _ h9 => h9) rfl dX7_copy_120 ?_
                    refine lv_iload_n hx hb dX7_copy_123 rfl (lv_at hl 1 rfl) ?_
                    refine sa_lit (e := e1 0) hx hb hK hP 2 rfl (k := 1) (by rw [hc84]; decide) rfl dX7_copy_124 ?_
                    refine va_get (D := D) (ci := 5) (v := .ref (n1 0)) (C := RX5) (T := TX5) (N := 3) hx hb hu inX5 hown hK.1 hP 5 rfl rfl 2 (by decide) (hu _ q291) (fun _ h9 => h9) rfl dX7_copy_125 ?_
                    refine lv_iload_n hx hb dX7_copy_128 rfl (lv_at hl 2 rfl) ?_
                    refine lv_aload_n hx hb dX7_copy_129 rfl (lv_at hl 0 rfl) ?_
                    refine va_get (D := D) (ci := 7) (v := .ref (sa 0)) (C := RX7) (T := TX7) (N := 8) hx hb hu inX7 hown hK.1 hP 0 rfl rfl 5 (by decide) (hu _ q305) (fun _ h9 => h9) rfl dX7_copy_130 ?_
                    refine lv_iload_n hx hb dX7_copy_133 rfl (lv_at hl 3 rfl) ?_
                    refine sa_lit (e := e3 0) hx hb hK hP 2 rfl (k := 3) (by rw [hc136]; decide) rfl dX7_copy_134 ?_
                    refine va_get (D := D) (ci := 5) (v := .ref (n3 0)) (C := RX5) (T := TX5) (N := 3) hx hb hu inX5 hown hK.1 hP 9 rfl rfl 2 (by decide) (hu _ q291) (fun _ h9 => h9) rfl dX7_copy_135 ?_
                    refine lv_iload hx hb dX7_copy_138 (lv_at hl 4 rfl) ?_
                    refine lv_iload hx hb dX7_copy_140 (lv_at hl 5 rfl) ?_
                    obtain ⟨hq148, hf⟩ := cp_el hf
                    obtain ⟨N3_147, hN3_147, hf⟩ := lt_el hf
                    refine va_copyl hx hb (hml.trans hl.1.symm) hown (hu _ q874) (hu _ q431) (hu _ q430) (hu _ q63) hK.1 hP hD hS 6 10 1 1 rfl rfl rfl rfl rfl hq148.1 hq148.2.1 hq148.2.2.1 hq148.2.2.2.1 hq148.2.2.2.2 (fun _ _ => rfl) (Nat.le_of_ble_eq_true rfl) (Nat.le_of_ble_eq_true rfl) dX7_copy_142 (fun H locs hP hD hS => ?_)
                    have hP : va_P D vwCl ((kX7 cs x (.ref (g 0)) (.ref (g2 0)) (.ref (g3 0)) (.ref (h 0)) (.ref (t 0)) (.ref (sa 0)) Ma) ++ (kSA cs sa (e0 0) (e1 0) (e2 0) (e3 0)) ++ (kX5 cs e0 (.ref (n0 0)) G0) ++ (kJ40 cs n0 N0) ++ (kX5 cs e1 (.ref (n1 0)) G1) ++ (kJ40 cs n1 N1) ++ (kX5 cs e2 (.ref (n2 0)) G2) ++ (kJ40 cs n2 N2) ++ (kX5 cs e3 (.ref (n3 0)) G3) ++ (kJ40 cs n3 N3_147)) H := by rw [hN3_147]; exact hP
                    have hD : va_D A ((kX7 cs x (.ref (g 0)) (.ref (g2 0)) (.ref (g3 0)) (.ref (h 0)) (.ref (t 0)) (.ref (sa 0)) Ma) ++ (kSA cs sa (e0 0) (e1 0) (e2 0) (e3 0)) ++ (kX5 cs e0 (.ref (n0 0)) G0) ++ (kJ40 cs n0 N0) ++ (kX5 cs e1 (.ref (n1 0)) G1) ++ (kJ40 cs n1 N1) ++ (kX5 cs e2 (.ref (n2 0)) G2) ++ (kJ40 cs n2 N2) ++ (kX5 cs e3 (.ref (n3 0)) G3) ++ (kJ40 cs n3 N3_147)) := by rw [hN3_147]; exact hD
                    refine lv_iload hx hb dX7_copy_145 (lv_at hl 5 rfl) ?_
                    have he := Option.some.inj hf
                    obtain ⟨e0, ht0⟩ := Prod.mk.inj he
                    obtain ⟨e1, ht1⟩ := Prod.mk.inj ht0
                    obtain ⟨e2, ht2⟩ := Prod.mk.inj ht1
                    obtain ⟨e3, ht3⟩ := Prod.mk.inj ht2
                    obtain ⟨e4, e5⟩ := Prod.mk.inj ht3
                    exact hri _ _ _ rfl (congrArg (fun z => some (Value.int z)) e0.symm) dX7_copy_147 _ _ _ (by rw [e1, e2, e3, e4, e5]) hP hD hS
                  · have hf := ip_el hc146 hf
                    exact h112 Ma N0 N1 N2 N3 _ _ _ hP hD hS (lv_sub hl [0] rfl) hf
              · have hf := in_el hc140 hf
                refine lv_aload_n hx hb dX7_copy_74 rfl (lv_at hl 0 rfl) ?_
                refine lv_ldc (v := (-1000000003)) hx hb hown (hu _ q465) dX7_copy_75 ?_
                obtain ⟨r149, Ma_150, hg151, hf⟩ := b2_el hf
                refine cc_V (w' := ((kX7 cs x (.ref (g 0)) (.ref (g2 0)) (.ref (g3 0)) (.ref (h 0)) (.ref (t 0)) (.ref (sa 0)) Ma_150) ++ (kSA cs sa (e0 0) (e1 0) (e2 0) (e3 0)) ++ (kX5 cs e0 (.ref (n0 0)) G0) ++ (kJ40 cs n0 N0) ++ (kX5 cs e1 (.ref (n1 0)) G1) ++ (kJ40 cs n1 N1) ++ (kX5 cs e2 (.ref (n2 0)) G2) ++ (kJ40 cs n2 N2) ++ (kX5 cs e3 (.ref (n3 0)) G3) ++ (kJ40 cs n3 N3))) (wr := ((kSA cs sa (e0 0) (e1 0) (e2 0) (e3 0)) ++ (kX5 cs e0 (.ref (n0 0)) G0) ++ (kJ40 cs n0 N0) ++ (kX5 cs e1 (.ref (n1 0)) G1) ++ (kJ40 cs n1 N1) ++ (kX5 cs e2 (.ref (n2 0)) G2) ++ (kJ40 cs n2 N2) ++ (kX5 cs e3 (.ref (n3 0)) G3) ++ (kJ40 cs n3 N3))) (st1 := [.int r149]) [.int (-1000000003)] hx hb hml hown hu (tX7_finding l D cs x g g2 g3 h t sa (-1000000003) Ma r149 Ma_150 hg151) q339 q54 q336 q338 q0 pdX7_finding ⟨rfl, rfl, Nat.le_of_ble_eq_true rfl, Nat.le_of_ble_eq_true rfl⟩ hK hZ hP hD hS hA [0, 1] [2, 3, 4, 5, 6, 7, 8, 9, 10] [9, 10, 0, 1, 2, 3, 4, 5, 6, 7, 8] rfl rfl rfl rfl rfl rfl rfl rfl rfl rfl hl.1 rfl (Nat.le_of_ble_eq_true rfl) dX7_copy_77 rfl (fun H locs hP hD hS => ?_)
                have he := Option.some.inj hf
                obtain ⟨e0, ht0⟩ := Prod.mk.inj he
                obtain ⟨e1, ht1⟩ := Prod.mk.inj ht0
                obtain ⟨e2, ht2⟩ := Prod.mk.inj ht1
                obtain ⟨e3, ht3⟩ := Prod.mk.inj ht2
                obtain ⟨e4, e5⟩ := Prod.mk.inj ht3
                exact hri _ _ _ rfl (congrArg (fun z => some (Value.int z)) e0.symm) dX7_copy_80 _ _ _ (by rw [e1, e2, e3, e4, e5]) hP hD hS
            · have hf := in_el hc139 hf
              exact h45 Ma N0 N1 N2 N3 _ _ _ hP hD hS (lv_sub hl [0] rfl) hf
          have hf := in_el hc136 hf
          exact no_el hf
      have hf := in_el hc84 hf
      by_cases hc152 : x1 = 2
      · have hf := ip_el hc152 hf
        refine sa_lit (e := e2 0) hx hb hK hP 2 rfl (k := 2) (by rw [hc152]; decide) rfl dX7_copy_26 ?_
        obtain ⟨r153, hg154, hf⟩ := b1_el hf
        refine cc_V (w' := ((kX7 cs x (.ref (g 0)) (.ref (g2 0)) (.ref (g3 0)) (.ref (h 0)) (.ref (t 0)) (.ref (sa 0)) Ma) ++ (kSA cs sa (e0 0) (e1 0) (e2 0) (e3 0)) ++ (kX5 cs e0 (.ref (n0 0)) G0) ++ (kJ40 cs n0 N0) ++ (kX5 cs e1 (.ref (n1 0)) G1) ++ (kJ40 cs n1 N1) ++ (kX5 cs e2 (.ref (n2 0)) G2) ++ (kJ40 cs n2 N2) ++ (kX5 cs e3 (.ref (n3 0)) G3) ++ (kJ40 cs n3 N3))) (wr := ((kX7 cs x (.ref (g 0)) (.ref (g2 0)) (.ref (g3 0)) (.ref (h 0)) (.ref (t 0)) (.ref (sa 0)) Ma) ++ (kSA cs sa (e0 0) (e1 0) (e2 0) (e3 0)) ++ (kX5 cs e0 (.ref (n0 0)) G0) ++ (kJ40 cs n0 N0) ++ (kX5 cs e1 (.ref (n1 0)) G1) ++ (kJ40 cs n1 N1) ++ (kJ40 cs n2 N2) ++ (kX5 cs e3 (.ref (n3 0)) G3) ++ (kJ40 cs n3 N3))) (st1 := [.int r153]) [] hx hb hml hown hu (tX5_isMissing l D cs e2 n2 G2 r153 hg154) q860 q61 q857 q858 q859 pdX5_isMissing ⟨rfl, rfl, Nat.le_of_ble_eq_true rfl, Nat.le_of_ble_eq_true rfl⟩ hK hZ hP hD hS hA [7] [0, 1, 2, 3, 4, 5, 6, 8, 9, 10] [0, 1, 2, 3, 4, 5, 6, 10, 7, 8, 9] rfl rfl rfl rfl rfl rfl rfl rfl rfl rfl hl.1 rfl (Nat.le_of_ble_eq_true rfl) dX7_copy_27 rfl (fun H locs hP hD hS => ?_)
        refine lv_if_ne (tgt := 45) hx hb dX7_copy_30 (by decide) (fun hc155 => ?_) (fun hc155 => ?_)
        · have hf := in_el hc155 hf
          exact h45 Ma N0 N1 N2 N3 _ _ _ hP hD hS (lv_sub hl [0] rfl) hf
        · have hf := ip_el hc155 hf
          refine lv_aload_n hx hb dX7_copy_33 rfl (lv_at hl 0 rfl) ?_
          refine va_get (D := D) (ci := 7) (v := .ref (sa 0)) (C := RX7) (T := TX7) (N := 8) hx hb hu inX7 hown hK.1 hP 0 rfl rfl 5 (by decide) (hu _ q305) (fun _ h9 => h9) rfl dX7_copy_34 ?_
          refine lv_iload_n hx hb dX7_copy_37 rfl (lv_at hl 3 rfl) ?_
          by_cases hc156 : x3 = 0
          · have hf := ip_el hc156 hf
            refine sa_lit (e := e0 0) hx hb hK hP 2 rfl (k := 0) (by rw [hc156]; decide) rfl dX7_copy_38 ?_
            obtain ⟨r157, hg158, hf⟩ := b1_el hf
            refine cc_V (w' := ((kX7 cs x (.ref (g 0)) (.ref (g2 0)) (.ref (g3 0)) (.ref (h 0)) (.ref (t 0)) (.ref (sa 0)) Ma) ++ (kSA cs sa (e0 0) (e1 0) (e2 0) (e3 0)) ++ (kX5 cs e0 (.ref (n0 0)) G0) ++ (kJ40 cs n0 N0) ++ (kX5 cs e1 (.ref (n1 0)) G1) ++ (kJ40 cs n1 N1) ++ (kX5 cs e2 (.ref (n2 0)) G2) ++ (kJ40 cs n2 N2) ++ (kX5 cs e3 (.ref (n3 0)) G3) ++ (kJ40 cs n3 N3))) (wr := ((kX7 cs x (.ref (g 0)) (.ref (g2 0)) (.ref (g3 0)) (.ref (h 0)) (.ref (t 0)) (.ref (sa 0)) Ma) ++ (kSA cs sa (e0 0) (e1 0) (e2 0) (e3 0)) ++ (kJ40 cs n0 N0) ++ (kX5 cs e1 (.ref (n1 0)) G1) ++ (kJ40 cs n1 N1) ++ (kX5 cs e2 (.ref (n2 0)) G2) ++ (kJ40 cs n2 N2) ++ (kX5 cs e3 (.ref (n3 0)) G3) ++ (kJ40 cs n3 N3))) (st1 := [.int r157]) [] hx hb hml hown hu (tX5_isMissing l D cs e0 n0 G0 r157 hg158) q860 q61 q857 q858 q859 pdX5_isMissing ⟨rfl, rfl, Nat.le_of_ble_eq_true rfl, Nat.le_of_ble_eq_true rfl⟩ hK hZ hP hD hS hA [3] [0, 1, 2, 4, 5, 6, 7, 8, 9, 10] [0, 1, 2, 10, 3, 4, 5, 6, 7, 8, 9] rfl rfl rfl rfl rfl rfl rfl rfl rfl rfl hl.1 rfl (Nat.le_of_ble_eq_true rfl) dX7_copy_39 rfl (fun H locs hP hD hS => ?_)
            refine lv_if_eq (tgt := 53) hx hb dX7_copy_42 (by decide) (fun hc159 => ?_) (fun hc159 => ?_)
            · have hf := ip_el hc159 hf
              refine lv_aload_n hx hb dX7_copy_53 rfl (lv_at hl 0 rfl) ?_
              refine va_get (D := D) (ci := 7) (v := .ref (sa 0)) (C := RX7) (T := TX7) (N := 8) hx hb hu inX7 hown hK.1 hP 0 rfl rfl 5 (by decide) (hu _ q305) (fun _ h9 => h9) rfl dX7_copy_54 ?_
              refine lv_iload_n hx hb dX7_copy_57 rfl (lv_at hl 1 rfl) ?_
              refine sa_lit (e := e2 0) hx hb hK hP 2 rfl (k := 2) (by rw [hc152]; decide) rfl dX7_copy_58 ?_
              refine va_get (D := D) (ci := 5) (v := .int (G2 0 0)) (C := RX5) (T := TX5) (N := 3) hx hb hu inX5 hown hK.1 hP 7 rfl rfl 0 (by decide) (hu _ q287) (fun _ h9 => h9) rfl dX7_copy_59 ?_
              refine lv_aload_n hx hb dX7_copy_62 rfl (lv_at hl 0 rfl) ?_
              refine va_get (D := D) (ci := 7) (v := .ref (sa 0)) (C := RX7) (T := TX7) (N := 8) hx hb hu inX7 hown hK.1 hP 0 rfl rfl 5 (by decide) (hu _ q305) (fun _ h9 => h9) rfl dX7_copy_63 ?_
              refine lv_iload_n hx hb dX7_copy_66 rfl (lv_at hl 3 rfl) ?_
              refine sa_lit (e := e0 0) hx hb hK hP 2 rfl (k := 0) (by rw [hc156]; decide) rfl dX7_copy_67 ?_
              refine va_get (D := D) (ci := 5) (v := .int (G0 0 0)) (C := RX5) (T := TX5) (N := 3) hx hb hu inX5 hown hK.1 hP 3 rfl rfl 0 (by decide) (hu _ q287) (fun _ h9 => h9) rfl dX7_copy_68 ?_
              refine lv_icmp_eq (tgt := 81) hx hb dX7_copy_71 (by decide) (fun hc160 => ?_) (fun hc160 => ?_)
              · have hf := ip_el hc160 hf
                refine lv_aload_n hx hb dX7_copy_81 rfl (lv_at hl 0 rfl) ?_
                refine va_get (D := D) (ci := 7) (v := .ref (sa 0)) (C := RX7) (T := TX7) (N := 8) hx hb hu inX7 hown hK.1 hP 0 rfl rfl 5 (by decide) (hu _ q305) (fun _ h9 => h9) rfl dX7_copy_82 ?_
                refine lv_iload_n hx hb dX7_copy_85 rfl (lv_at hl 1 rfl) ?_
                refine sa_lit (e := e2 0) hx hb hK hP 2 rfl (k := 2) (by rw [hc152]; decide) rfl dX7_copy_86 ?_
                refine lv_iload_n hx hb dX7_copy_87 rfl (lv_at hl 2 rfl) ?_
                refine lv_iload hx hb dX7_copy_88 (lv_at hl 5 rfl) ?_
                obtain ⟨r161, hg162, hf⟩ := b1_el hf
                refine cc_V (w' := ((kX7 cs x (.ref (g 0)) (.ref (g2 0)) (.ref (g3 0)) (.ref (h 0)) (.ref (t 0)) (.ref (sa 0)) Ma) ++ (kSA cs sa (e0 0) (e1 0) (e2 0) (e3 0)) ++ (kX5 cs e0 (.ref (n0 0)) G0) ++ (kJ40 cs n0 N0) ++ (kX5 cs e1 (.ref (n1 0)) G1) ++ (kJ40 cs n1 N1) ++ (kX5 cs e2 (.ref (n2 0)) G2) ++ (kJ40 cs n2 N2) ++ (kX5 cs e3 (.ref (n3 0)) G3) ++ (kJ40 cs n3 N3))) (wr := ((kX7 cs x (.ref (g 0)) (.ref (g2 0)) (.ref (g3 0)) (.ref (h 0)) (.ref (t 0)) (.ref (sa 0)) Ma) ++ (kSA cs sa (e0 0) (e1 0) (e2 0) (e3 0)) ++ (kX5 cs e0 (.ref (n0 0)) G0) ++ (kJ40 cs n0 N0) ++ (kX5 cs e1 (.ref (n1 0)) G1) ++ (kJ40 cs n1 N1) ++ (kJ40 cs n2 N2) ++ (kX5 cs e3 (.ref (n3 0)) G3) ++ (kJ40 cs n3 N3))) (st1 := [.int r161]) [.int x2, .int x5] hx hb hml hown hu (tX5_holds l D cs e2 n2 x2 x5 G2 r161 hg162) q873 q61 q870 q871 q872 pdX5_holds ⟨rfl, rfl, Nat.le_of_ble_eq_true rfl, Nat.le_of_ble_eq_true rfl⟩ hK hZ hP hD hS hA [7] [0, 1, 2, 3, 4, 5, 6, 8, 9, 10] [0, 1, 2, 3, 4, 5, 6, 10, 7, 8, 9] rfl rfl rfl rfl rfl rfl rfl rfl rfl rfl hl.1 rfl (Nat.le_of_ble_eq_true rfl) dX7_copy_90 rfl (fun H locs hP hD hS => ?_)
                refine lv_if_eq (tgt := 112) hx hb dX7_copy_93 (by decide) (fun hc163 => ?_) (fun hc163 => ?_)
                · have hf := ip_el hc163 hf
                  exact h112 Ma N0 N1 N2 N3 _ _ _ hP hD hS (lv_sub hl [0] rfl) hf
                · have hf := in_el hc163 hf
                  refine lv_aload_n hx hb dX7_copy_96 rfl (lv_at hl 0 rfl) ?_
                  refine va_get (D := D) (ci := 7) (v := .ref (sa 0)) (C := RX7) (T := TX7) (N := 8) hx hb hu inX7 hown hK.1 hP 0 rfl rfl 5 (by decide) (hu _ q305) (fun _ h9 => h9) rfl dX7_copy_97 ?_
                  refine lv_iload_n hx hb dX7_copy_100 rfl (lv_at hl 3 rfl) ?_
                  refine sa_lit (e := e0 0) hx hb hK hP 2 rfl (k := 0) (by rw [hc156]; decide) rfl dX7_copy_101 ?_
                  refine lv_iload hx hb dX7_copy_102 (lv_at hl 4 rfl) ?_
                  refine lv_iload hx hb dX7_copy_104 (lv_at hl 5 rfl) ?_
                  obtain ⟨r164, hg165, hf⟩ := b1_el hf
                  refine cc_V (w' := ((kX7 cs x (.ref (g 0)) (.ref (g2 0)) (.ref (g3 0)) (.ref (h 0)) (.ref (t 0)) (.ref (sa 0)) Ma) ++ (kSA cs sa (e0 0) (e1 0) (e2 0) (e3 0)) ++ (kX5 cs e0 (.ref (n0 0)) G0) ++ (kJ40 cs n0 N0) ++ (kX5 cs e1 (.ref (n1 0)) G1) ++ (kJ40 cs n1 N1) ++ (kX5 cs e2 (.ref (n2 0)) G2) ++ (kJ40 cs n2 N2) ++ (kX5 cs e3 (.ref (n3 0)) G3) ++ (kJ40 cs n3 N3))) (wr := ((kX7 cs x (.ref (g 0)) (.ref (g2 0)) (.ref (g3 0)) (.ref (h 0)) (.ref (t 0)) (.ref (sa 0)) Ma) ++ (kSA cs sa (e0 0) (e1 0) (e2 0) (e3 0)) ++ (kJ40 cs n0 N0) ++ (kX5 cs e1 (.ref (n1 0)) G1) ++ (kJ40 cs n1 N1) ++ (kX5 cs e2 (.ref (n2 0)) G2) ++ (kJ40 cs n2 N2) ++ (kX5 cs e3 (.ref (n3 0)) G3) ++ (kJ40 cs n3 N3))) (st1 := [.int r164]) [.int x4, .int x5] hx hb hml hown hu (tX5_holds l D cs e0 n0 x4 x5 G0 r164 hg165) q873 q61 q870 q871 q872 pdX5_holds ⟨rfl, rfl, Nat.le_of_ble_eq_true rfl, Nat.le_of_ble_eq_true rfl⟩ hK hZ hP hD hS hA [3] [0, 1, 2, 4, 5, 6, 7, 8, 9, 10] [0, 1, 2, 10, 3, 4, 5, 6, 7, 8, 9] rfl rfl rfl rfl rfl rfl rfl rfl rfl rfl hl.1 rfl (Nat.le_of_ble_eq_true rfl) dX7_copy_106 rfl (fun H locs hP hD hS => ?_)
                  refine lv_if_ne (tgt := 119) hx hb dX7_copy_109 (by decide) (fun hc166 => ?_) (fun hc166 => ?_)
                  · have hf := in_el hc166 hf
                    refine lv_aload_n hx hb dX7_copy_119 rfl (lv_at hl 0 rfl) ?_
                    refine va_get (D := D) (ci := 7) (v := .ref (sa 0)) (C := RX7) (T := TX7) (N := 8) hx hb hu inX7 hown hK.1 hP 0 rfl rfl 5 (by decide) (hu _ q305) (fun _ h9 => h9) rfl dX7_copy_120 ?_
                    refine lv_iload_n hx hb dX7_copy_123 rfl (lv_at hl 1 rfl) ?_
                    refine sa_lit (e := e2 0) hx hb hK hP 2 rfl (k := 2) (by rw [hc152]; decide) rfl dX7_copy_124 ?_
                    refine va_get (D := D) (ci := 5) (v := .ref (n2 0)) (C := RX5) (T := TX5) (N := 3) hx hb hu inX5 hown hK.1 hP 7 rfl rfl 2 (by decide) (hu _ q291) (fun _ h9 => h9) rfl dX7_copy_125 ?_
                    refine lv_iload_n hx hb dX7_copy_128 rfl (lv_at hl 2 rfl) ?_
                    refine lv_aload_n hx hb dX7_copy_129 rfl (lv_at hl 0 rfl) ?_
                    refine va_get (D := D) (ci := 7) (v := .ref (sa 0)) (C := RX7) (T := TX7) (N := 8) hx hb hu inX7 hown hK.1 hP 0 rfl rfl 5 (by decide) (hu _ q305) (fun _ h9 => h9) rfl dX7_copy_130 ?_
                    refine lv_iload_n hx hb dX7_copy_133 rfl (lv_at hl 3 rfl) ?_
                    refine sa_lit (e := e0 0) hx hb hK hP 2 rfl (k := 0) (by rw [hc156]; decide) rfl dX7_copy_134 ?_
                    refine va_get (D := D) (ci := 5) (v := .ref (n0 0)) (C := RX5) (T := TX5) (N := 3) hx hb hu inX5 hown hK.1 hP 3 rfl rfl 2 (by decide) (hu _ q291) (fun _ h9 => h9) rfl dX7_copy_135 ?_
                    refine lv_iload hx hb dX7_copy_138 (lv_at hl 4 rfl) ?_
                    refine lv_iload hx hb dX7_copy_140 (lv_at hl 5 rfl) ?_
                    obtain ⟨hq168, hf⟩ := cp_el hf
                    obtain ⟨N0_167, hN0_167, hf⟩ := lt_el hf
                    refine va_copyl hx hb (hml.trans hl.1.symm) hown (hu _ q874) (hu _ q431) (hu _ q430) (hu _ q63) hK.1 hP hD hS 8 4 1 1 rfl rfl rfl rfl rfl hq168.1 hq168.2.1 hq168.2.2.1 hq168.2.2.2.1 hq168.2.2.2.2 (fun _ _ => rfl) (Nat.le_of_ble_eq_true rfl) (Nat.le_of_ble_eq_true rfl) dX7_copy_142 (fun H locs hP hD hS => ?_)
                    have hP : va_P D vwCl ((kX7 cs x (.ref (g 0)) (.ref (g2 0)) (.ref (g3 0)) (.ref (h 0)) (.ref (t 0)) (.ref (sa 0)) Ma) ++ (kSA cs sa (e0 0) (e1 0) (e2 0) (e3 0)) ++ (kX5 cs e0 (.ref (n0 0)) G0) ++ (kJ40 cs n0 N0_167) ++ (kX5 cs e1 (.ref (n1 0)) G1) ++ (kJ40 cs n1 N1) ++ (kX5 cs e2 (.ref (n2 0)) G2) ++ (kJ40 cs n2 N2) ++ (kX5 cs e3 (.ref (n3 0)) G3) ++ (kJ40 cs n3 N3)) H := by rw [hN0_167]; exact hP
                    have hD : va_D A ((kX7 cs x (.ref (g 0)) (.ref (g2 0)) (.ref (g3 0)) (.ref (h 0)) (.ref (t 0)) (.ref (sa 0)) Ma) ++ (kSA cs sa (e0 0) (e1 0) (e2 0) (e3 0)) ++ (kX5 cs e0 (.ref (n0 0)) G0) ++ (kJ40 cs n0 N0_167) ++ (kX5 cs e1 (.ref (n1 0)) G1) ++ (kJ40 cs n1 N1) ++ (kX5 cs e2 (.ref (n2 0)) G2) ++ (kJ40 cs n2 N2) ++ (kX5 cs e3 (.ref (n3 0)) G3) ++ (kJ40 cs n3 N3)) := by rw [hN0_167]; exact hD
                    refine lv_iload hx hb dX7_copy_145 (lv_at hl 5 rfl) ?_
                    have he := Option.some.inj hf
                    obtain ⟨e0, ht0⟩ := Prod.mk.inj he
                    obtain ⟨e1, ht1⟩ := Prod.mk.inj ht0
                    obtain ⟨e2, ht2⟩ := Prod.mk.inj ht1
                    obtain ⟨e3, ht3⟩ := Prod.mk.inj ht2
                    obtain ⟨e4, e5⟩ := Prod.mk.inj ht3
                    exact hri _ _ _ rfl (congrArg (fun z => some (Value.int z)) e0.symm) dX7_copy_147 _ _ _ (by rw [e1, e2, e3, e4, e5]) hP hD hS
                  · have hf := ip_el hc166 hf
                    exact h112 Ma N0 N1 N2 N3 _ _ _ hP hD hS (lv_sub hl [0] rfl) hf
              · have hf := in_el hc160 hf
                refine lv_aload_n hx hb dX7_copy_74 rfl (lv_at hl 0 rfl) ?_
                refine lv_ldc (v := (-1000000003)) hx hb hown (hu _ q465) dX7_copy_75 ?_
                obtain ⟨r169, Ma_170, hg171, hf⟩ := b2_el hf
                refine cc_V (w' := ((kX7 cs x (.ref (g 0)) (.ref (g2 0)) (.ref (g3 0)) (.ref (h 0)) (.ref (t 0)) (.ref (sa 0)) Ma_170) ++ (kSA cs sa (e0 0) (e1 0) (e2 0) (e3 0)) ++ (kX5 cs e0 (.ref (n0 0)) G0) ++ (kJ40 cs n0 N0) ++ (kX5 cs e1 (.ref (n1 0)) G1) ++ (kJ40 cs n1 N1) ++ (kX5 cs e2 (.ref (n2 0)) G2) ++ (kJ40 cs n2 N2) ++ (kX5 cs e3 (.ref (n3 0)) G3) ++ (kJ40 cs n3 N3))) (wr := ((kSA cs sa (e0 0) (e1 0) (e2 0) (e3 0)) ++ (kX5 cs e0 (.ref (n0 0)) G0) ++ (kJ40 cs n0 N0) ++ (kX5 cs e1 (.ref (n1 0)) G1) ++ (kJ40 cs n1 N1) ++ (kX5 cs e2 (.ref (n2 0)) G2) ++ (kJ40 cs n2 N2) ++ (kX5 cs e3 (.ref (n3 0)) G3) ++ (kJ40 cs n3 N3))) (st1 := [.int r169]) [.int (-1000000003)] hx hb hml hown hu (tX7_finding l D cs x g g2 g3 h t sa (-1000000003) Ma r169 Ma_170 hg171) q339 q54 q336 q338 q0 pdX7_finding ⟨rfl, rfl, Nat.le_of_ble_eq_true rfl, Nat.le_of_ble_eq_true rfl⟩ hK hZ hP hD hS hA [0, 1] [2, 3, 4, 5, 6, 7, 8, 9, 10] [9, 10, 0, 1, 2, 3, 4, 5, 6, 7, 8] rfl rfl rfl rfl rfl rfl rfl rfl rfl rfl hl.1 rfl (Nat.le_of_ble_eq_true rfl) dX7_copy_77 rfl (fun H locs hP hD hS => ?_)
                have he := Option.some.inj hf
                obtain ⟨e0, ht0⟩ := Prod.mk.inj he
                obtain ⟨e1, ht1⟩ := Prod.mk.inj ht0
                obtain ⟨e2, ht2⟩ := Prod.mk.inj ht1
                obtain ⟨e3, ht3⟩ := Prod.mk.inj ht2
                obtain ⟨e4, e5⟩ := Prod.mk.inj ht3
                exact hri _ _ _ rfl (congrArg (fun z => some (Value.int z)) e0.symm) dX7_copy_80 _ _ _ (by rw [e1, e2, e3, e4, e5]) hP hD hS
            · have hf := in_el hc159 hf
              exact h45 Ma N0 N1 N2 N3 _ _ _ hP hD hS (lv_sub hl [0] rfl) hf
          have hf := in_el hc156 hf
          by_cases hc172 : x3 = 1
          · have hf := ip_el hc172 hf
            refine sa_lit (e := e1 0) hx hb hK hP 2 rfl (k := 1) (by rw [hc172]; decide) rfl dX7_copy_38 ?_
            obtain ⟨r173, hg174, hf⟩ := b1_el hf
            refine cc_V (w' := ((kX7 cs x (.ref (g 0)) (.ref (g2 0)) (.ref (g3 0)) (.ref (h 0)) (.ref (t 0)) (.ref (sa 0)) Ma) ++ (kSA cs sa (e0 0) (e1 0) (e2 0) (e3 0)) ++ (kX5 cs e0 (.ref (n0 0)) G0) ++ (kJ40 cs n0 N0) ++ (kX5 cs e1 (.ref (n1 0)) G1) ++ (kJ40 cs n1 N1) ++ (kX5 cs e2 (.ref (n2 0)) G2) ++ (kJ40 cs n2 N2) ++ (kX5 cs e3 (.ref (n3 0)) G3) ++ (kJ40 cs n3 N3))) (wr := ((kX7 cs x (.ref (g 0)) (.ref (g2 0)) (.ref (g3 0)) (.ref (h 0)) (.ref (t 0)) (.ref (sa 0)) Ma) ++ (kSA cs sa (e0 0) (e1 0) (e2 0) (e3 0)) ++ (kX5 cs e0 (.ref (n0 0)) G0) ++ (kJ40 cs n0 N0) ++ (kJ40 cs n1 N1) ++ (kX5 cs e2 (.ref (n2 0)) G2) ++ (kJ40 cs n2 N2) ++ (kX5 cs e3 (.ref (n3 0)) G3) ++ (kJ40 cs n3 N3))) (st1 := [.int r173]) [] hx hb hml hown hu (tX5_isMissing l D cs e1 n1 G1 r173 hg174) q860 q61 q857 q858 q859 pdX5_isMissing ⟨rfl, rfl, Nat.le_of_ble_eq_true rfl, Nat.le_of_ble_eq_true rfl⟩ hK hZ hP hD hS hA [5] [0, 1, 2, 3, 4, 6, 7, 8, 9, 10] [0, 1, 2, 3, 4, 10, 5, 6, 7, 8, 9] rfl rfl rfl rfl rfl rfl rfl rfl rfl rfl hl.1 rfl (Nat.le_of_ble_eq_true rfl) dX7_copy_39 rfl (fun H locs hP hD hS => ?_)
            refine lv_if_eq (tgt := 53) hx hb dX7_copy_42 (by decide) (fun hc175 => ?_) (fun hc175 => ?_)
            · have hf := ip_el hc175 hf
              refine lv_aload_n hx hb dX7_copy_53 rfl (lv_at hl 0 rfl) ?_
              refine va_get (D := D) (ci := 7) (v := .ref (sa 0)) (C := RX7) (T := TX7) (N := 8) hx hb hu inX7 hown hK.1 hP 0 rfl rfl 5 (by decide) (hu _ q305) (fun _ h9 => h9) rfl dX7_copy_54 ?_
              refine lv_iload_n hx hb dX7_copy_57 rfl (lv_at hl 1 rfl) ?_
              refine sa_lit (e := e2 0) hx hb hK hP 2 rfl (k := 2) (by rw [hc152]; decide) rfl dX7_copy_58 ?_
              refine va_get (D := D) (ci := 5) (v := .int (G2 0 0)) (C := RX5) (T := TX5) (N := 3) hx hb hu inX5 hown hK.1 hP 7 rfl rfl 0 (by decide) (hu _ q287) (fun _ h9 => h9) rfl dX7_copy_59 ?_
              refine lv_aload_n hx hb dX7_copy_62 rfl (lv_at hl 0 rfl) ?_
              refine va_get (D := D) (ci := 7) (v := .ref (sa 0)) (C := RX7) (T := TX7) (N := 8) hx hb hu inX7 hown hK.1 hP 0 rfl rfl 5 (by decide) (hu _ q305) (fun _ h9 => h9) rfl dX7_copy_63 ?_
              refine lv_iload_n hx hb dX7_copy_66 rfl (lv_at hl 3 rfl) ?_
              refine sa_lit (e := e1 0) hx hb hK hP 2 rfl (k := 1) (by rw [hc172]; decide) rfl dX7_copy_67 ?_
              refine va_get (D := D) (ci := 5) (v := .int (G1 0 0)) (C := RX5) (T := TX5) (N := 3) hx hb hu inX5 hown hK.1 hP 5 rfl rfl 0 (by decide) (hu _ q287) (fun _ h9 => h9) rfl dX7_copy_68 ?_
              refine lv_icmp_eq (tgt := 81) hx hb dX7_copy_71 (by decide) (fun hc176 => ?_) (fun hc176 => ?_)
              · have hf := ip_el hc176 hf
                refine lv_aload_n hx hb dX7_copy_81 rfl (lv_at hl 0 rfl) ?_
                refine va_get (D := D) (ci := 7) (v := .ref (sa 0)) (C := RX7) (T := TX7) (N := 8) hx hb hu inX7 hown hK.1 hP 0 rfl rfl 5 (by decide) (hu _ q305) (fun _ h9 => h9) rfl dX7_copy_82 ?_
                refine lv_iload_n hx hb dX7_copy_85 rfl (lv_at hl 1 rfl) ?_
                refine sa_lit (e := e2 0) hx hb hK hP 2 rfl (k := 2) (by rw [hc152]; decide) rfl dX7_copy_86 ?_
                refine lv_iload_n hx hb dX7_copy_87 rfl (lv_at hl 2 rfl) ?_
                refine lv_iload hx hb dX7_copy_88 (lv_at hl 5 rfl) ?_
                obtain ⟨r177, hg178, hf⟩ := b1_el hf
                refine cc_V (w' := ((kX7 cs x (.ref (g 0)) (.ref (g2 0)) (.ref (g3 0)) (.ref (h 0)) (.ref (t 0)) (.ref (sa 0)) Ma) ++ (kSA cs sa (e0 0) (e1 0) (e2 0) (e3 0)) ++ (kX5 cs e0 (.ref (n0 0)) G0) ++ (kJ40 cs n0 N0) ++ (kX5 cs e1 (.ref (n1 0)) G1) ++ (kJ40 cs n1 N1) ++ (kX5 cs e2 (.ref (n2 0)) G2) ++ (kJ40 cs n2 N2) ++ (kX5 cs e3 (.ref (n3 0)) G3) ++ (kJ40 cs n3 N3))) (wr := ((kX7 cs x (.ref (g 0)) (.ref (g2 0)) (.ref (g3 0)) (.ref (h 0)) (.ref (t 0)) (.ref (sa 0)) Ma) ++ (kSA cs sa (e0 0) (e1 0) (e2 0) (e3 0)) ++ (kX5 cs e0 (.ref (n0 0)) G0) ++ (kJ40 cs n0 N0) ++ (kX5 cs e1 (.ref (n1 0)) G1) ++ (kJ40 cs n1 N1) ++ (kJ40 cs n2 N2) ++ (kX5 cs e3 (.ref (n3 0)) G3) ++ (kJ40 cs n3 N3))) (st1 := [.int r177]) [.int x2, .int x5] hx hb hml hown hu (tX5_holds l D cs e2 n2 x2 x5 G2 r177 hg178) q873 q61 q870 q871 q872 pdX5_holds ⟨rfl, rfl, Nat.le_of_ble_eq_true rfl, Nat.le_of_ble_eq_true rfl⟩ hK hZ hP hD hS hA [7] [0, 1, 2, 3, 4, 5, 6, 8, 9, 10] [0, 1, 2, 3, 4, 5, 6, 10, 7, 8, 9] rfl rfl rfl rfl rfl rfl rfl rfl rfl rfl hl.1 rfl (Nat.le_of_ble_eq_true rfl) dX7_copy_90 rfl (fun H locs hP hD hS => ?_)
                refine lv_if_eq (tgt := 112) hx hb dX7_copy_93 (by decide) (fun hc179 => ?_) (fun hc179 => ?_)
                · have hf := ip_el hc179 hf
                  exact h112 Ma N0 N1 N2 N3 _ _ _ hP hD hS (lv_sub hl [0] rfl) hf
                · have hf := in_el hc179 hf
                  refine lv_aload_n hx hb dX7_copy_96 rfl (lv_at hl 0 rfl) ?_
                  refine va_get (D := D) (ci := 7) (v := .ref (sa 0)) (C := RX7) (T := TX7) (N := 8) hx hb hu inX7 hown hK.1 hP 0 rfl rfl 5 (by decide) (hu _ q305) (fun _ h9 => h9) rfl dX7_copy_97 ?_
                  refine lv_iload_n hx hb dX7_copy_100 rfl (lv_at hl 3 rfl) ?_
                  refine sa_lit (e := e1 0) hx hb hK hP 2 rfl (k := 1) (by rw [hc172]; decide) rfl dX7_copy_101 ?_
                  refine lv_iload hx hb dX7_copy_102 (lv_at hl 4 rfl) ?_
                  refine lv_iload hx hb dX7_copy_104 (lv_at hl 5 rfl) ?_
                  obtain ⟨r180, hg181, hf⟩ := b1_el hf
                  refine cc_V (w' := ((kX7 cs x (.ref (g 0)) (.ref (g2 0)) (.ref (g3 0)) (.ref (h 0)) (.ref (t 0)) (.ref (sa 0)) Ma) ++ (kSA cs sa (e0 0) (e1 0) (e2 0) (e3 0)) ++ (kX5 cs e0 (.ref (n0 0)) G0) ++ (kJ40 cs n0 N0) ++ (kX5 cs e1 (.ref (n1 0)) G1) ++ (kJ40 cs n1 N1) ++ (kX5 cs e2 (.ref (n2 0)) G2) ++ (kJ40 cs n2 N2) ++ (kX5 cs e3 (.ref (n3 0)) G3) ++ (kJ40 cs n3 N3))) (wr := ((kX7 cs x (.ref (g 0)) (.ref (g2 0)) (.ref (g3 0)) (.ref (h 0)) (.ref (t 0)) (.ref (sa 0)) Ma) ++ (kSA cs sa (e0 0) (e1 0) (e2 0) (e3 0)) ++ (kX5 cs e0 (.ref (n0 0)) G0) ++ (kJ40 cs n0 N0) ++ (kJ40 cs n1 N1) ++ (kX5 cs e2 (.ref (n2 0)) G2) ++ (kJ40 cs n2 N2) ++ (kX5 cs e3 (.ref (n3 0)) G3) ++ (kJ40 cs n3 N3))) (st1 := [.int r180]) [.int x4, .int x5] hx hb hml hown hu (tX5_holds l D cs e1 n1 x4 x5 G1 r180 hg181) q873 q61 q870 q871 q872 pdX5_holds ⟨rfl, rfl, Nat.le_of_ble_eq_true rfl, Nat.le_of_ble_eq_true rfl⟩ hK hZ hP hD hS hA [5] [0, 1, 2, 3, 4, 6, 7, 8, 9, 10] [0, 1, 2, 3, 4, 10, 5, 6, 7, 8, 9] rfl rfl rfl rfl rfl rfl rfl rfl rfl rfl hl.1 rfl (Nat.le_of_ble_eq_true rfl) dX7_copy_106 rfl (fun H locs hP hD hS => ?_)
                  refine lv_if_ne (tgt := 119) hx hb dX7_copy_109 (by decide) (fun hc182 => ?_) (fun hc182 => ?_)
                  · have hf := in_el hc182 hf
                    refine lv_aload_n hx hb dX7_copy_119 rfl (lv_at hl 0 rfl) ?_
                    refine va_get (D := D) (ci := 7) (v := .ref (sa 0)) (C := RX7) (T := TX7) (N := 8) hx hb hu inX7 hown hK.1 hP 0 rfl rfl 5 (by decide) (hu _ q305) (fun _ h9 => h9) rfl dX7_copy_120 ?_
                    refine lv_iload_n hx hb dX7_copy_123 rfl (lv_at hl 1 rfl) ?_
                    refine sa_lit (e := e2 0) hx hb hK hP 2 rfl (k := 2) (by rw [hc152]; decide) rfl dX7_copy_124 ?_
                    refine va_get (D := D) (ci := 5) (v := .ref (n2 0)) (C := RX5) (T := TX5) (N := 3) hx hb hu inX5 hown hK.1 hP 7 rfl rfl 2 (by decide) (hu _ q291) (fun _ h9 => h9) rfl dX7_copy_125 ?_
                    refine lv_iload_n hx hb dX7_copy_128 rfl (lv_at hl 2 rfl) ?_
                    refine lv_aload_n hx hb dX7_copy_129 rfl (lv_at hl 0 rfl) ?_
                    refine va_get (D := D) (ci := 7) (v := .ref (sa 0)) (C := RX7) (T := TX7) (N := 8) hx hb hu inX7 hown hK.1 hP 0 rfl rfl 5 (by decide) (hu _ q305) (fun _ h9 => h9) rfl dX7_copy_130 ?_
                    refine lv_iload_n hx hb dX7_copy_133 rfl (lv_at hl 3 rfl) ?_
                    refine sa_lit (e := e1 0) hx hb hK hP 2 rfl (k := 1) (by rw [hc172]; decide) rfl dX7_copy_134 ?_
                    refine va_get (D := D) (ci := 5) (v := .ref (n1 0)) (C := RX5) (T := TX5) (N := 3) hx hb hu inX5 hown hK.1 hP 5 rfl rfl 2 (by decide) (hu _ q291) (fun _ h9 => h9) rfl dX7_copy_135 ?_
                    refine lv_iload hx hb dX7_copy_138 (lv_at hl 4 rfl) ?_
                    refine lv_iload hx hb dX7_copy_140 (lv_at hl 5 rfl) ?_
                    obtain ⟨hq184, hf⟩ := cp_el hf
                    obtain ⟨N1_183, hN1_183, hf⟩ := lt_el hf
                    refine va_copyl hx hb (hml.trans hl.1.symm) hown (hu _ q874) (hu _ q431) (hu _ q430) (hu _ q63) hK.1 hP hD hS 8 6 1 1 rfl rfl rfl rfl rfl hq184.1 hq184.2.1 hq184.2.2.1 hq184.2.2.2.1 hq184.2.2.2.2 (fun _ _ => rfl) (Nat.le_of_ble_eq_true rfl) (Nat.le_of_ble_eq_true rfl) dX7_copy_142 (fun H locs hP hD hS => ?_)
                    have hP : va_P D vwCl ((kX7 cs x (.ref (g 0)) (.ref (g2 0)) (.ref (g3 0)) (.ref (h 0)) (.ref (t 0)) (.ref (sa 0)) Ma) ++ (kSA cs sa (e0 0) (e1 0) (e2 0) (e3 0)) ++ (kX5 cs e0 (.ref (n0 0)) G0) ++ (kJ40 cs n0 N0) ++ (kX5 cs e1 (.ref (n1 0)) G1) ++ (kJ40 cs n1 N1_183) ++ (kX5 cs e2 (.ref (n2 0)) G2) ++ (kJ40 cs n2 N2) ++ (kX5 cs e3 (.ref (n3 0)) G3) ++ (kJ40 cs n3 N3)) H := by rw [hN1_183]; exact hP
                    have hD : va_D A ((kX7 cs x (.ref (g 0)) (.ref (g2 0)) (.ref (g3 0)) (.ref (h 0)) (.ref (t 0)) (.ref (sa 0)) Ma) ++ (kSA cs sa (e0 0) (e1 0) (e2 0) (e3 0)) ++ (kX5 cs e0 (.ref (n0 0)) G0) ++ (kJ40 cs n0 N0) ++ (kX5 cs e1 (.ref (n1 0)) G1) ++ (kJ40 cs n1 N1_183) ++ (kX5 cs e2 (.ref (n2 0)) G2) ++ (kJ40 cs n2 N2) ++ (kX5 cs e3 (.ref (n3 0)) G3) ++ (kJ40 cs n3 N3)) := by rw [hN1_183]; exact hD
                    refine lv_iload hx hb dX7_copy_145 (lv_at hl 5 rfl) ?_
                    have he := Option.some.inj hf
                    obtain ⟨e0, ht0⟩ := Prod.mk.inj he
                    obtain ⟨e1, ht1⟩ := Prod.mk.inj ht0
                    obtain ⟨e2, ht2⟩ := Prod.mk.inj ht1
                    obtain ⟨e3, ht3⟩ := Prod.mk.inj ht2
                    obtain ⟨e4, e5⟩ := Prod.mk.inj ht3
                    exact hri _ _ _ rfl (congrArg (fun z => some (Value.int z)) e0.symm) dX7_copy_147 _ _ _ (by rw [e1, e2, e3, e4, e5]) hP hD hS
                  · have hf := ip_el hc182 hf
                    exact h112 Ma N0 N1 N2 N3 _ _ _ hP hD hS (lv_sub hl [0] rfl) hf
              · have hf := in_el hc176 hf
                refine lv_aload_n hx hb dX7_copy_74 rfl (lv_at hl 0 rfl) ?_
                refine lv_ldc (v := (-1000000003)) hx hb hown (hu _ q465) dX7_copy_75 ?_
                obtain ⟨r185, Ma_186, hg187, hf⟩ := b2_el hf
                refine cc_V (w' := ((kX7 cs x (.ref (g 0)) (.ref (g2 0)) (.ref (g3 0)) (.ref (h 0)) (.ref (t 0)) (.ref (sa 0)) Ma_186) ++ (kSA cs sa (e0 0) (e1 0) (e2 0) (e3 0)) ++ (kX5 cs e0 (.ref (n0 0)) G0) ++ (kJ40 cs n0 N0) ++ (kX5 cs e1 (.ref (n1 0)) G1) ++ (kJ40 cs n1 N1) ++ (kX5 cs e2 (.ref (n2 0)) G2) ++ (kJ40 cs n2 N2) ++ (kX5 cs e3 (.ref (n3 0)) G3) ++ (kJ40 cs n3 N3))) (wr := ((kSA cs sa (e0 0) (e1 0) (e2 0) (e3 0)) ++ (kX5 cs e0 (.ref (n0 0)) G0) ++ (kJ40 cs n0 N0) ++ (kX5 cs e1 (.ref (n1 0)) G1) ++ (kJ40 cs n1 N1) ++ (kX5 cs e2 (.ref (n2 0)) G2) ++ (kJ40 cs n2 N2) ++ (kX5 cs e3 (.ref (n3 0)) G3) ++ (kJ40 cs n3 N3))) (st1 := [.int r185]) [.int (-1000000003)] hx hb hml hown hu (tX7_finding l D cs x g g2 g3 h t sa (-1000000003) Ma r185 Ma_186 hg187) q339 q54 q336 q338 q0 pdX7_finding ⟨rfl, rfl, Nat.le_of_ble_eq_true rfl, Nat.le_of_ble_eq_true rfl⟩ hK hZ hP hD hS hA [0, 1] [2, 3, 4, 5, 6, 7, 8, 9, 10] [9, 10, 0, 1, 2, 3, 4, 5, 6, 7, 8] rfl rfl rfl rfl rfl rfl rfl rfl rfl rfl hl.1 rfl (Nat.le_of_ble_eq_true rfl) dX7_copy_77 rfl (fun H locs hP hD hS => ?_)
                have he := Option.some.inj hf
                obtain ⟨e0, ht0⟩ := Prod.mk.inj he
                obtain ⟨e1, ht1⟩ := Prod.mk.inj ht0
                obtain ⟨e2, ht2⟩ := Prod.mk.inj ht1
                obtain ⟨e3, ht3⟩ := Prod.mk.inj ht2
                obtain ⟨e4, e5⟩ := Prod.mk.inj ht3
                exact hri _ _ _ rfl (congrArg (fun z => some (Value.int z)) e0.symm) dX7_copy_80 _ _ _ (by rw [e1, e2, e3, e4, e5]) hP hD hS
            · have hf := in_el hc175 hf
              exact h45 Ma N0 N1 N2 N3 _ _ _ hP hD hS (lv_sub hl [0] rfl) hf
          have hf := in_el hc172 hf
          by_cases hc188 : x3 = 2
          · have hf := ip_el hc188 hf
            refine sa_lit (e := e2 0) hx hb hK hP 2 rfl (k := 2) (by rw [hc188]; decide) rfl dX7_copy_38 ?_
            obtain ⟨r189, hg190, hf⟩ := b1_el hf
            refine cc_V (w' := ((kX7 cs x (.ref (g 0)) (.ref (g2 0)) (.ref (g3 0)) (.ref (h 0)) (.ref (t 0)) (.ref (sa 0)) Ma) ++ (kSA cs sa (e0 0) (e1 0) (e2 0) (e3 0)) ++ (kX5 cs e0 (.ref (n0 0)) G0) ++ (kJ40 cs n0 N0) ++ (kX5 cs e1 (.ref (n1 0)) G1) ++ (kJ40 cs n1 N1) ++ (kX5 cs e2 (.ref (n2 0)) G2) ++ (kJ40 cs n2 N2) ++ (kX5 cs e3 (.ref (n3 0)) G3) ++ (kJ40 cs n3 N3))) (wr := ((kX7 cs x (.ref (g 0)) (.ref (g2 0)) (.ref (g3 0)) (.ref (h 0)) (.ref (t 0)) (.ref (sa 0)) Ma) ++ (kSA cs sa (e0 0) (e1 0) (e2 0) (e3 0)) ++ (kX5 cs e0 (.ref (n0 0)) G0) ++ (kJ40 cs n0 N0) ++ (kX5 cs e1 (.ref (n1 0)) G1) ++ (kJ40 cs n1 N1) ++ (kJ40 cs n2 N2) ++ (kX5 cs e3 (.ref (n3 0)) G3) ++ (kJ40 cs n3 N3))) (st1 := [.int r189]) [] hx hb hml hown hu (tX5_isMissing l D cs e2 n2 G2 r189 hg190) q860 q61 q857 q858 q859 pdX5_isMissing ⟨rfl, rfl, Nat.le_of_ble_eq_true rfl, Nat.le_of_ble_eq_true rfl⟩ hK hZ hP hD hS hA [7] [0, 1, 2, 3, 4, 5, 6, 8, 9, 10] [0, 1, 2, 3, 4, 5, 6, 10, 7, 8, 9] rfl rfl rfl rfl rfl rfl rfl rfl rfl rfl hl.1 rfl (Nat.le_of_ble_eq_true rfl) dX7_copy_39 rfl (fun H locs hP hD hS => ?_)
            refine lv_if_eq (tgt := 53) hx hb dX7_copy_42 (by decide) (fun hc191 => ?_) (fun hc191 => ?_)
            · have hf := ip_el hc191 hf
              refine lv_aload_n hx hb dX7_copy_53 rfl (lv_at hl 0 rfl) ?_
              refine va_get (D := D) (ci := 7) (v := .ref (sa 0)) (C := RX7) (T := TX7) (N := 8) hx hb hu inX7 hown hK.1 hP 0 rfl rfl 5 (by decide) (hu _ q305) (fun _ h9 => h9) rfl dX7_copy_54 ?_
              refine lv_iload_n hx hb dX7_copy_57 rfl (lv_at hl 1 rfl) ?_
              refine sa_lit (e := e2 0) hx hb hK hP 2 rfl (k := 2) (by rw [hc152]; decide) rfl dX7_copy_58 ?_
              refine va_get (D := D) (ci := 5) (v := .int (G2 0 0)) (C := RX5) (T := TX5) (N := 3) hx hb hu inX5 hown hK.1 hP 7 rfl rfl 0 (by decide) (hu _ q287) (fun _ h9 => h9) rfl dX7_copy_59 ?_
              refine lv_aload_n hx hb dX7_copy_62 rfl (lv_at hl 0 rfl) ?_
              refine va_get (D := D) (ci := 7) (v := .ref (sa 0)) (C := RX7) (T := TX7) (N := 8) hx hb hu inX7 hown hK.1 hP 0 rfl rfl 5 (by decide) (hu _ q305) (fun _ h9 => h9) rfl dX7_copy_63 ?_
              refine lv_iload_n hx hb dX7_copy_66 rfl (lv_at hl 3 rfl) ?_
              refine sa_lit (e := e2 0) hx hb hK hP 2 rfl (k := 2) (by rw [hc188]; decide) rfl dX7_copy_67 ?_
              refine va_get (D := D) (ci := 5) (v := .int (G2 0 0)) (C := RX5) (T := TX5) (N := 3) hx hb hu inX5 hown hK.1 hP 7 rfl rfl 0 (by decide) (hu _ q287) (fun _ h9 => h9) rfl dX7_copy_68 ?_
              refine lv_icmp_eq (tgt := 81) hx hb dX7_copy_71 (by decide) (fun hc192 => ?_) (fun hc192 => ?_)
              · have hf := ip_el hc192 hf
                refine lv_aload_n hx hb dX7_copy_81 rfl (lv_at hl 0 rfl) ?_
                refine va_get (D := D) (ci := 7) (v := .ref (sa 0)) (C := RX7) (T := TX7) (N := 8) hx hb hu inX7 hown hK.1 hP 0 rfl rfl 5 (by decide) (hu _ q305) (fun _ h9 => h9) rfl dX7_copy_82 ?_
                refine lv_iload_n hx hb dX7_copy_85 rfl (lv_at hl 1 rfl) ?_
                refine sa_lit (e := e2 0) hx hb hK hP 2 rfl (k := 2) (by rw [hc152]; decide) rfl dX7_copy_86 ?_
                refine lv_iload_n hx hb dX7_copy_87 rfl (lv_at hl 2 rfl) ?_
                refine lv_iload hx hb dX7_copy_88 (lv_at hl 5 rfl) ?_
                obtain ⟨r193, hg194, hf⟩ := b1_el hf
                refine cc_V (w' := ((kX7 cs x (.ref (g 0)) (.ref (g2 0)) (.ref (g3 0)) (.ref (h 0)) (.ref (t 0)) (.ref (sa 0)) Ma) ++ (kSA cs sa (e0 0) (e1 0) (e2 0) (e3 0)) ++ (kX5 cs e0 (.ref (n0 0)) G0) ++ (kJ40 cs n0 N0) ++ (kX5 cs e1 (.ref (n1 0)) G1) ++ (kJ40 cs n1 N1) ++ (kX5 cs e2 (.ref (n2 0)) G2) ++ (kJ40 cs n2 N2) ++ (kX5 cs e3 (.ref (n3 0)) G3) ++ (kJ40 cs n3 N3))) (wr := ((kX7 cs x (.ref (g 0)) (.ref (g2 0)) (.ref (g3 0)) (.ref (h 0)) (.ref (t 0)) (.ref (sa 0)) Ma) ++ (kSA cs sa (e0 0) (e1 0) (e2 0) (e3 0)) ++ (kX5 cs e0 (.ref (n0 0)) G0) ++ (kJ40 cs n0 N0) ++ (kX5 cs e1 (.ref (n1 0)) G1) ++ (kJ40 cs n1 N1) ++ (kJ40 cs n2 N2) ++ (kX5 cs e3 (.ref (n3 0)) G3) ++ (kJ40 cs n3 N3))) (st1 := [.int r193]) [.int x2, .int x5] hx hb hml hown hu (tX5_holds l D cs e2 n2 x2 x5 G2 r193 hg194) q873 q61 q870 q871 q872 pdX5_holds ⟨rfl, rfl, Nat.le_of_ble_eq_true rfl, Nat.le_of_ble_eq_true rfl⟩ hK hZ hP hD hS hA [7] [0, 1, 2, 3, 4, 5, 6, 8, 9, 10] [0, 1, 2, 3, 4, 5, 6, 10, 7, 8, 9] rfl rfl rfl rfl rfl rfl rfl rfl rfl rfl hl.1 rfl (Nat.le_of_ble_eq_true rfl) dX7_copy_90 rfl (fun H locs hP hD hS => ?_)
                refine lv_if_eq (tgt := 112) hx hb dX7_copy_93 (by decide) (fun hc195 => ?_) (fun hc195 => ?_)
                · have hf := ip_el hc195 hf
                  exact h112 Ma N0 N1 N2 N3 _ _ _ hP hD hS (lv_sub hl [0] rfl) hf
                · have hf := in_el hc195 hf
                  refine lv_aload_n hx hb dX7_copy_96 rfl (lv_at hl 0 rfl) ?_
                  refine va_get (D := D) (ci := 7) (v := .ref (sa 0)) (C := RX7) (T := TX7) (N := 8) hx hb hu inX7 hown hK.1 hP 0 rfl rfl 5 (by decide) (hu _ q305) (fun _ h9 => h9) rfl dX7_copy_97 ?_
                  refine lv_iload_n hx hb dX7_copy_100 rfl (lv_at hl 3 rfl) ?_
                  refine sa_lit (e := e2 0) hx hb hK hP 2 rfl (k := 2) (by rw [hc188]; decide) rfl dX7_copy_101 ?_
                  refine lv_iload hx hb dX7_copy_102 (lv_at hl 4 rfl) ?_
                  refine lv_iload hx hb dX7_copy_104 (lv_at hl 5 rfl) ?_
                  obtain ⟨r196, hg197, hf⟩ := b1_el hf
                  refine cc_V (w' := ((kX7 cs x (.ref (g 0)) (.ref (g2 0)) (.ref (g3 0)) (.ref (h 0)) (.ref (t 0)) (.ref (sa 0)) Ma) ++ (kSA cs sa (e0 0) (e1 0) (e2 0) (e3 0)) ++ (kX5 cs e0 (.ref (n0 0)) G0) ++ (kJ40 cs n0 N0) ++ (kX5 cs e1 (.ref (n1 0)) G1) ++ (kJ40 cs n1 N1) ++ (kX5 cs e2 (.ref (n2 0)) G2) ++ (kJ40 cs n2 N2) ++ (kX5 cs e3 (.ref (n3 0)) G3) ++ (kJ40 cs n3 N3))) (wr := ((kX7 cs x (.ref (g 0)) (.ref (g2 0)) (.ref (g3 0)) (.ref (h 0)) (.ref (t 0)) (.ref (sa 0)) Ma) ++ (kSA cs sa (e0 0) (e1 0) (e2 0) (e3 0)) ++ (kX5 cs e0 (.ref (n0 0)) G0) ++ (kJ40 cs n0 N0) ++ (kX5 cs e1 (.ref (n1 0)) G1) ++ (kJ40 cs n1 N1) ++ (kJ40 cs n2 N2) ++ (kX5 cs e3 (.ref (n3 0)) G3) ++ (kJ40 cs n3 N3))) (st1 := [.int r196]) [.int x4, .int x5] hx hb hml hown hu (tX5_holds l D cs e2 n2 x4 x5 G2 r196 hg197) q873 q61 q870 q871 q872 pdX5_holds ⟨rfl, rfl, Nat.le_of_ble_eq_true rfl, Nat.le_of_ble_eq_true rfl⟩ hK hZ hP hD hS hA [7] [0, 1, 2, 3, 4, 5, 6, 8, 9, 10] [0, 1, 2, 3, 4, 5, 6, 10, 7, 8, 9] rfl rfl rfl rfl rfl rfl rfl rfl rfl rfl hl.1 rfl (Nat.le_of_ble_eq_true rfl) dX7_copy_106 rfl (fun H locs hP hD hS => ?_)
                  refine lv_if_ne (tgt := 119) hx hb dX7_copy_109 (by decide) (fun hc198 => ?_) (fun hc198 => ?_)
                  · have hf := in_el hc198 hf
                    refine lv_aload_n hx hb dX7_copy_119 rfl (lv_at hl 0 rfl) ?_
                    refine va_get (D := D) (ci := 7) (v := .ref (sa 0)) (C := RX7) (T := TX7) (N := 8) hx hb hu inX7 hown hK.1 hP 0 rfl rfl 5 (by decide) (hu _ q305) (fun _ h9 => h9) rfl dX7_copy_120 ?_
                    refine lv_iload_n hx hb dX7_copy_123 rfl (lv_at hl 1 rfl) ?_
                    refine sa_lit (e := e2 0) hx hb hK hP 2 rfl (k := 2) (by rw [hc152]; decide) rfl dX7_copy_124 ?_
                    refine va_get (D := D) (ci := 5) (v := .ref (n2 0)) (C := RX5) (T := TX5) (N := 3) hx hb hu inX5 hown hK.1 hP 7 rfl rfl 2 (by decide) (hu _ q291) (fun _ h9 => h9) rfl dX7_copy_125 ?_
                    refine lv_iload_n hx hb dX7_copy_128 rfl (lv_at hl 2 rfl) ?_
                    refine lv_aload_n hx hb dX7_copy_129 rfl (lv_at hl 0 rfl) ?_
                    refine va_get (D := D) (ci := 7) (v := .ref (sa 0)) (C := RX7) (T := TX7) (N := 8) hx hb hu inX7 hown hK.1 hP 0 rfl rfl 5 (by decide) (hu _ q305) (fun _ h9 => h9) rfl dX7_copy_130 ?_
                    refine lv_iload_n hx hb dX7_copy_133 rfl (lv_at hl 3 rfl) ?_
                    refine sa_lit (e := e2 0) hx hb hK hP 2 rfl (k := 2) (by rw [hc188]; decide) rfl dX7_copy_134 ?_
                    refine va_get (D := D) (ci := 5) (v := .ref (n2 0)) (C := RX5) (T := TX5) (N := 3) hx hb hu inX5 hown hK.1 hP 7 rfl rfl 2 (by decide) (hu _ q291) (fun _ h9 => h9) rfl dX7_copy_135 ?_
                    refine lv_iload hx hb dX7_copy_138 (lv_at hl 4 rfl) ?_
                    refine lv_iload hx hb dX7_copy_140 (lv_at hl 5 rfl) ?_
                    obtain ⟨hq200, hf⟩ := cp_el hf
                    obtain ⟨N2_199, hN2_199, hf⟩ := lt_el hf
                    refine va_copyl hx hb (hml.trans hl.1.symm) hown (hu _ q874) (hu _ q431) (hu _ q430) (hu _ q63) hK.1 hP hD hS 8 8 1 1 rfl rfl rfl rfl rfl hq200.1 hq200.2.1 hq200.2.2.1 hq200.2.2.2.1 hq200.2.2.2.2 (fun _ _ => rfl) (Nat.le_of_ble_eq_true rfl) (Nat.le_of_ble_eq_true rfl) dX7_copy_142 (fun H locs hP hD hS => ?_)
                    have hP : va_P D vwCl ((kX7 cs x (.ref (g 0)) (.ref (g2 0)) (.ref (g3 0)) (.ref (h 0)) (.ref (t 0)) (.ref (sa 0)) Ma) ++ (kSA cs sa (e0 0) (e1 0) (e2 0) (e3 0)) ++ (kX5 cs e0 (.ref (n0 0)) G0) ++ (kJ40 cs n0 N0) ++ (kX5 cs e1 (.ref (n1 0)) G1) ++ (kJ40 cs n1 N1) ++ (kX5 cs e2 (.ref (n2 0)) G2) ++ (kJ40 cs n2 N2_199) ++ (kX5 cs e3 (.ref (n3 0)) G3) ++ (kJ40 cs n3 N3)) H := by rw [hN2_199]; exact hP
                    have hD : va_D A ((kX7 cs x (.ref (g 0)) (.ref (g2 0)) (.ref (g3 0)) (.ref (h 0)) (.ref (t 0)) (.ref (sa 0)) Ma) ++ (kSA cs sa (e0 0) (e1 0) (e2 0) (e3 0)) ++ (kX5 cs e0 (.ref (n0 0)) G0) ++ (kJ40 cs n0 N0) ++ (kX5 cs e1 (.ref (n1 0)) G1) ++ (kJ40 cs n1 N1) ++ (kX5 cs e2 (.ref (n2 0)) G2) ++ (kJ40 cs n2 N2_199) ++ (kX5 cs e3 (.ref (n3 0)) G3) ++ (kJ40 cs n3 N3)) := by rw [hN2_199]; exact hD
                    refine lv_iload hx hb dX7_copy_145 (lv_at hl 5 rfl) ?_
                    have he := Option.some.inj hf
                    obtain ⟨e0, ht0⟩ := Prod.mk.inj he
                    obtain ⟨e1, ht1⟩ := Prod.mk.inj ht0
                    obtain ⟨e2, ht2⟩ := Prod.mk.inj ht1
                    obtain ⟨e3, ht3⟩ := Prod.mk.inj ht2
                    obtain ⟨e4, e5⟩ := Prod.mk.inj ht3
                    exact hri _ _ _ rfl (congrArg (fun z => some (Value.int z)) e0.symm) dX7_copy_147 _ _ _ (by rw [e1, e2, e3, e4, e5]) hP hD hS
                  · have hf := ip_el hc198 hf
                    exact h112 Ma N0 N1 N2 N3 _ _ _ hP hD hS (lv_sub hl [0] rfl) hf
              · have hf := in_el hc192 hf
                refine lv_aload_n hx hb dX7_copy_74 rfl (lv_at hl 0 rfl) ?_
                refine lv_ldc (v := (-1000000003)) hx hb hown (hu _ q465) dX7_copy_75 ?_
                obtain ⟨r201, Ma_202, hg203, hf⟩ := b2_el hf
                refine cc_V (w' := ((kX7 cs x (.ref (g 0)) (.ref (g2 0)) (.ref (g3 0)) (.ref (h 0)) (.ref (t 0)) (.ref (sa 0)) Ma_202) ++ (kSA cs sa (e0 0) (e1 0) (e2 0) (e3 0)) ++ (kX5 cs e0 (.ref (n0 0)) G0) ++ (kJ40 cs n0 N0) ++ (kX5 cs e1 (.ref (n1 0)) G1) ++ (kJ40 cs n1 N1) ++ (kX5 cs e2 (.ref (n2 0)) G2) ++ (kJ40 cs n2 N2) ++ (kX5 cs e3 (.ref (n3 0)) G3) ++ (kJ40 cs n3 N3))) (wr := ((kSA cs sa (e0 0) (e1 0) (e2 0) (e3 0)) ++ (kX5 cs e0 (.ref (n0 0)) G0) ++ (kJ40 cs n0 N0) ++ (kX5 cs e1 (.ref (n1 0)) G1) ++ (kJ40 cs n1 N1) ++ (kX5 cs e2 (.ref (n2 0)) G2) ++ (kJ40 cs n2 N2) ++ (kX5 cs e3 (.ref (n3 0)) G3) ++ (kJ40 cs n3 N3))) (st1 := [.int r201]) [.int (-1000000003)] hx hb hml hown hu (tX7_finding l D cs x g g2 g3 h t sa (-1000000003) Ma r201 Ma_202 hg203) q339 q54 q336 q338 q0 pdX7_finding ⟨rfl, rfl, Nat.le_of_ble_eq_true rfl, Nat.le_of_ble_eq_true rfl⟩ hK hZ hP hD hS hA [0, 1] [2, 3, 4, 5, 6, 7, 8, 9, 10] [9, 10, 0, 1, 2, 3, 4, 5, 6, 7, 8] rfl rfl rfl rfl rfl rfl rfl rfl rfl rfl hl.1 rfl (Nat.le_of_ble_eq_true rfl) dX7_copy_77 rfl (fun H locs hP hD hS => ?_)
                have he := Option.some.inj hf
                obtain ⟨e0, ht0⟩ := Prod.mk.inj he
                obtain ⟨e1, ht1⟩ := Prod.mk.inj ht0
                obtain ⟨e2, ht2⟩ := Prod.mk.inj ht1
                obtain ⟨e3, ht3⟩ := Prod.mk.inj ht2
                obtain ⟨e4, e5⟩ := Prod.mk.inj ht3
                exact hri _ _ _ rfl (congrArg (fun z => some (Value.int z)) e0.symm) dX7_copy_80 _ _ _ (by rw [e1, e2, e3, e4, e5]) hP hD hS
            · have hf := in_el hc191 hf
              exact h45 Ma N0 N1 N2 N3 _ _ _ hP hD hS (lv_sub hl [0] rfl) hf
          have hf := in_el hc188 hf
          by_cases hc204 : x3 = 3
          · have hf := ip_el hc204 hf
            refine sa_lit (e := e3 0) hx hb hK hP 2 rfl (k := 3) (by rw [hc204]; decide) rfl dX7_copy_38 ?_
            obtain ⟨r205, hg206, hf⟩ := b1_el hf
            refine cc_V (w' := ((kX7 cs x (.ref (g 0)) (.ref (g2 0)) (.ref (g3 0)) (.ref (h 0)) (.ref (t 0)) (.ref (sa 0)) Ma) ++ (kSA cs sa (e0 0) (e1 0) (e2 0) (e3 0)) ++ (kX5 cs e0 (.ref (n0 0)) G0) ++ (kJ40 cs n0 N0) ++ (kX5 cs e1 (.ref (n1 0)) G1) ++ (kJ40 cs n1 N1) ++ (kX5 cs e2 (.ref (n2 0)) G2) ++ (kJ40 cs n2 N2) ++ (kX5 cs e3 (.ref (n3 0)) G3) ++ (kJ40 cs n3 N3))) (wr := ((kX7 cs x (.ref (g 0)) (.ref (g2 0)) (.ref (g3 0)) (.ref (h 0)) (.ref (t 0)) (.ref (sa 0)) Ma) ++ (kSA cs sa (e0 0) (e1 0) (e2 0) (e3 0)) ++ (kX5 cs e0 (.ref (n0 0)) G0) ++ (kJ40 cs n0 N0) ++ (kX5 cs e1 (.ref (n1 0)) G1) ++ (kJ40 cs n1 N1) ++ (kX5 cs e2 (.ref (n2 0)) G2) ++ (kJ40 cs n2 N2) ++ (kJ40 cs n3 N3))) (st1 := [.int r205]) [] hx hb hml hown hu (tX5_isMissing l D cs e3 n3 G3 r205 hg206) q860 q61 q857 q858 q859 pdX5_isMissing ⟨rfl, rfl, Nat.le_of_ble_eq_true rfl, Nat.le_of_ble_eq_true rfl⟩ hK hZ hP hD hS hA [9] [0, 1, 2, 3, 4, 5, 6, 7, 8, 10] [0, 1, 2, 3, 4, 5, 6, 7, 8, 10, 9] rfl rfl rfl rfl rfl rfl rfl rfl rfl rfl hl.1 rfl (Nat.le_of_ble_eq_true rfl) dX7_copy_39 rfl (fun H locs hP hD hS => ?_)
            refine lv_if_eq (tgt := 53) hx hb dX7_copy_42 (by decide) (fun hc207 => ?_) (fun hc207 => ?_)
            · have hf := ip_el hc207 hf
              refine lv_aload_n hx hb dX7_copy_53 rfl (lv_at hl 0 rfl) ?_
              refine va_get (D := D) (ci := 7) (v := .ref (sa 0)) (C := RX7) (T := TX7) (N := 8) hx hb hu inX7 hown hK.1 hP 0 rfl rfl 5 (by decide) (hu _ q305) (fun _ h9 => h9) rfl dX7_copy_54 ?_
              refine lv_iload_n hx hb dX7_copy_57 rfl (lv_at hl 1 rfl) ?_
              refine sa_lit (e := e2 0) hx hb hK hP 2 rfl (k := 2) (by rw [hc152]; decide) rfl dX7_copy_58 ?_
              refine va_get (D := D) (ci := 5) (v := .int (G2 0 0)) (C := RX5) (T := TX5) (N := 3) hx hb hu inX5 hown hK.1 hP 7 rfl rfl 0 (by decide) (hu _ q287) (fun _ h9 => h9) rfl dX7_copy_59 ?_
              refine lv_aload_n hx hb dX7_copy_62 rfl (lv_at hl 0 rfl) ?_
              refine va_get (D := D) (ci := 7) (v := .ref (sa 0)) (C := RX7) (T := TX7) (N := 8) hx hb hu inX7 hown hK.1 hP 0 rfl rfl 5 (by decide) (hu _ q305) (fun _ h9 => h9) rfl dX7_copy_63 ?_
              refine lv_iload_n hx hb dX7_copy_66 rfl (lv_at hl 3 rfl) ?_
              refine sa_lit (e := e3 0) hx hb hK hP 2 rfl (k := 3) (by rw [hc204]; decide) rfl dX7_copy_67 ?_
              refine va_get (D := D) (ci := 5) (v := .int (G3 0 0)) (C := RX5) (T := TX5) (N := 3) hx hb hu inX5 hown hK.1 hP 9 rfl rfl 0 (by decide) (hu _ q287) (fun _ h9 => h9) rfl dX7_copy_68 ?_
              refine lv_icmp_eq (tgt := 81) hx hb dX7_copy_71 (by decide) (fun hc208 => ?_) (fun hc208 => ?_)
              · have hf := ip_el hc208 hf
                refine lv_aload_n hx hb dX7_copy_81 rfl (lv_at hl 0 rfl) ?_
                refine va_get (D := D) (ci := 7) (v := .ref (sa 0)) (C := RX7) (T := TX7) (N := 8) hx hb hu inX7 hown hK.1 hP 0 rfl rfl 5 (by decide) (hu _ q305) (fun _ h9 => h9) rfl dX7_copy_82 ?_
                refine lv_iload_n hx hb dX7_copy_85 rfl (lv_at hl 1 rfl) ?_
                refine sa_lit (e := e2 0) hx hb hK hP 2 rfl (k := 2) (by rw [hc152]; decide) rfl dX7_copy_86 ?_
                refine lv_iload_n hx hb dX7_copy_87 rfl (lv_at hl 2 rfl) ?_
                refine lv_iload hx hb dX7_copy_88 (lv_at hl 5 rfl) ?_
                obtain ⟨r209, hg210, hf⟩ := b1_el hf
                refine cc_V (w' := ((kX7 cs x (.ref (g 0)) (.ref (g2 0)) (.ref (g3 0)) (.ref (h 0)) (.ref (t 0)) (.ref (sa 0)) Ma) ++ (kSA cs sa (e0 0) (e1 0) (e2 0) (e3 0)) ++ (kX5 cs e0 (.ref (n0 0)) G0) ++ (kJ40 cs n0 N0) ++ (kX5 cs e1 (.ref (n1 0)) G1) ++ (kJ40 cs n1 N1) ++ (kX5 cs e2 (.ref (n2 0)) G2) ++ (kJ40 cs n2 N2) ++ (kX5 cs e3 (.ref (n3 0)) G3) ++ (kJ40 cs n3 N3))) (wr := ((kX7 cs x (.ref (g 0)) (.ref (g2 0)) (.ref (g3 0)) (.ref (h 0)) (.ref (t 0)) (.ref (sa 0)) Ma) ++ (kSA cs sa (e0 0) (e1 0) (e2 0) (e3 0)) ++ (kX5 cs e0 (.ref (n0 0)) G0) ++ (kJ40 cs n0 N0) ++ (kX5 cs e1 (.ref (n1 0)) G1) ++ (kJ40 cs n1 N1) ++ (kJ40 cs n2 N2) ++ (kX5 cs e3 (.ref (n3 0)) G3) ++ (kJ40 cs n3 N3))) (st1 := [.int r209]) [.int x2, .int x5] hx hb hml hown hu (tX5_holds l D cs e2 n2 x2 x5 G2 r209 hg210) q873 q61 q870 q871 q872 pdX5_holds ⟨rfl, rfl, Nat.le_of_ble_eq_true rfl, Nat.le_of_ble_eq_true rfl⟩ hK hZ hP hD hS hA [7] [0, 1, 2, 3, 4, 5, 6, 8, 9, 10] [0, 1, 2, 3, 4, 5, 6, 10, 7, 8, 9] rfl rfl rfl rfl rfl rfl rfl rfl rfl rfl hl.1 rfl (Nat.le_of_ble_eq_true rfl) dX7_copy_90 rfl (fun H locs hP hD hS => ?_)
                refine lv_if_eq (tgt := 112) hx hb dX7_copy_93 (by decide) (fun hc211 => ?_) (fun hc211 => ?_)
                · have hf := ip_el hc211 hf
                  exact h112 Ma N0 N1 N2 N3 _ _ _ hP hD hS (lv_sub hl [0] rfl) hf
                · have hf := in_el hc211 hf
                  refine lv_aload_n hx hb dX7_copy_96 rfl (lv_at hl 0 rfl) ?_
                  refine va_get (D := D) (ci := 7) (v := .ref (sa 0)) (C := RX7) (T := TX7) (N := 8) hx hb hu inX7 hown hK.1 hP 0 rfl rfl 5 (by decide) (hu _ q305) (fun _ h9 => h9) rfl dX7_copy_97 ?_
                  refine lv_iload_n hx hb dX7_copy_100 rfl (lv_at hl 3 rfl) ?_
                  refine sa_lit (e := e3 0) hx hb hK hP 2 rfl (k := 3) (by rw [hc204]; decide) rfl dX7_copy_101 ?_
                  refine lv_iload hx hb dX7_copy_102 (lv_at hl 4 rfl) ?_
                  refine lv_iload hx hb dX7_copy_104 (lv_at hl 5 rfl) ?_
                  obtain ⟨r212, hg213, hf⟩ := b1_el hf
                  refine cc_V (w' := ((kX7 cs x (.ref (g 0)) (.ref (g2 0)) (.ref (g3 0)) (.ref (h 0)) (.ref (t 0)) (.ref (sa 0)) Ma) ++ (kSA cs sa (e0 0) (e1 0) (e2 0) (e3 0)) ++ (kX5 cs e0 (.ref (n0 0)) G0) ++ (kJ40 cs n0 N0) ++ (kX5 cs e1 (.ref (n1 0)) G1) ++ (kJ40 cs n1 N1) ++ (kX5 cs e2 (.ref (n2 0)) G2) ++ (kJ40 cs n2 N2) ++ (kX5 cs e3 (.ref (n3 0)) G3) ++ (kJ40 cs n3 N3))) (wr := ((kX7 cs x (.ref (g 0)) (.ref (g2 0)) (.ref (g3 0)) (.ref (h 0)) (.ref (t 0)) (.ref (sa 0)) Ma) ++ (kSA cs sa (e0 0) (e1 0) (e2 0) (e3 0)) ++ (kX5 cs e0 (.ref (n0 0)) G0) ++ (kJ40 cs n0 N0) ++ (kX5 cs e1 (.ref (n1 0)) G1) ++ (kJ40 cs n1 N1) ++ (kX5 cs e2 (.ref (n2 0)) G2) ++ (kJ40 cs n2 N2) ++ (kJ40 cs n3 N3))) (st1 := [.int r212]) [.int x4, .int x5] hx hb hml hown hu (tX5_holds l D cs e3 n3 x4 x5 G3 r212 hg213) q873 q61 q870 q871 q872 pdX5_holds ⟨rfl, rfl, Nat.le_of_ble_eq_true rfl, Nat.le_of_ble_eq_true rfl⟩ hK hZ hP hD hS hA [9] [0, 1, 2, 3, 4, 5, 6, 7, 8, 10] [0, 1, 2, 3, 4, 5, 6, 7, 8, 10, 9] rfl rfl rfl rfl rfl rfl rfl rfl rfl rfl hl.1 rfl (Nat.le_of_ble_eq_true rfl) dX7_copy_106 rfl (fun H locs hP hD hS => ?_)
                  refine lv_if_ne (tgt := 119) hx hb dX7_copy_109 (by decide) (fun hc214 => ?_) (fun hc214 => ?_)
                  · have hf := in_el hc214 hf
                    refine lv_aload_n hx hb dX7_copy_119 rfl (lv_at hl 0 rfl) ?_
                    refine va_get (D := D) (ci := 7) (v := .ref (sa 0)) (C := RX7) (T := TX7) (N := 8) hx hb hu inX7 hown hK.1 hP 0 rfl rfl 5 (by decide) (hu _ q305) (fun _ h9 => h9) rfl dX7_copy_120 ?_
                    refine lv_iload_n hx hb dX7_copy_123 rfl (lv_at hl 1 rfl) ?_
                    refine sa_lit (e := e2 0) hx hb hK hP 2 rfl (k := 2) (by rw [hc152]; decide) rfl dX7_copy_124 ?_
                    refine va_get (D := D) (ci := 5) (v := .ref (n2 0)) (C := RX5) (T := TX5) (N := 3) hx hb hu inX5 hown hK.1 hP 7 rfl rfl 2 (by decide) (hu _ q291) (fun _ h9 => h9) rfl dX7_copy_125 ?_
                    refine lv_iload_n hx hb dX7_copy_128 rfl (lv_at hl 2 rfl) ?_
                    refine lv_aload_n hx hb dX7_copy_129 rfl (lv_at hl 0 rfl) ?_
                    refine va_get (D := D) (ci := 7) (v := .ref (sa 0)) (C := RX7) (T := TX7) (N := 8) hx hb hu inX7 hown hK.1 hP 0 rfl rfl 5 (by decide) (hu _ q305) (fun _ h9 => h9) rfl dX7_copy_130 ?_
                    refine lv_iload_n hx hb dX7_copy_133 rfl (lv_at hl 3 rfl) ?_
                    refine sa_lit (e := e3 0) hx hb hK hP 2 rfl (k := 3) (by rw [hc204]; decide) rfl dX7_copy_134 ?_
                    refine va_get (D := D) (ci := 5) (v := .ref (n3 0)) (C := RX5) (T := TX5) (N := 3) hx hb hu inX5 hown hK.1 hP 9 rfl rfl 2 (by decide) (hu _ q291) (fun _ h9 => h9) rfl dX7_copy_135 ?_
                    refine lv_iload hx hb dX7_copy_138 (lv_at hl 4 rfl) ?_
                    refine lv_iload hx hb dX7_copy_140 (lv_at hl 5 rfl) ?_
                    obtain ⟨hq216, hf⟩ := cp_el hf
                    obtain ⟨N3_215, hN3_215, hf⟩ := lt_el hf
                    refine va_copyl hx hb (hml.trans hl.1.symm) hown (hu _ q874) (hu _ q431) (hu _ q430) (hu _ q63) hK.1 hP hD hS 8 10 1 1 rfl rfl rfl rfl rfl hq216.1 hq216.2.1 hq216.2.2.1 hq216.2.2.2.1 hq216.2.2.2.2 (fun _ _ => rfl) (Nat.le_of_ble_eq_true rfl) (Nat.le_of_ble_eq_true rfl) dX7_copy_142 (fun H locs hP hD hS => ?_)
                    have hP : va_P D vwCl ((kX7 cs x (.ref (g 0)) (.ref (g2 0)) (.ref (g3 0)) (.ref (h 0)) (.ref (t 0)) (.ref (sa 0)) Ma) ++ (kSA cs sa (e0 0) (e1 0) (e2 0) (e3 0)) ++ (kX5 cs e0 (.ref (n0 0)) G0) ++ (kJ40 cs n0 N0) ++ (kX5 cs e1 (.ref (n1 0)) G1) ++ (kJ40 cs n1 N1) ++ (kX5 cs e2 (.ref (n2 0)) G2) ++ (kJ40 cs n2 N2) ++ (kX5 cs e3 (.ref (n3 0)) G3) ++ (kJ40 cs n3 N3_215)) H := by rw [hN3_215]; exact hP
                    have hD : va_D A ((kX7 cs x (.ref (g 0)) (.ref (g2 0)) (.ref (g3 0)) (.ref (h 0)) (.ref (t 0)) (.ref (sa 0)) Ma) ++ (kSA cs sa (e0 0) (e1 0) (e2 0) (e3 0)) ++ (kX5 cs e0 (.ref (n0 0)) G0) ++ (kJ40 cs n0 N0) ++ (kX5 cs e1 (.ref (n1 0)) G1) ++ (kJ40 cs n1 N1) ++ (kX5 cs e2 (.ref (n2 0)) G2) ++ (kJ40 cs n2 N2) ++ (kX5 cs e3 (.ref (n3 0)) G3) ++ (kJ40 cs n3 N3_215)) := by rw [hN3_215]; exact hD
                    refine lv_iload hx hb dX7_copy_145 (lv_at hl 5 rfl) ?_
                    have he := Option.some.inj hf
                    obtain ⟨e0, ht0⟩ := Prod.mk.inj he
                    obtain ⟨e1, ht1⟩ := Prod.mk.inj ht0
                    obtain ⟨e2, ht2⟩ := Prod.mk.inj ht1
                    obtain ⟨e3, ht3⟩ := Prod.mk.inj ht2
                    obtain ⟨e4, e5⟩ := Prod.mk.inj ht3
                    exact hri _ _ _ rfl (congrArg (fun z => some (Value.int z)) e0.symm) dX7_copy_147 _ _ _ (by rw [e1, e2, e3, e4, e5]) hP hD hS
                  · have hf := ip_el hc214 hf
                    exact h112 Ma N0 N1 N2 N3 _ _ _ hP hD hS (lv_sub hl [0] rfl) hf
              · have hf := in_el hc208 hf
                refine lv_aload_n hx hb dX7_copy_74 rfl (lv_at hl 0 rfl) ?_
                refine lv_ldc (v := (-1000000003)) hx hb hown (hu _ q465) dX7_copy_75 ?_
                obtain ⟨r217, Ma_218, hg219, hf⟩ := b2_el hf
                refine cc_V (w' := ((kX7 cs x (.ref (g 0)) (.ref (g2 0)) (.ref (g3 0)) (.ref (h 0)) (.ref (t 0)) (.ref (sa 0)) Ma_218) ++ (kSA cs sa (e0 0) (e1 0) (e2 0) (e3 0)) ++ (kX5 cs e0 (.ref (n0 0)) G0) ++ (kJ40 cs n0 N0) ++ (kX5 cs e1 (.ref (n1 0)) G1) ++ (kJ40 cs n1 N1) ++ (kX5 cs e2 (.ref (n2 0)) G2) ++ (kJ40 cs n2 N2) ++ (kX5 cs e3 (.ref (n3 0)) G3) ++ (kJ40 cs n3 N3))) (wr := ((kSA cs sa (e0 0) (e1 0) (e2 0) (e3 0)) ++ (kX5 cs e0 (.ref (n0 0)) G0) ++ (kJ40 cs n0 N0) ++ (kX5 cs e1 (.ref (n1 0)) G1) ++ (kJ40 cs n1 N1) ++ (kX5 cs e2 (.ref (n2 0)) G2) ++ (kJ40 cs n2 N2) ++ (kX5 cs e3 (.ref (n3 0)) G3) ++ (kJ40 cs n3 N3))) (st1 := [.int r217]) [.int (-1000000003)] hx hb hml hown hu (tX7_finding l D cs x g g2 g3 h t sa (-1000000003) Ma r217 Ma_218 hg219) q339 q54 q336 q338 q0 pdX7_finding ⟨rfl, rfl, Nat.le_of_ble_eq_true rfl, Nat.le_of_ble_eq_true rfl⟩ hK hZ hP hD hS hA [0, 1] [2, 3, 4, 5, 6, 7, 8, 9, 10] [9, 10, 0, 1, 2, 3, 4, 5, 6, 7, 8] rfl rfl rfl rfl rfl rfl rfl rfl rfl rfl hl.1 rfl (Nat.le_of_ble_eq_true rfl) dX7_copy_77 rfl (fun H locs hP hD hS => ?_)
                have he := Option.some.inj hf
                obtain ⟨e0, ht0⟩ := Prod.mk.inj he
                obtain ⟨e1, ht1⟩ := Prod.mk.inj ht0
                obtain ⟨e2, ht2⟩ := Prod.mk.inj ht1
                obtain ⟨e3, ht3⟩ := Prod.mk.inj ht2
                obtain ⟨e4, e5⟩ := Prod.mk.inj ht3
                exact hri _ _ _ rfl (congrArg (fun z => some (Value.int z)) e0.symm) dX7_copy_80 _ _ _ (by rw [e1, e2, e3, e4, e5]) hP hD hS
            · have hf := in_el hc207 hf
              exact h45 Ma N0 N1 N2 N3 _ _ _ hP hD hS (lv_sub hl [0] rfl) hf
          have hf := in_el hc204 hf
          exact no_el hf
      have hf := in_el hc152 hf
      by_cases hc220 : x1 = 3
      · have hf := ip_el hc220 hf
        refine sa_lit (e := e3 0) hx hb hK hP 2 rfl (k := 3) (by rw [hc220]; decide) rfl dX7_copy_26 ?_
        obtain ⟨r221, hg222, hf⟩ := b1_el hf
        refine cc_V (w' := ((kX7 cs x (.ref (g 0)) (.ref (g2 0)) (.ref (g3 0)) (.ref (h 0)) (.ref (t 0)) (.ref (sa 0)) Ma) ++ (kSA cs sa (e0 0) (e1 0) (e2 0) (e3 0)) ++ (kX5 cs e0 (.ref (n0 0)) G0) ++ (kJ40 cs n0 N0) ++ (kX5 cs e1 (.ref (n1 0)) G1) ++ (kJ40 cs n1 N1) ++ (kX5 cs e2 (.ref (n2 0)) G2) ++ (kJ40 cs n2 N2) ++ (kX5 cs e3 (.ref (n3 0)) G3) ++ (kJ40 cs n3 N3))) (wr := ((kX7 cs x (.ref (g 0)) (.ref (g2 0)) (.ref (g3 0)) (.ref (h 0)) (.ref (t 0)) (.ref (sa 0)) Ma) ++ (kSA cs sa (e0 0) (e1 0) (e2 0) (e3 0)) ++ (kX5 cs e0 (.ref (n0 0)) G0) ++ (kJ40 cs n0 N0) ++ (kX5 cs e1 (.ref (n1 0)) G1) ++ (kJ40 cs n1 N1) ++ (kX5 cs e2 (.ref (n2 0)) G2) ++ (kJ40 cs n2 N2) ++ (kJ40 cs n3 N3))) (st1 := [.int r221]) [] hx hb hml hown hu (tX5_isMissing l D cs e3 n3 G3 r221 hg222) q860 q61 q857 q858 q859 pdX5_isMissing ⟨rfl, rfl, Nat.le_of_ble_eq_true rfl, Nat.le_of_ble_eq_true rfl⟩ hK hZ hP hD hS hA [9] [0, 1, 2, 3, 4, 5, 6, 7, 8, 10] [0, 1, 2, 3, 4, 5, 6, 7, 8, 10, 9] rfl rfl rfl rfl rfl rfl rfl rfl rfl rfl hl.1 rfl (Nat.le_of_ble_eq_true rfl) dX7_copy_27 rfl (fun H locs hP hD hS => ?_)
        refine lv_if_ne (tgt := 45) hx hb dX7_copy_30 (by decide) (fun hc223 => ?_) (fun hc223 => ?_)
        · have hf := in_el hc223 hf
          exact h45 Ma N0 N1 N2 N3 _ _ _ hP hD hS (lv_sub hl [0] rfl) hf
        · have hf := ip_el hc223 hf
          refine lv_aload_n hx hb dX7_copy_33 rfl (lv_at hl 0 rfl) ?_
          refine va_get (D := D) (ci := 7) (v := .ref (sa 0)) (C := RX7) (T := TX7) (N := 8) hx hb hu inX7 hown hK.1 hP 0 rfl rfl 5 (by decide) (hu _ q305) (fun _ h9 => h9) rfl dX7_copy_34 ?_
          refine lv_iload_n hx hb dX7_copy_37 rfl (lv_at hl 3 rfl) ?_
          by_cases hc224 : x3 = 0
          · have hf := ip_el hc224 hf
            refine sa_lit (e := e0 0) hx hb hK hP 2 rfl (k := 0) (by rw [hc224]; decide) rfl dX7_copy_38 ?_
            obtain ⟨r225, hg226, hf⟩ := b1_el hf
            refine cc_V (w' := ((kX7 cs x (.ref (g 0)) (.ref (g2 0)) (.ref (g3 0)) (.ref (h 0)) (.ref (t 0)) (.ref (sa 0)) Ma) ++ (kSA cs sa (e0 0) (e1 0) (e2 0) (e3 0)) ++ (kX5 cs e0 (.ref (n0 0)) G0) ++ (kJ40 cs n0 N0) ++ (kX5 cs e1 (.ref (n1 0)) G1) ++ (kJ40 cs n1 N1) ++ (kX5 cs e2 (.ref (n2 0)) G2) ++ (kJ40 cs n2 N2) ++ (kX5 cs e3 (.ref (n3 0)) G3) ++ (kJ40 cs n3 N3))) (wr := ((kX7 cs x (.ref (g 0)) (.ref (g2 0)) (.ref (g3 0)) (.ref (h 0)) (.ref (t 0)) (.ref (sa 0)) Ma) ++ (kSA cs sa (e0 0) (e1 0) (e2 0) (e3 0)) ++ (kJ40 cs n0 N0) ++ (kX5 cs e1 (.ref (n1 0)) G1) ++ (kJ40 cs n1 N1) ++ (kX5 cs e2 (.ref (n2 0)) G2) ++ (kJ40 cs n2 N2) ++ (kX5 cs e3 (.ref (n3 0)) G3) ++ (kJ40 cs n3 N3))) (st1 := [.int r225]) [] hx hb hml hown hu (tX5_isMissing l D cs e0 n0 G0 r225 hg226) q860 q61 q857 q858 q859 pdX5_isMissing ⟨rfl, rfl, Nat.le_of_ble_eq_true rfl, Nat.le_of_ble_eq_true rfl⟩ hK hZ hP hD hS hA [3] [0, 1, 2, 4, 5, 6, 7, 8, 9, 10] [0, 1, 2, 10, 3, 4, 5, 6, 7, 8, 9] rfl rfl rfl rfl rfl rfl rfl rfl rfl rfl hl.1 rfl (Nat.le_of_ble_eq_true rfl) dX7_copy_39 rfl (fun H locs hP hD hS => ?_)
            refine lv_if_eq (tgt := 53) hx hb dX7_copy_42 (by decide) (fun hc227 => ?_) (fun hc227 => ?_)
            · have hf := ip_el hc227 hf
              refine lv_aload_n hx hb dX7_copy_53 rfl (lv_at hl 0 rfl) ?_
              refine va_get (D := D) (ci := 7) (v := .ref (sa 0)) (C := RX7) (T := TX7) (N := 8) hx hb hu inX7 hown hK.1 hP 0 rfl rfl 5 (by decide) (hu _ q305) (fun _ h9 => h9) rfl dX7_copy_54 ?_
              refine lv_iload_n hx hb dX7_copy_57 rfl (lv_at hl 1 rfl) ?_
              refine sa_lit (e := e3 0) hx hb hK hP 2 rfl (k := 3) (by rw [hc220]; decide) rfl dX7_copy_58 ?_
              refine va_get (D := D) (ci := 5) (v := .int (G3 0 0)) (C := RX5) (T := TX5) (N := 3) hx hb hu inX5 hown hK.1 hP 9 rfl rfl 0 (by decide) (hu _ q287) (fun _ h9 => h9) rfl dX7_copy_59 ?_
              refine lv_aload_n hx hb dX7_copy_62 rfl (lv_at hl 0 rfl) ?_
              refine va_get (D := D) (ci := 7) (v := .ref (sa 0)) (C := RX7) (T := TX7) (N := 8) hx hb hu inX7 hown hK.1 hP 0 rfl rfl 5 (by decide) (hu _ q305) (fun _ h9 => h9) rfl dX7_copy_63 ?_
              refine lv_iload_n hx hb dX7_copy_66 rfl (lv_at hl 3 rfl) ?_
              refine sa_lit (e := e0 0) hx hb hK hP 2 rfl (k := 0) (by rw [hc224]; decide) rfl dX7_copy_67 ?_
              refine va_get (D := D) (ci := 5) (v := .int (G0 0 0)) (C := RX5) (T := TX5) (N := 3) hx hb hu inX5 hown hK.1 hP 3 rfl rfl 0 (by decide) (hu _ q287) (fun _ h9 => h9) rfl dX7_copy_68 ?_
              refine lv_icmp_eq (tgt := 81) hx hb dX7_copy_71 (by decide) (fun hc228 => ?_) (fun hc228 => ?_)
              · have hf := ip_el hc228 hf
                refine lv_aload_n hx hb dX7_copy_81 rfl (lv_at hl 0 rfl) ?_
                refine va_get (D := D) (ci := 7) (v := .ref (sa 0)) (C := RX7) (T := TX7) (N := 8) hx hb hu inX7 hown hK.1 hP 0 rfl rfl 5 (by decide) (hu _ q305) (fun _ h9 => h9) rfl dX7_copy_82 ?_
                refine lv_iload_n hx hb dX7_copy_85 rfl (lv_at hl 1 rfl) ?_
                refine sa_lit (e := e3 0) hx hb hK hP 2 rfl (k := 3) (by rw [hc220]; decide) rfl dX7_copy_86 ?_
                refine lv_iload_n hx hb dX7_copy_87 rfl (lv_at hl 2 rfl) ?_
                refine lv_iload hx hb dX7_copy_88 (lv_at hl 5 rfl) ?_
                obtain ⟨r229, hg230, hf⟩ := b1_el hf
                refine cc_V (w' := ((kX7 cs x (.ref (g 0)) (.ref (g2 0)) (.ref (g3 0)) (.ref (h 0)) (.ref (t 0)) (.ref (sa 0)) Ma) ++ (kSA cs sa (e0 0) (e1 0) (e2 0) (e3 0)) ++ (kX5 cs e0 (.ref (n0 0)) G0) ++ (kJ40 cs n0 N0) ++ (kX5 cs e1 (.ref (n1 0)) G1) ++ (kJ40 cs n1 N1) ++ (kX5 cs e2 (.ref (n2 0)) G2) ++ (kJ40 cs n2 N2) ++ (kX5 cs e3 (.ref (n3 0)) G3) ++ (kJ40 cs n3 N3))) (wr := ((kX7 cs x (.ref (g 0)) (.ref (g2 0)) (.ref (g3 0)) (.ref (h 0)) (.ref (t 0)) (.ref (sa 0)) Ma) ++ (kSA cs sa (e0 0) (e1 0) (e2 0) (e3 0)) ++ (kX5 cs e0 (.ref (n0 0)) G0) ++ (kJ40 cs n0 N0) ++ (kX5 cs e1 (.ref (n1 0)) G1) ++ (kJ40 cs n1 N1) ++ (kX5 cs e2 (.ref (n2 0)) G2) ++ (kJ40 cs n2 N2) ++ (kJ40 cs n3 N3))) (st1 := [.int r229]) [.int x2, .int x5] hx hb hml hown hu (tX5_holds l D cs e3 n3 x2 x5 G3 r229 hg230) q873 q61 q870 q871 q872 pdX5_holds ⟨rfl, rfl, Nat.le_of_ble_eq_true rfl, Nat.le_of_ble_eq_true rfl⟩ hK hZ hP hD hS hA [9] [0, 1, 2, 3, 4, 5, 6, 7, 8, 10] [0, 1, 2, 3, 4, 5, 6, 7, 8, 10, 9] rfl rfl rfl rfl rfl rfl rfl rfl rfl rfl hl.1 rfl (Nat.le_of_ble_eq_true rfl) dX7_copy_90 rfl (fun H locs hP hD hS => ?_)
                refine lv_if_eq (tgt := 112) hx hb dX7_copy_93 (by decide) (fun hc231 => ?_) (fun hc231 => ?_)
                · have hf := ip_el hc231 hf
                  exact h112 Ma N0 N1 N2 N3 _ _ _ hP hD hS (lv_sub hl [0] rfl) hf
                · have hf := in_el hc231 hf
                  refine lv_aload_n hx hb dX7_copy_96 rfl (lv_at hl 0 rfl) ?_
                  refine va_get (D := D) (ci := 7) (v := .ref (sa 0)) (C := RX7) (T := TX7) (N := 8) hx hb hu inX7 hown hK.1 hP 0 rfl rfl 5 (by decide) (hu _ q305) (fun _ h9 => h9) rfl dX7_copy_97 ?_
                  refine lv_iload_n hx hb dX7_copy_100 rfl (lv_at hl 3 rfl) ?_
                  refine sa_lit (e := e0 0) hx hb hK hP 2 rfl (k := 0) (by rw [hc224]; decide) rfl dX7_copy_101 ?_
                  refine lv_iload hx hb dX7_copy_102 (lv_at hl 4 rfl) ?_
                  refine lv_iload hx hb dX7_copy_104 (lv_at hl 5 rfl) ?_
                  obtain ⟨r232, hg233, hf⟩ := b1_el hf
                  refine cc_V (w' := ((kX7 cs x (.ref (g 0)) (.ref (g2 0)) (.ref (g3 0)) (.ref (h 0)) (.ref (t 0)) (.ref (sa 0)) Ma) ++ (kSA cs sa (e0 0) (e1 0) (e2 0) (e3 0)) ++ (kX5 cs e0 (.ref (n0 0)) G0) ++ (kJ40 cs n0 N0) ++ (kX5 cs e1 (.ref (n1 0)) G1) ++ (kJ40 cs n1 N1) ++ (kX5 cs e2 (.ref (n2 0)) G2) ++ (kJ40 cs n2 N2) ++ (kX5 cs e3 (.ref (n3 0)) G3) ++ (kJ40 cs n3 N3))) (wr := ((kX7 cs x (.ref (g 0)) (.ref (g2 0)) (.ref (g3 0)) (.ref (h 0)) (.ref (t 0)) (.ref (sa 0)) Ma) ++ (kSA cs sa (e0 0) (e1 0) (e2 0) (e3 0)) ++ (kJ40 cs n0 N0) ++ (kX5 cs e1 (.ref (n1 0)) G1) ++ (kJ40 cs n1 N1) ++ (kX5 cs e2 (.ref (n2 0)) G2) ++ (kJ40 cs n2 N2) ++ (kX5 cs e3 (.ref (n3 0)) G3) ++ (kJ40 cs n3 N3))) (st1 := [.int r232]) [.int x4, .int x5] hx hb hml hown hu (tX5_holds l D cs e0 n0 x4 x5 G0 r232 hg233) q873 q61 q870 q871 q872 pdX5_holds ⟨rfl, rfl, Nat.le_of_ble_eq_true rfl, Nat.le_of_ble_eq_true rfl⟩ hK hZ hP hD hS hA [3] [0, 1, 2, 4, 5, 6, 7, 8, 9, 10] [0, 1, 2, 10, 3, 4, 5, 6, 7, 8, 9] rfl rfl rfl rfl rfl rfl rfl rfl rfl rfl hl.1 rfl (Nat.le_of_ble_eq_true rfl) dX7_copy_106 rfl (fun H locs hP hD hS => ?_)
                  refine lv_if_ne (tgt := 119) hx hb dX7_copy_109 (by decide) (fun hc234 => ?_) (fun hc234 => ?_)
                  · have hf := in_el hc234 hf
                    refine lv_aload_n hx hb dX7_copy_119 rfl (lv_at hl 0 rfl) ?_
                    refine va_get (D := D) (ci := 7) (v := .ref (sa 0)) (C := RX7) (T := TX7) (N := 8) hx hb hu inX7 hown hK.1 hP 0 rfl rfl 5 (by decide) (hu _ q305) (fun _ h9 => h9) rfl dX7_copy_120 ?_
                    refine lv_iload_n hx hb dX7_copy_123 rfl (lv_at hl 1 rfl) ?_
                    refine sa_lit (e := e3 0) hx hb hK hP 2 rfl (k := 3) (by rw [hc220]; decide) rfl dX7_copy_124 ?_
                    refine va_get (D := D) (ci := 5) (v := .ref (n3 0)) (C := RX5) (T := TX5) (N := 3) hx hb hu inX5 hown hK.1 hP 9 rfl rfl 2 (by decide) (hu _ q291) (fun _ h9 => h9) rfl dX7_copy_125 ?_
                    refine lv_iload_n hx hb dX7_copy_128 rfl (lv_at hl 2 rfl) ?_
                    refine lv_aload_n hx hb dX7_copy_129 rfl (lv_at hl 0 rfl) ?_
                    refine va_get (D := D) (ci := 7) (v := .ref (sa 0)) (C := RX7) (T := TX7) (N := 8) hx hb hu inX7 hown hK.1 hP 0 rfl rfl 5 (by decide) (hu _ q305) (fun _ h9 => h9) rfl dX7_copy_130 ?_
                    refine lv_iload_n hx hb dX7_copy_133 rfl (lv_at hl 3 rfl) ?_
                    refine sa_lit (e := e0 0) hx hb hK hP 2 rfl (k := 0) (by rw [hc224]; decide) rfl dX7_copy_134 ?_
                    refine va_get (D := D) (ci := 5) (v := .ref (n0 0)) (C := RX5) (T := TX5) (N := 3) hx hb hu inX5 hown hK.1 hP 3 rfl rfl 2 (by decide) (hu _ q291) (fun _ h9 => h9) rfl dX7_copy_135 ?_
                    refine lv_iload hx hb dX7_copy_138 (lv_at hl 4 rfl) ?_
                    refine lv_iload hx hb dX7_copy_140 (lv_at hl 5 rfl) ?_
                    obtain ⟨hq236, hf⟩ := cp_el hf
                    obtain ⟨N0_235, hN0_235, hf⟩ := lt_el hf
                    refine va_copyl hx hb (hml.trans hl.1.symm) hown (hu _ q874) (hu _ q431) (hu _ q430) (hu _ q63) hK.1 hP hD hS 10 4 1 1 rfl rfl rfl rfl rfl hq236.1 hq236.2.1 hq236.2.2.1 hq236.2.2.2.1 hq236.2.2.2.2 (fun _ _ => rfl) (Nat.le_of_ble_eq_true rfl) (Nat.le_of_ble_eq_true rfl) dX7_copy_142 (fun H locs hP hD hS => ?_)
                    have hP : va_P D vwCl ((kX7 cs x (.ref (g 0)) (.ref (g2 0)) (.ref (g3 0)) (.ref (h 0)) (.ref (t 0)) (.ref (sa 0)) Ma) ++ (kSA cs sa (e0 0) (e1 0) (e2 0) (e3 0)) ++ (kX5 cs e0 (.ref (n0 0)) G0) ++ (kJ40 cs n0 N0_235) ++ (kX5 cs e1 (.ref (n1 0)) G1) ++ (kJ40 cs n1 N1) ++ (kX5 cs e2 (.ref (n2 0)) G2) ++ (kJ40 cs n2 N2) ++ (kX5 cs e3 (.ref (n3 0)) G3) ++ (kJ40 cs n3 N3)) H := by rw [hN0_235]; exact hP
                    have hD : va_D A ((kX7 cs x (.ref (g 0)) (.ref (g2 0)) (.ref (g3 0)) (.ref (h 0)) (.ref (t 0)) (.ref (sa 0)) Ma) ++ (kSA cs sa (e0 0) (e1 0) (e2 0) (e3 0)) ++ (kX5 cs e0 (.ref (n0 0)) G0) ++ (kJ40 cs n0 N0_235) ++ (kX5 cs e1 (.ref (n1 0)) G1) ++ (kJ40 cs n1 N1) ++ (kX5 cs e2 (.ref (n2 0)) G2) ++ (kJ40 cs n2 N2) ++ (kX5 cs e3 (.ref (n3 0)) G3) ++ (kJ40 cs n3 N3)) := by rw [hN0_235]; exact hD
                    refine lv_iload hx hb dX7_copy_145 (lv_at hl 5 rfl) ?_
                    have he := Option.some.inj hf
                    obtain ⟨e0, ht0⟩ := Prod.mk.inj he
                    obtain ⟨e1, ht1⟩ := Prod.mk.inj ht0
                    obtain ⟨e2, ht2⟩ := Prod.mk.inj ht1
                    obtain ⟨e3, ht3⟩ := Prod.mk.inj ht2
                    obtain ⟨e4, e5⟩ := Prod.mk.inj ht3
                    exact hri _ _ _ rfl (congrArg (fun z => some (Value.int z)) e0.symm) dX7_copy_147 _ _ _ (by rw [e1, e2, e3, e4, e5]) hP hD hS
                  · have hf := ip_el hc234 hf
                    exact h112 Ma N0 N1 N2 N3 _ _ _ hP hD hS (lv_sub hl [0] rfl) hf
              · have hf := in_el hc228 hf
                refine lv_aload_n hx hb dX7_copy_74 rfl (lv_at hl 0 rfl) ?_
                refine lv_ldc (v := (-1000000003)) hx hb hown (hu _ q465) dX7_copy_75 ?_
                obtain ⟨r237, Ma_238, hg239, hf⟩ := b2_el hf
                refine cc_V (w' := ((kX7 cs x (.ref (g 0)) (.ref (g2 0)) (.ref (g3 0)) (.ref (h 0)) (.ref (t 0)) (.ref (sa 0)) Ma_238) ++ (kSA cs sa (e0 0) (e1 0) (e2 0) (e3 0)) ++ (kX5 cs e0 (.ref (n0 0)) G0) ++ (kJ40 cs n0 N0) ++ (kX5 cs e1 (.ref (n1 0)) G1) ++ (kJ40 cs n1 N1) ++ (kX5 cs e2 (.ref (n2 0)) G2) ++ (kJ40 cs n2 N2) ++ (kX5 cs e3 (.ref (n3 0)) G3) ++ (kJ40 cs n3 N3))) (wr := ((kSA cs sa (e0 0) (e1 0) (e2 0) (e3 0)) ++ (kX5 cs e0 (.ref (n0 0)) G0) ++ (kJ40 cs n0 N0) ++ (kX5 cs e1 (.ref (n1 0)) G1) ++ (kJ40 cs n1 N1) ++ (kX5 cs e2 (.ref (n2 0)) G2) ++ (kJ40 cs n2 N2) ++ (kX5 cs e3 (.ref (n3 0)) G3) ++ (kJ40 cs n3 N3))) (st1 := [.int r237]) [.int (-1000000003)] hx hb hml hown hu (tX7_finding l D cs x g g2 g3 h t sa (-1000000003) Ma r237 Ma_238 hg239) q339 q54 q336 q338 q0 pdX7_finding ⟨rfl, rfl, Nat.le_of_ble_eq_true rfl, Nat.le_of_ble_eq_true rfl⟩ hK hZ hP hD hS hA [0, 1] [2, 3, 4, 5, 6, 7, 8, 9, 10] [9, 10, 0, 1, 2, 3, 4, 5, 6, 7, 8] rfl rfl rfl rfl rfl rfl rfl rfl rfl rfl hl.1 rfl (Nat.le_of_ble_eq_true rfl) dX7_copy_77 rfl (fun H locs hP hD hS => ?_)
                have he := Option.some.inj hf
                obtain ⟨e0, ht0⟩ := Prod.mk.inj he
                obtain ⟨e1, ht1⟩ := Prod.mk.inj ht0
                obtain ⟨e2, ht2⟩ := Prod.mk.inj ht1
                obtain ⟨e3, ht3⟩ := Prod.mk.inj ht2
                obtain ⟨e4, e5⟩ := Prod.mk.inj ht3
                exact hri _ _ _ rfl (congrArg (fun z => some (Value.int z)) e0.symm) dX7_copy_80 _ _ _ (by rw [e1, e2, e3, e4, e5]) hP hD hS
            · have hf := in_el hc227 hf
              exact h45 Ma N0 N1 N2 N3 _ _ _ hP hD hS (lv_sub hl [0] rfl) hf
          have hf := in_el hc224 hf
          by_cases hc240 : x3 = 1
          · have hf := ip_el hc240 hf
            refine sa_lit (e := e1 0) hx hb hK hP 2 rfl (k := 1) (by rw [hc240]; decide) rfl dX7_copy_38 ?_
            obtain ⟨r241, hg242, hf⟩ := b1_el hf
            refine cc_V (w' := ((kX7 cs x (.ref (g 0)) (.ref (g2 0)) (.ref (g3 0)) (.ref (h 0)) (.ref (t 0)) (.ref (sa 0)) Ma) ++ (kSA cs sa (e0 0) (e1 0) (e2 0) (e3 0)) ++ (kX5 cs e0 (.ref (n0 0)) G0) ++ (kJ40 cs n0 N0) ++ (kX5 cs e1 (.ref (n1 0)) G1) ++ (kJ40 cs n1 N1) ++ (kX5 cs e2 (.ref (n2 0)) G2) ++ (kJ40 cs n2 N2) ++ (kX5 cs e3 (.ref (n3 0)) G3) ++ (kJ40 cs n3 N3))) (wr := ((kX7 cs x (.ref (g 0)) (.ref (g2 0)) (.ref (g3 0)) (.ref (h 0)) (.ref (t 0)) (.ref (sa 0)) Ma) ++ (kSA cs sa (e0 0) (e1 0) (e2 0) (e3 0)) ++ (kX5 cs e0 (.ref (n0 0)) G0) ++ (kJ40 cs n0 N0) ++ (kJ40 cs n1 N1) ++ (kX5 cs e2 (.ref (n2 0)) G2) ++ (kJ40 cs n2 N2) ++ (kX5 cs e3 (.ref (n3 0)) G3) ++ (kJ40 cs n3 N3))) (st1 := [.int r241]) [] hx hb hml hown hu (tX5_isMissing l D cs e1 n1 G1 r241 hg242) q860 q61 q857 q858 q859 pdX5_isMissing ⟨rfl, rfl, Nat.le_of_ble_eq_true rfl, Nat.le_of_ble_eq_true rfl⟩ hK hZ hP hD hS hA [5] [0, 1, 2, 3, 4, 6, 7, 8, 9, 10] [0, 1, 2, 3, 4, 10, 5, 6, 7, 8, 9] rfl rfl rfl rfl rfl rfl rfl rfl rfl rfl hl.1 rfl (Nat.le_of_ble_eq_true rfl) dX7_copy_39 rfl (fun H locs hP hD hS => ?_)
            refine lv_if_eq (tgt := 53) hx hb dX7_copy_42 (by decide) (fun hc243 => ?_) (fun hc243 => ?_)
            · have hf := ip_el hc243 hf
              refine lv_aload_n hx hb dX7_copy_53 rfl (lv_at hl 0 rfl) ?_
              refine va_get (D := D) (ci := 7) (v := .ref (sa 0)) (C := RX7) (T := TX7) (N := 8) hx hb hu inX7 hown hK.1 hP 0 rfl rfl 5 (by decide) (hu _ q305) (fun _ h9 => h9) rfl dX7_copy_54 ?_
              refine lv_iload_n hx hb dX7_copy_57 rfl (lv_at hl 1 rfl) ?_
              refine sa_lit (e := e3 0) hx hb hK hP 2 rfl (k := 3) (by rw [hc220]; decide) rfl dX7_copy_58 ?_
              refine va_get (D := D) (ci := 5) (v := .int (G3 0 0)) (C := RX5) (T := TX5) (N := 3) hx hb hu inX5 hown hK.1 hP 9 rfl rfl 0 (by decide) (hu _ q287) (fun _ h9 => h9) rfl dX7_copy_59 ?_
              refine lv_aload_n hx hb dX7_copy_62 rfl (lv_at hl 0 rfl) ?_
              refine va_get (D := D) (ci := 7) (v := .ref (sa 0)) (C := RX7) (T := TX7) (N := 8) hx hb hu inX7 hown hK.1 hP 0 rfl rfl 5 (by decide) (hu _ q305) (fun _ h9 => h9) rfl dX7_copy_63 ?_
              refine lv_iload_n hx hb dX7_copy_66 rfl (lv_at hl 3 rfl) ?_
              refine sa_lit (e := e1 0) hx hb hK hP 2 rfl (k := 1) (by rw [hc240]; decide) rfl dX7_copy_67 ?_
              refine va_get (D := D) (ci := 5) (v := .int (G1 0 0)) (C := RX5) (T := TX5) (N := 3) hx hb hu inX5 hown hK.1 hP 5 rfl rfl 0 (by decide) (hu _ q287) (fun _ h9 => h9) rfl dX7_copy_68 ?_
              refine lv_icmp_eq (tgt := 81) hx hb dX7_copy_71 (by decide) (fun hc244 => ?_) (fun hc244 => ?_)
              · have hf := ip_el hc244 hf
                refine lv_aload_n hx hb dX7_copy_81 rfl (lv_at hl 0 rfl) ?_
                refine va_get (D := D) (ci := 7) (v := .ref (sa 0)) (C := RX7) (T := TX7) (N := 8) hx hb hu inX7 hown hK.1 hP 0 rfl rfl 5 (by decide) (hu _ q305) (fun _ h9 => h9) rfl dX7_copy_82 ?_
                refine lv_iload_n hx hb dX7_copy_85 rfl (lv_at hl 1 rfl) ?_
                refine sa_lit (e := e3 0) hx hb hK hP 2 rfl (k := 3) (by rw [hc220]; decide) rfl dX7_copy_86 ?_
                refine lv_iload_n hx hb dX7_copy_87 rfl (lv_at hl 2 rfl) ?_
                refine lv_iload hx hb dX7_copy_88 (lv_at hl 5 rfl) ?_
                obtain ⟨r245, hg246, hf⟩ := b1_el hf
                refine cc_V (w' := ((kX7 cs x (.ref (g 0)) (.ref (g2 0)) (.ref (g3 0)) (.ref (h 0)) (.ref (t 0)) (.ref (sa 0)) Ma) ++ (kSA cs sa (e0 0) (e1 0) (e2 0) (e3 0)) ++ (kX5 cs e0 (.ref (n0 0)) G0) ++ (kJ40 cs n0 N0) ++ (kX5 cs e1 (.ref (n1 0)) G1) ++ (kJ40 cs n1 N1) ++ (kX5 cs e2 (.ref (n2 0)) G2) ++ (kJ40 cs n2 N2) ++ (kX5 cs e3 (.ref (n3 0)) G3) ++ (kJ40 cs n3 N3))) (wr := ((kX7 cs x (.ref (g 0)) (.ref (g2 0)) (.ref (g3 0)) (.ref (h 0)) (.ref (t 0)) (.ref (sa 0)) Ma) ++ (kSA cs sa (e0 0) (e1 0) (e2 0) (e3 0)) ++ (kX5 cs e0 (.ref (n0 0)) G0) ++ (kJ40 cs n0 N0) ++ (kX5 cs e1 (.ref (n1 0)) G1) ++ (kJ40 cs n1 N1) ++ (kX5 cs e2 (.ref (n2 0)) G2) ++ (kJ40 cs n2 N2) ++ (kJ40 cs n3 N3))) (st1 := [.int r245]) [.int x2, .int x5] hx hb hml hown hu (tX5_holds l D cs e3 n3 x2 x5 G3 r245 hg246) q873 q61 q870 q871 q872 pdX5_holds ⟨rfl, rfl, Nat.le_of_ble_eq_true rfl, Nat.le_of_ble_eq_true rfl⟩ hK hZ hP hD hS hA [9] [0, 1, 2, 3, 4, 5, 6, 7, 8, 10] [0, 1, 2, 3, 4, 5, 6, 7, 8, 10, 9] rfl rfl rfl rfl rfl rfl rfl rfl rfl rfl hl.1 rfl (Nat.le_of_ble_eq_true rfl) dX7_copy_90 rfl (fun H locs hP hD hS => ?_)
                refine lv_if_eq (tgt := 112) hx hb dX7_copy_93 (by decide) (fun hc247 => ?_) (fun hc247 => ?_)
                · have hf := ip_el hc247 hf
                  exact h112 Ma N0 N1 N2 N3 _ _ _ hP hD hS (lv_sub hl [0] rfl) hf
                · have hf := in_el hc247 hf
                  refine lv_aload_n hx hb dX7_copy_96 rfl (lv_at hl 0 rfl) ?_
                  refine va_get (D := D) (ci := 7) (v := .ref (sa 0)) (C := RX7) (T := TX7) (N := 8) hx hb hu inX7 hown hK.1 hP 0 rfl rfl 5 (by decide) (hu _ q305) (fun _ h9 => h9) rfl dX7_copy_97 ?_
                  refine lv_iload_n hx hb dX7_copy_100 rfl (lv_at hl 3 rfl) ?_
                  refine sa_lit (e := e1 0) hx hb hK hP 2 rfl (k := 1) (by rw [hc240]; decide) rfl dX7_copy_101 ?_
                  refine lv_iload hx hb dX7_copy_102 (lv_at hl 4 rfl) ?_
                  refine lv_iload hx hb dX7_copy_104 (lv_at hl 5 rfl) ?_
                  obtain ⟨r248, hg249, hf⟩ := b1_el hf
                  refine cc_V (w' := ((kX7 cs x (.ref (g 0)) (.ref (g2 0)) (.ref (g3 0)) (.ref (h 0)) (.ref (t 0)) (.ref (sa 0)) Ma) ++ (kSA cs sa (e0 0) (e1 0) (e2 0) (e3 0)) ++ (kX5 cs e0 (.ref (n0 0)) G0) ++ (kJ40 cs n0 N0) ++ (kX5 cs e1 (.ref (n1 0)) G1) ++ (kJ40 cs n1 N1) ++ (kX5 cs e2 (.ref (n2 0)) G2) ++ (kJ40 cs n2 N2) ++ (kX5 cs e3 (.ref (n3 0)) G3) ++ (kJ40 cs n3 N3))) (wr := ((kX7 cs x (.ref (g 0)) (.ref (g2 0)) (.ref (g3 0)) (.ref (h 0)) (.ref (t 0)) (.ref (sa 0)) Ma) ++ (kSA cs sa (e0 0) (e1 0) (e2 0) (e3 0)) ++ (kX5 cs e0 (.ref (n0 0)) G0) ++ (kJ40 cs n0 N0) ++ (kJ40 cs n1 N1) ++ (kX5 cs e2 (.ref (n2 0)) G2) ++ (kJ40 cs n2 N2) ++ (kX5 cs e3 (.ref (n3 0)) G3) ++ (kJ40 cs n3 N3))) (st1 := [.int r248]) [.int x4, .int x5] hx hb hml hown hu (tX5_holds l D cs e1 n1 x4 x5 G1 r248 hg249) q873 q61 q870 q871 q872 pdX5_holds ⟨rfl, rfl, Nat.le_of_ble_eq_true rfl, Nat.le_of_ble_eq_true rfl⟩ hK hZ hP hD hS hA [5] [0, 1, 2, 3, 4, 6, 7, 8, 9, 10] [0, 1, 2, 3, 4, 10, 5, 6, 7, 8, 9] rfl rfl rfl rfl rfl rfl rfl rfl rfl rfl hl.1 rfl (Nat.le_of_ble_eq_true rfl) dX7_copy_106 rfl (fun H locs hP hD hS => ?_)
                  refine lv_if_ne (tgt := 119) hx hb dX7_copy_109 (by decide) (fun hc250 => ?_) (fun hc250 => ?_)
                  · have hf := in_el hc250 hf
                    refine lv_aload_n hx hb dX7_copy_119 rfl (lv_at hl 0 rfl) ?_
                    refine va_get (D := D) (ci := 7) (v := .ref (sa 0)) (C := RX7) (T := TX7) (N := 8) hx hb hu inX7 hown hK.1 hP 0 rfl rfl 5 (by decide) (hu _ q305) (fun _ h9 => h9) rfl dX7_copy_120 ?_
                    refine lv_iload_n hx hb dX7_copy_123 rfl (lv_at hl 1 rfl) ?_
                    refine sa_lit (e := e3 0) hx hb hK hP 2 rfl (k := 3) (by rw [hc220]; decide) rfl dX7_copy_124 ?_
                    refine va_get (D := D) (ci := 5) (v := .ref (n3 0)) (C := RX5) (T := TX5) (N := 3) hx hb hu inX5 hown hK.1 hP 9 rfl rfl 2 (by decide) (hu _ q291) (fun _ h9 => h9) rfl dX7_copy_125 ?_
                    refine lv_iload_n hx hb dX7_copy_128 rfl (lv_at hl 2 rfl) ?_
                    refine lv_aload_n hx hb dX7_copy_129 rfl (lv_at hl 0 rfl) ?_
                    refine va_get (D := D) (ci := 7) (v := .ref (sa 0)) (C := RX7) (T := TX7) (N := 8) hx hb hu inX7 hown hK.1 hP 0 rfl rfl 5 (by decide) (hu _ q305) (fun _ h9 => h9) rfl dX7_copy_130 ?_
                    refine lv_iload_n hx hb dX7_copy_133 rfl (lv_at hl 3 rfl) ?_
                    refine sa_lit (e := e1 0) hx hb hK hP 2 rfl (k := 1) (by rw [hc240]; decide) rfl dX7_copy_134 ?_
                    refine va_get (D := D) (ci := 5) (v := .ref (n1 0)) (C := RX5) (T := TX5) (N := 3) hx hb hu inX5 hown hK.1 hP 5 rfl rfl 2 (by decide) (hu _ q291) (fun _ h9 => h9) rfl dX7_copy_135 ?_
                    refine lv_iload hx hb dX7_copy_138 (lv_at hl 4 rfl) ?_
                    refine lv_iload hx hb dX7_copy_140 (lv_at hl 5 rfl) ?_
                    obtain ⟨hq252, hf⟩ := cp_el hf
                    obtain ⟨N1_251, hN1_251, hf⟩ := lt_el hf
                    refine va_copyl hx hb (hml.trans hl.1.symm) hown (hu _ q874) (hu _ q431) (hu _ q430) (hu _ q63) hK.1 hP hD hS 10 6 1 1 rfl rfl rfl rfl rfl hq252.1 hq252.2.1 hq252.2.2.1 hq252.2.2.2.1 hq252.2.2.2.2 (fun _ _ => rfl) (Nat.le_of_ble_eq_true rfl) (Nat.le_of_ble_eq_true rfl) dX7_copy_142 (fun H locs hP hD hS => ?_)
                    have hP : va_P D vwCl ((kX7 cs x (.ref (g 0)) (.ref (g2 0)) (.ref (g3 0)) (.ref (h 0)) (.ref (t 0)) (.ref (sa 0)) Ma) ++ (kSA cs sa (e0 0) (e1 0) (e2 0) (e3 0)) ++ (kX5 cs e0 (.ref (n0 0)) G0) ++ (kJ40 cs n0 N0) ++ (kX5 cs e1 (.ref (n1 0)) G1) ++ (kJ40 cs n1 N1_251) ++ (kX5 cs e2 (.ref (n2 0)) G2) ++ (kJ40 cs n2 N2) ++ (kX5 cs e3 (.ref (n3 0)) G3) ++ (kJ40 cs n3 N3)) H := by rw [hN1_251]; exact hP
                    have hD : va_D A ((kX7 cs x (.ref (g 0)) (.ref (g2 0)) (.ref (g3 0)) (.ref (h 0)) (.ref (t 0)) (.ref (sa 0)) Ma) ++ (kSA cs sa (e0 0) (e1 0) (e2 0) (e3 0)) ++ (kX5 cs e0 (.ref (n0 0)) G0) ++ (kJ40 cs n0 N0) ++ (kX5 cs e1 (.ref (n1 0)) G1) ++ (kJ40 cs n1 N1_251) ++ (kX5 cs e2 (.ref (n2 0)) G2) ++ (kJ40 cs n2 N2) ++ (kX5 cs e3 (.ref (n3 0)) G3) ++ (kJ40 cs n3 N3)) := by rw [hN1_251]; exact hD
                    refine lv_iload hx hb dX7_copy_145 (lv_at hl 5 rfl) ?_
                    have he := Option.some.inj hf
                    obtain ⟨e0, ht0⟩ := Prod.mk.inj he
                    obtain ⟨e1, ht1⟩ := Prod.mk.inj ht0
                    obtain ⟨e2, ht2⟩ := Prod.mk.inj ht1
                    obtain ⟨e3, ht3⟩ := Prod.mk.inj ht2
                    obtain ⟨e4, e5⟩ := Prod.mk.inj ht3
                    exact hri _ _ _ rfl (congrArg (fun z => some (Value.int z)) e0.symm) dX7_copy_147 _ _ _ (by rw [e1, e2, e3, e4, e5]) hP hD hS
                  · have hf := ip_el hc250 hf
                    exact h112 Ma N0 N1 N2 N3 _ _ _ hP hD hS (lv_sub hl [0] rfl) hf
              · have hf := in_el hc244 hf
                refine lv_aload_n hx hb dX7_copy_74 rfl (lv_at hl 0 rfl) ?_
                refine lv_ldc (v := (-1000000003)) hx hb hown (hu _ q465) dX7_copy_75 ?_
                obtain ⟨r253, Ma_254, hg255, hf⟩ := b2_el hf
                refine cc_V (w' := ((kX7 cs x (.ref (g 0)) (.ref (g2 0)) (.ref (g3 0)) (.ref (h 0)) (.ref (t 0)) (.ref (sa 0)) Ma_254) ++ (kSA cs sa (e0 0) (e1 0) (e2 0) (e3 0)) ++ (kX5 cs e0 (.ref (n0 0)) G0) ++ (kJ40 cs n0 N0) ++ (kX5 cs e1 (.ref (n1 0)) G1) ++ (kJ40 cs n1 N1) ++ (kX5 cs e2 (.ref (n2 0)) G2) ++ (kJ40 cs n2 N2) ++ (kX5 cs e3 (.ref (n3 0)) G3) ++ (kJ40 cs n3 N3))) (wr := ((kSA cs sa (e0 0) (e1 0) (e2 0) (e3 0)) ++ (kX5 cs e0 (.ref (n0 0)) G0) ++ (kJ40 cs n0 N0) ++ (kX5 cs e1 (.ref (n1 0)) G1) ++ (kJ40 cs n1 N1) ++ (kX5 cs e2 (.ref (n2 0)) G2) ++ (kJ40 cs n2 N2) ++ (kX5 cs e3 (.ref (n3 0)) G3) ++ (kJ40 cs n3 N3))) (st1 := [.int r253]) [.int (-1000000003)] hx hb hml hown hu (tX7_finding l D cs x g g2 g3 h t sa (-1000000003) Ma r253 Ma_254 hg255) q339 q54 q336 q338 q0 pdX7_finding ⟨rfl, rfl, Nat.le_of_ble_eq_true rfl, Nat.le_of_ble_eq_true rfl⟩ hK hZ hP hD hS hA [0, 1] [2, 3, 4, 5, 6, 7, 8, 9, 10] [9, 10, 0, 1, 2, 3, 4, 5, 6, 7, 8] rfl rfl rfl rfl rfl rfl rfl rfl rfl rfl hl.1 rfl (Nat.le_of_ble_eq_true rfl) dX7_copy_77 rfl (fun H locs hP hD hS => ?_)
                have he := Option.some.inj hf
                obtain ⟨e0, ht0⟩ := Prod.mk.inj he
                obtain ⟨e1, ht1⟩ := Prod.mk.inj ht0
                obtain ⟨e2, ht2⟩ := Prod.mk.inj ht1
                obtain ⟨e3, ht3⟩ := Prod.mk.inj ht2
                obtain ⟨e4, e5⟩ := Prod.mk.inj ht3
                exact hri _ _ _ rfl (congrArg (fun z => some (Value.int z)) e0.symm) dX7_copy_80 _ _ _ (by rw [e1, e2, e3, e4, e5]) hP hD hS
            · have hf := in_el hc243 hf
              exact h45 Ma N0 N1 N2 N3 _ _ _ hP hD hS (lv_sub hl [0] rfl) hf
          have hf := in_el hc240 hf
          by_cases hc256 : x3 = 2
          · have hf := ip_el hc256 hf
            refine sa_lit (e := e2 0) hx hb hK hP 2 rfl (k := 2) (by rw [hc256]; decide) rfl dX7_copy_38 ?_
            obtain ⟨r257, hg258, hf⟩ := b1_el hf
            refine cc_V (w' := ((kX7 cs x (.ref (g 0)) (.ref (g2 0)) (.ref (g3 0)) (.ref (h 0)) (.ref (t 0)) (.ref (sa 0)) Ma) ++ (kSA cs sa (e0 0) (e1 0) (e2 0) (e3 0)) ++ (kX5 cs e0 (.ref (n0 0)) G0) ++ (kJ40 cs n0 N0) ++ (kX5 cs e1 (.ref (n1 0)) G1) ++ (kJ40 cs n1 N1) ++ (kX5 cs e2 (.ref (n2 0)) G2) ++ (kJ40 cs n2 N2) ++ (kX5 cs e3 (.ref (n3 0)) G3) ++ (kJ40 cs n3 N3))) (wr := ((kX7 cs x (.ref (g 0)) (.ref (g2 0)) (.ref (g3 0)) (.ref (h 0)) (.ref (t 0)) (.ref (sa 0)) Ma) ++ (kSA cs sa (e0 0) (e1 0) (e2 0) (e3 0)) ++ (kX5 cs e0 (.ref (n0 0)) G0) ++ (kJ40 cs n0 N0) ++ (kX5 cs e1 (.ref (n1 0)) G1) ++ (kJ40 cs n1 N1) ++ (kJ40 cs n2 N2) ++ (kX5 cs e3 (.ref (n3 0)) G3) ++ (kJ40 cs n3 N3))) (st1 := [.int r257]) [] hx hb hml hown hu (tX5_isMissing l D cs e2 n2 G2 r257 hg258) q860 q61 q857 q858 q859 pdX5_isMissing ⟨rfl, rfl, Nat.le_of_ble_eq_true rfl, Nat.le_of_ble_eq_true rfl⟩ hK hZ hP hD hS hA [7] [0, 1, 2, 3, 4, 5, 6, 8, 9, 10] [0, 1, 2, 3, 4, 5, 6, 10, 7, 8, 9] rfl rfl rfl rfl rfl rfl rfl rfl rfl rfl hl.1 rfl (Nat.le_of_ble_eq_true rfl) dX7_copy_39 rfl (fun H locs hP hD hS => ?_)
            refine lv_if_eq (tgt := 53) hx hb dX7_copy_42 (by decide) (fun hc259 => ?_) (fun hc259 => ?_)
            · have hf := ip_el hc259 hf
              refine lv_aload_n hx hb dX7_copy_53 rfl (lv_at hl 0 rfl) ?_
              refine va_get (D := D) (ci := 7) (v := .ref (sa 0)) (C := RX7) (T := TX7) (N := 8) hx hb hu inX7 hown hK.1 hP 0 rfl rfl 5 (by decide) (hu _ q305) (fun _ h9 => h9) rfl dX7_copy_54 ?_
              refine lv_iload_n hx hb dX7_copy_57 rfl (lv_at hl 1 rfl) ?_
              refine sa_lit (e := e3 0) hx hb hK hP 2 rfl (k := 3) (by rw [hc220]; decide) rfl dX7_copy_58 ?_
              refine va_get (D := D) (ci := 5) (v := .int (G3 0 0)) (C := RX5) (T := TX5) (N := 3) hx hb hu inX5 hown hK.1 hP 9 rfl rfl 0 (by decide) (hu _ q287) (fun _ h9 => h9) rfl dX7_copy_59 ?_
              refine lv_aload_n hx hb dX7_copy_62 rfl (lv_at hl 0 rfl) ?_
              refine va_get (D := D) (ci := 7) (v := .ref (sa 0)) (C := RX7) (T := TX7) (N := 8) hx hb hu inX7 hown hK.1 hP 0 rfl rfl 5 (by decide) (hu _ q305) (fun _ h9 => h9) rfl dX7_copy_63 ?_
              refine lv_iload_n hx hb dX7_copy_66 rfl (lv_at hl 3 rfl) ?_
              refine sa_lit (e := e2 0) hx hb hK hP 2 rfl (k := 2) (by rw [hc256]; decide) rfl dX7_copy_67 ?_
              refine va_get (D := D) (ci := 5) (v := .int (G2 0 0)) (C := RX5) (T := TX5) (N := 3) hx hb hu inX5 hown hK.1 hP 7 rfl rfl 0 (by decide) (hu _ q287) (fun _ h9 => h9) rfl dX7_copy_68 ?_
              refine lv_icmp_eq (tgt := 81) hx hb dX7_copy_71 (by decide) (fun hc260 => ?_) (fun hc260 => ?_)
              · have hf := ip_el hc260 hf
                refine lv_aload_n hx hb dX7_copy_81 rfl (lv_at hl 0 rfl) ?_
                refine va_get (D := D) (ci := 7) (v := .ref (sa 0)) (C := RX7) (T := TX7) (N := 8) hx hb hu inX7 hown hK.1 hP 0 rfl rfl 5 (by decide) (hu _ q305) (fun _ h9 => h9) rfl dX7_copy_82 ?_
                refine lv_iload_n hx hb dX7_copy_85 rfl (lv_at hl 1 rfl) ?_
                refine sa_lit (e := e3 0) hx hb hK hP 2 rfl (k := 3) (by rw [hc220]; decide) rfl dX7_copy_86 ?_
                refine lv_iload_n hx hb dX7_copy_87 rfl (lv_at hl 2 rfl) ?_
                refine lv_iload hx hb dX7_copy_88 (lv_at hl 5 rfl) ?_
                obtain ⟨r261, hg262, hf⟩ := b1_el hf
                refine cc_V (w' := ((kX7 cs x (.ref (g 0)) (.ref (g2 0)) (.ref (g3 0)) (.ref (h 0)) (.ref (t 0)) (.ref (sa 0)) Ma) ++ (kSA cs sa (e0 0) (e1 0) (e2 0) (e3 0)) ++ (kX5 cs e0 (.ref (n0 0)) G0) ++ (kJ40 cs n0 N0) ++ (kX5 cs e1 (.ref (n1 0)) G1) ++ (kJ40 cs n1 N1) ++ (kX5 cs e2 (.ref (n2 0)) G2) ++ (kJ40 cs n2 N2) ++ (kX5 cs e3 (.ref (n3 0)) G3) ++ (kJ40 cs n3 N3))) (wr := ((kX7 cs x (.ref (g 0)) (.ref (g2 0)) (.ref (g3 0)) (.ref (h 0)) (.ref (t 0)) (.ref (sa 0)) Ma) ++ (kSA cs sa (e0 0) (e1 0) (e2 0) (e3 0)) ++ (kX5 cs e0 (.ref (n0 0)) G0) ++ (kJ40 cs n0 N0) ++ (kX5 cs e1 (.ref (n1 0)) G1) ++ (kJ40 cs n1 N1) ++ (kX5 cs e2 (.ref (n2 0)) G2) ++ (kJ40 cs n2 N2) ++ (kJ40 cs n3 N3))) (st1 := [.int r261]) [.int x2, .int x5] hx hb hml hown hu (tX5_holds l D cs e3 n3 x2 x5 G3 r261 hg262) q873 q61 q870 q871 q872 pdX5_holds ⟨rfl, rfl, Nat.le_of_ble_eq_true rfl, Nat.le_of_ble_eq_true rfl⟩ hK hZ hP hD hS hA [9] [0, 1, 2, 3, 4, 5, 6, 7, 8, 10] [0, 1, 2, 3, 4, 5, 6, 7, 8, 10, 9] rfl rfl rfl rfl rfl rfl rfl rfl rfl rfl hl.1 rfl (Nat.le_of_ble_eq_true rfl) dX7_copy_90 rfl (fun H locs hP hD hS => ?_)
                refine lv_if_eq (tgt := 112) hx hb dX7_copy_93 (by decide) (fun hc263 => ?_) (fun hc263 => ?_)
                · have hf := ip_el hc263 hf
                  exact h112 Ma N0 N1 N2 N3 _ _ _ hP hD hS (lv_sub hl [0] rfl) hf
                · have hf := in_el hc263 hf
                  refine lv_aload_n hx hb dX7_copy_96 rfl (lv_at hl 0 rfl) ?_
                  refine va_get (D := D) (ci := 7) (v := .ref (sa 0)) (C := RX7) (T := TX7) (N := 8) hx hb hu inX7 hown hK.1 hP 0 rfl rfl 5 (by decide) (hu _ q305) (fun _ h9 => h9) rfl dX7_copy_97 ?_
                  refine lv_iload_n hx hb dX7_copy_100 rfl (lv_at hl 3 rfl) ?_
                  refine sa_lit (e := e2 0) hx hb hK hP 2 rfl (k := 2) (by rw [hc256]; decide) rfl dX7_copy_101 ?_
                  refine lv_iload hx hb dX7_copy_102 (lv_at hl 4 rfl) ?_
                  refine lv_iload hx hb dX7_copy_104 (lv_at hl 5 rfl) ?_
                  obtain ⟨r264, hg265, hf⟩ := b1_el hf
                  refine cc_V (w' := ((kX7 cs x (.ref (g 0)) (.ref (g2 0)) (.ref (g3 0)) (.ref (h 0)) (.ref (t 0)) (.ref (sa 0)) Ma) ++ (kSA cs sa (e0 0) (e1 0) (e2 0) (e3 0)) ++ (kX5 cs e0 (.ref (n0 0)) G0) ++ (kJ40 cs n0 N0) ++ (kX5 cs e1 (.ref (n1 0)) G1) ++ (kJ40 cs n1 N1) ++ (kX5 cs e2 (.ref (n2 0)) G2) ++ (kJ40 cs n2 N2) ++ (kX5 cs e3 (.ref (n3 0)) G3) ++ (kJ40 cs n3 N3))) (wr := ((kX7 cs x (.ref (g 0)) (.ref (g2 0)) (.ref (g3 0)) (.ref (h 0)) (.ref (t 0)) (.ref (sa 0)) Ma) ++ (kSA cs sa (e0 0) (e1 0) (e2 0) (e3 0)) ++ (kX5 cs e0 (.ref (n0 0)) G0) ++ (kJ40 cs n0 N0) ++ (kX5 cs e1 (.ref (n1 0)) G1) ++ (kJ40 cs n1 N1) ++ (kJ40 cs n2 N2) ++ (kX5 cs e3 (.ref (n3 0)) G3) ++ (kJ40 cs n3 N3))) (st1 := [.int r264]) [.int x4, .int x5] hx hb hml hown hu (tX5_holds l D cs e2 n2 x4 x5 G2 r264 hg265) q873 q61 q870 q871 q872 pdX5_holds ⟨rfl, rfl, Nat.le_of_ble_eq_true rfl, Nat.le_of_ble_eq_true rfl⟩ hK hZ hP hD hS hA [7] [0, 1, 2, 3, 4, 5, 6, 8, 9, 10] [0, 1, 2, 3, 4, 5, 6, 10, 7, 8, 9] rfl rfl rfl rfl rfl rfl rfl rfl rfl rfl hl.1 rfl (Nat.le_of_ble_eq_true rfl) dX7_copy_106 rfl (fun H locs hP hD hS => ?_)
                  refine lv_if_ne (tgt := 119) hx hb dX7_copy_109 (by decide) (fun hc266 => ?_) (fun hc266 => ?_)
                  · have hf := in_el hc266 hf
                    refine lv_aload_n hx hb dX7_copy_119 rfl (lv_at hl 0 rfl) ?_
                    refine va_get (D := D) (ci := 7) (v := .ref (sa 0)) (C := RX7) (T := TX7) (N := 8) hx hb hu inX7 hown hK.1 hP 0 rfl rfl 5 (by decide) (hu _ q305) (fun _ h9 => h9) rfl dX7_copy_120 ?_
                    refine lv_iload_n hx hb dX7_copy_123 rfl (lv_at hl 1 rfl) ?_
                    refine sa_lit (e := e3 0) hx hb hK hP 2 rfl (k := 3) (by rw [hc220]; decide) rfl dX7_copy_124 ?_
                    refine va_get (D := D) (ci := 5) (v := .ref (n3 0)) (C := RX5) (T := TX5) (N := 3) hx hb hu inX5 hown hK.1 hP 9 rfl rfl 2 (by decide) (hu _ q291) (fun _ h9 => h9) rfl dX7_copy_125 ?_
                    refine lv_iload_n hx hb dX7_copy_128 rfl (lv_at hl 2 rfl) ?_
                    refine lv_aload_n hx hb dX7_copy_129 rfl (lv_at hl 0 rfl) ?_
                    refine va_get (D := D) (ci := 7) (v := .ref (sa 0)) (C := RX7) (T := TX7) (N := 8) hx hb hu inX7 hown hK.1 hP 0 rfl rfl 5 (by decide) (hu _ q305) (fun _ h9 => h9) rfl dX7_copy_130 ?_
                    refine lv_iload_n hx hb dX7_copy_133 rfl (lv_at hl 3 rfl) ?_
                    refine sa_lit (e := e2 0) hx hb hK hP 2 rfl (k := 2) (by rw [hc256]; decide) rfl dX7_copy_134 ?_
                    refine va_get (D := D) (ci := 5) (v := .ref (n2 0)) (C := RX5) (T := TX5) (N := 3) hx hb hu inX5 hown hK.1 hP 7 rfl rfl 2 (by decide) (hu _ q291) (fun _ h9 => h9) rfl dX7_copy_135 ?_
                    refine lv_iload hx hb dX7_copy_138 (lv_at hl 4 rfl) ?_
                    refine lv_iload hx hb dX7_copy_140 (lv_at hl 5 rfl) ?_
                    obtain ⟨hq268, hf⟩ := cp_el hf
                    obtain ⟨N2_267, hN2_267, hf⟩ := lt_el hf
                    refine va_copyl hx hb (hml.trans hl.1.symm) hown (hu _ q874) (hu _ q431) (hu _ q430) (hu _ q63) hK.1 hP hD hS 10 8 1 1 rfl rfl rfl rfl rfl hq268.1 hq268.2.1 hq268.2.2.1 hq268.2.2.2.1 hq268.2.2.2.2 (fun _ _ => rfl) (Nat.le_of_ble_eq_true rfl) (Nat.le_of_ble_eq_true rfl) dX7_copy_142 (fun H locs hP hD hS => ?_)
                    have hP : va_P D vwCl ((kX7 cs x (.ref (g 0)) (.ref (g2 0)) (.ref (g3 0)) (.ref (h 0)) (.ref (t 0)) (.ref (sa 0)) Ma) ++ (kSA cs sa (e0 0) (e1 0) (e2 0) (e3 0)) ++ (kX5 cs e0 (.ref (n0 0)) G0) ++ (kJ40 cs n0 N0) ++ (kX5 cs e1 (.ref (n1 0)) G1) ++ (kJ40 cs n1 N1) ++ (kX5 cs e2 (.ref (n2 0)) G2) ++ (kJ40 cs n2 N2_267) ++ (kX5 cs e3 (.ref (n3 0)) G3) ++ (kJ40 cs n3 N3)) H := by rw [hN2_267]; exact hP
                    have hD : va_D A ((kX7 cs x (.ref (g 0)) (.ref (g2 0)) (.ref (g3 0)) (.ref (h 0)) (.ref (t 0)) (.ref (sa 0)) Ma) ++ (kSA cs sa (e0 0) (e1 0) (e2 0) (e3 0)) ++ (kX5 cs e0 (.ref (n0 0)) G0) ++ (kJ40 cs n0 N0) ++ (kX5 cs e1 (.ref (n1 0)) G1) ++ (kJ40 cs n1 N1) ++ (kX5 cs e2 (.ref (n2 0)) G2) ++ (kJ40 cs n2 N2_267) ++ (kX5 cs e3 (.ref (n3 0)) G3) ++ (kJ40 cs n3 N3)) := by rw [hN2_267]; exact hD
                    refine lv_iload hx hb dX7_copy_145 (lv_at hl 5 rfl) ?_
                    have he := Option.some.inj hf
                    obtain ⟨e0, ht0⟩ := Prod.mk.inj he
                    obtain ⟨e1, ht1⟩ := Prod.mk.inj ht0
                    obtain ⟨e2, ht2⟩ := Prod.mk.inj ht1
                    obtain ⟨e3, ht3⟩ := Prod.mk.inj ht2
                    obtain ⟨e4, e5⟩ := Prod.mk.inj ht3
                    exact hri _ _ _ rfl (congrArg (fun z => some (Value.int z)) e0.symm) dX7_copy_147 _ _ _ (by rw [e1, e2, e3, e4, e5]) hP hD hS
                  · have hf := ip_el hc266 hf
                    exact h112 Ma N0 N1 N2 N3 _ _ _ hP hD hS (lv_sub hl [0] rfl) hf
              · have hf := in_el hc260 hf
                refine lv_aload_n hx hb dX7_copy_74 rfl (lv_at hl 0 rfl) ?_
                refine lv_ldc (v := (-1000000003)) hx hb hown (hu _ q465) dX7_copy_75 ?_
                obtain ⟨r269, Ma_270, hg271, hf⟩ := b2_el hf
                refine cc_V (w' := ((kX7 cs x (.ref (g 0)) (.ref (g2 0)) (.ref (g3 0)) (.ref (h 0)) (.ref (t 0)) (.ref (sa 0)) Ma_270) ++ (kSA cs sa (e0 0) (e1 0) (e2 0) (e3 0)) ++ (kX5 cs e0 (.ref (n0 0)) G0) ++ (kJ40 cs n0 N0) ++ (kX5 cs e1 (.ref (n1 0)) G1) ++ (kJ40 cs n1 N1) ++ (kX5 cs e2 (.ref (n2 0)) G2) ++ (kJ40 cs n2 N2) ++ (kX5 cs e3 (.ref (n3 0)) G3) ++ (kJ40 cs n3 N3))) (wr := ((kSA cs sa (e0 0) (e1 0) (e2 0) (e3 0)) ++ (kX5 cs e0 (.ref (n0 0)) G0) ++ (kJ40 cs n0 N0) ++ (kX5 cs e1 (.ref (n1 0)) G1) ++ (kJ40 cs n1 N1) ++ (kX5 cs e2 (.ref (n2 0)) G2) ++ (kJ40 cs n2 N2) ++ (kX5 cs e3 (.ref (n3 0)) G3) ++ (kJ40 cs n3 N3))) (st1 := [.int r269]) [.int (-1000000003)] hx hb hml hown hu (tX7_finding l D cs x g g2 g3 h t sa (-1000000003) Ma r269 Ma_270 hg271) q339 q54 q336 q338 q0 pdX7_finding ⟨rfl, rfl, Nat.le_of_ble_eq_true rfl, Nat.le_of_ble_eq_true rfl⟩ hK hZ hP hD hS hA [0, 1] [2, 3, 4, 5, 6, 7, 8, 9, 10] [9, 10, 0, 1, 2, 3, 4, 5, 6, 7, 8] rfl rfl rfl rfl rfl rfl rfl rfl rfl rfl hl.1 rfl (Nat.le_of_ble_eq_true rfl) dX7_copy_77 rfl (fun H locs hP hD hS => ?_)
                have he := Option.some.inj hf
                obtain ⟨e0, ht0⟩ := Prod.mk.inj he
                obtain ⟨e1, ht1⟩ := Prod.mk.inj ht0
                obtain ⟨e2, ht2⟩ := Prod.mk.inj ht1
                obtain ⟨e3, ht3⟩ := Prod.mk.inj ht2
                obtain ⟨e4, e5⟩ := Prod.mk.inj ht3
                exact hri _ _ _ rfl (congrArg (fun z => some (Value.int z)) e0.symm) dX7_copy_80 _ _ _ (by rw [e1, e2, e3, e4, e5]) hP hD hS
            · have hf := in_el hc259 hf
              exact h45 Ma N0 N1 N2 N3 _ _ _ hP hD hS (lv_sub hl [0] rfl) hf
          have hf := in_el hc256 hf
          by_cases hc272 : x3 = 3
          · have hf := ip_el hc272 hf
            refine sa_lit (e := e3 0) hx hb hK hP 2 rfl (k := 3) (by rw [hc272]; decide) rfl dX7_copy_38 ?_
            obtain ⟨r273, hg274, hf⟩ := b1_el hf
            refine cc_V (w' := ((kX7 cs x (.ref (g 0)) (.ref (g2 0)) (.ref (g3 0)) (.ref (h 0)) (.ref (t 0)) (.ref (sa 0)) Ma) ++ (kSA cs sa (e0 0) (e1 0) (e2 0) (e3 0)) ++ (kX5 cs e0 (.ref (n0 0)) G0) ++ (kJ40 cs n0 N0) ++ (kX5 cs e1 (.ref (n1 0)) G1) ++ (kJ40 cs n1 N1) ++ (kX5 cs e2 (.ref (n2 0)) G2) ++ (kJ40 cs n2 N2) ++ (kX5 cs e3 (.ref (n3 0)) G3) ++ (kJ40 cs n3 N3))) (wr := ((kX7 cs x (.ref (g 0)) (.ref (g2 0)) (.ref (g3 0)) (.ref (h 0)) (.ref (t 0)) (.ref (sa 0)) Ma) ++ (kSA cs sa (e0 0) (e1 0) (e2 0) (e3 0)) ++ (kX5 cs e0 (.ref (n0 0)) G0) ++ (kJ40 cs n0 N0) ++ (kX5 cs e1 (.ref (n1 0)) G1) ++ (kJ40 cs n1 N1) ++ (kX5 cs e2 (.ref (n2 0)) G2) ++ (kJ40 cs n2 N2) ++ (kJ40 cs n3 N3))) (st1 := [.int r273]) [] hx hb hml hown hu (tX5_isMissing l D cs e3 n3 G3 r273 hg274) q860 q61 q857 q858 q859 pdX5_isMissing ⟨rfl, rfl, Nat.le_of_ble_eq_true rfl, Nat.le_of_ble_eq_true rfl⟩ hK hZ hP hD hS hA [9] [0, 1, 2, 3, 4, 5, 6, 7, 8, 10] [0, 1, 2, 3, 4, 5, 6, 7, 8, 10, 9] rfl rfl rfl rfl rfl rfl rfl rfl rfl rfl hl.1 rfl (Nat.le_of_ble_eq_true rfl) dX7_copy_39 rfl (fun H locs hP hD hS => ?_)
            refine lv_if_eq (tgt := 53) hx hb dX7_copy_42 (by decide) (fun hc275 => ?_) (fun hc275 => ?_)
            · have hf := ip_el hc275 hf
              refine lv_aload_n hx hb dX7_copy_53 rfl (lv_at hl 0 rfl) ?_
              refine va_get (D := D) (ci := 7) (v := .ref (sa 0)) (C := RX7) (T := TX7) (N := 8) hx hb hu inX7 hown hK.1 hP 0 rfl rfl 5 (by decide) (hu _ q305) (fun _ h9 => h9) rfl dX7_copy_54 ?_
              refine lv_iload_n hx hb dX7_copy_57 rfl (lv_at hl 1 rfl) ?_
              refine sa_lit (e := e3 0) hx hb hK hP 2 rfl (k := 3) (by rw [hc220]; decide) rfl dX7_copy_58 ?_
              refine va_get (D := D) (ci := 5) (v := .int (G3 0 0)) (C := RX5) (T := TX5) (N := 3) hx hb hu inX5 hown hK.1 hP 9 rfl rfl 0 (by decide) (hu _ q287) (fun _ h9 => h9) rfl dX7_copy_59 ?_
              refine lv_aload_n hx hb dX7_copy_62 rfl (lv_at hl 0 rfl) ?_
              refine va_get (D := D) (ci := 7) (v := .ref (sa 0)) (C := RX7) (T := TX7) (N := 8) hx hb hu inX7 hown hK.1 hP 0 rfl rfl 5 (by decide) (hu _ q305) (fun _ h9 => h9) rfl dX7_copy_63 ?_
              refine lv_iload_n hx hb dX7_copy_66 rfl (lv_at hl 3 rfl) ?_
              refine sa_lit (e := e3 0) hx hb hK hP 2 rfl (k := 3) (by rw [hc272]; decide) rfl dX7_copy_67 ?_
              refine va_get (D := D) (ci := 5) (v := .int (G3 0 0)) (C := RX5) (T := TX5) (N := 3) hx hb hu inX5 hown hK.1 hP 9 rfl rfl 0 (by decide) (hu _ q287) (fun _ h9 => h9) rfl dX7_copy_68 ?_
              refine lv_icmp_eq (tgt := 81) hx hb dX7_copy_71 (by decide) (fun hc276 => ?_) (fun hc276 => ?_)
              · have hf := ip_el hc276 hf
                refine lv_aload_n hx hb dX7_copy_81 rfl (lv_at hl 0 rfl) ?_
                refine va_get (D := D) (ci := 7) (v := .ref (sa 0)) (C := RX7) (T := TX7) (N := 8) hx hb hu inX7 hown hK.1 hP 0 rfl rfl 5 (by decide) (hu _ q305) (fun _ h9 => h9) rfl dX7_copy_82 ?_
                refine lv_iload_n hx hb dX7_copy_85 rfl (lv_at hl 1 rfl) ?_
                refine sa_lit (e := e3 0) hx hb hK hP 2 rfl (k := 3) (by rw [hc220]; decide) rfl dX7_copy_86 ?_
                refine lv_iload_n hx hb dX7_copy_87 rfl (lv_at hl 2 rfl) ?_
                refine lv_iload hx hb dX7_copy_88 (lv_at hl 5 rfl) ?_
                obtain ⟨r277, hg278, hf⟩ := b1_el hf
                refine cc_V (w' := ((kX7 cs x (.ref (g 0)) (.ref (g2 0)) (.ref (g3 0)) (.ref (h 0)) (.ref (t 0)) (.ref (sa 0)) Ma) ++ (kSA cs sa (e0 0) (e1 0) (e2 0) (e3 0)) ++ (kX5 cs e0 (.ref (n0 0)) G0) ++ (kJ40 cs n0 N0) ++ (kX5 cs e1 (.ref (n1 0)) G1) ++ (kJ40 cs n1 N1) ++ (kX5 cs e2 (.ref (n2 0)) G2) ++ (kJ40 cs n2 N2) ++ (kX5 cs e3 (.ref (n3 0)) G3) ++ (kJ40 cs n3 N3))) (wr := ((kX7 cs x (.ref (g 0)) (.ref (g2 0)) (.ref (g3 0)) (.ref (h 0)) (.ref (t 0)) (.ref (sa 0)) Ma) ++ (kSA cs sa (e0 0) (e1 0) (e2 0) (e3 0)) ++ (kX5 cs e0 (.ref (n0 0)) G0) ++ (kJ40 cs n0 N0) ++ (kX5 cs e1 (.ref (n1 0)) G1) ++ (kJ40 cs n1 N1) ++ (kX5 cs e2 (.ref (n2 0)) G2) ++ (kJ40 cs n2 N2) ++ (kJ40 cs n3 N3))) (st1 := [.int r277]) [.int x2, .int x5] hx hb hml hown hu (tX5_holds l D cs e3 n3 x2 x5 G3 r277 hg278) q873 q61 q870 q871 q872 pdX5_holds ⟨rfl, rfl, Nat.le_of_ble_eq_true rfl, Nat.le_of_ble_eq_true rfl⟩ hK hZ hP hD hS hA [9] [0, 1, 2, 3, 4, 5, 6, 7, 8, 10] [0, 1, 2, 3, 4, 5, 6, 7, 8, 10, 9] rfl rfl rfl rfl rfl rfl rfl rfl rfl rfl hl.1 rfl (Nat.le_of_ble_eq_true rfl) dX7_copy_90 rfl (fun H locs hP hD hS => ?_)
                refine lv_if_eq (tgt := 112) hx hb dX7_copy_93 (by decide) (fun hc279 => ?_) (fun hc279 => ?_)
                · have hf := ip_el hc279 hf
                  exact h112 Ma N0 N1 N2 N3 _ _ _ hP hD hS (lv_sub hl [0] rfl) hf
                · have hf := in_el hc279 hf
                  refine lv_aload_n hx hb dX7_copy_96 rfl (lv_at hl 0 rfl) ?_
                  refine va_get (D := D) (ci := 7) (v := .ref (sa 0)) (C := RX7) (T := TX7) (N := 8) hx hb hu inX7 hown hK.1 hP 0 rfl rfl 5 (by decide) (hu _ q305) (fun _ h9 => h9) rfl dX7_copy_97 ?_
                  refine lv_iload_n hx hb dX7_copy_100 rfl (lv_at hl 3 rfl) ?_
                  refine sa_lit (e := e3 0) hx hb hK hP 2 rfl (k := 3) (by rw [hc272]; decide) rfl dX7_copy_101 ?_
                  refine lv_iload hx hb dX7_copy_102 (lv_at hl 4 rfl) ?_
                  refine lv_iload hx hb dX7_copy_104 (lv_at hl 5 rfl) ?_
                  obtain ⟨r280, hg281, hf⟩ := b1_el hf
                  refine cc_V (w' := ((kX7 cs x (.ref (g 0)) (.ref (g2 0)) (.ref (g3 0)) (.ref (h 0)) (.ref (t 0)) (.ref (sa 0)) Ma) ++ (kSA cs sa (e0 0) (e1 0) (e2 0) (e3 0)) ++ (kX5 cs e0 (.ref (n0 0)) G0) ++ (kJ40 cs n0 N0) ++ (kX5 cs e1 (.ref (n1 0)) G1) ++ (kJ40 cs n1 N1) ++ (kX5 cs e2 (.ref (n2 0)) G2) ++ (kJ40 cs n2 N2) ++ (kX5 cs e3 (.ref (n3 0)) G3) ++ (kJ40 cs n3 N3))) (wr := ((kX7 cs x (.ref (g 0)) (.ref (g2 0)) (.ref (g3 0)) (.ref (h 0)) (.ref (t 0)) (.ref (sa 0)) Ma) ++ (kSA cs sa (e0 0) (e1 0) (e2 0) (e3 0)) ++ (kX5 cs e0 (.ref (n0 0)) G0) ++ (kJ40 cs n0 N0) ++ (kX5 cs e1 (.ref (n1 0)) G1) ++ (kJ40 cs n1 N1) ++ (kX5 cs e2 (.ref (n2 0)) G2) ++ (kJ40 cs n2 N2) ++ (kJ40 cs n3 N3))) (st1 := [.int r280]) [.int x4, .int x5] hx hb hml hown hu (tX5_holds l D cs e3 n3 x4 x5 G3 r280 hg281) q873 q61 q870 q871 q872 pdX5_holds ⟨rfl, rfl, Nat.le_of_ble_eq_true rfl, Nat.le_of_ble_eq_true rfl⟩ hK hZ hP hD hS hA [9] [0, 1, 2, 3, 4, 5, 6, 7, 8, 10] [0, 1, 2, 3, 4, 5, 6, 7, 8, 10, 9] rfl rfl rfl rfl rfl rfl rfl rfl rfl rfl hl.1 rfl (Nat.le_of_ble_eq_true rfl) dX7_copy_106 rfl (fun H locs hP hD hS => ?_)
                  refine lv_if_ne (tgt := 119) hx hb dX7_copy_109 (by decide) (fun hc282 => ?_) (fun hc282 => ?_)
                  · have hf := in_el hc282 hf
                    refine lv_aload_n hx hb dX7_copy_119 rfl (lv_at hl 0 rfl) ?_
                    refine va_get (D := D) (ci := 7) (v := .ref (sa 0)) (C := RX7) (T := TX7) (N := 8) hx hb hu inX7 hown hK.1 hP 0 rfl rfl 5 (by decide) (hu _ q305) (fun _ h9 => h9) rfl dX7_copy_120 ?_
                    refine lv_iload_n hx hb dX7_copy_123 rfl (lv_at hl 1 rfl) ?_
                    refine sa_lit (e := e3 0) hx hb hK hP 2 rfl (k := 3) (by rw [hc220]; decide) rfl dX7_copy_124 ?_
                    refine va_get (D := D) (ci := 5) (v := .ref (n3 0)) (C := RX5) (T := TX5) (N := 3) hx hb hu inX5 hown hK.1 hP 9 rfl rfl 2 (by decide) (hu _ q291) (fun _ h9 => h9) rfl dX7_copy_125 ?_
                    refine lv_iload_n hx hb dX7_copy_128 rfl (lv_at hl 2 rfl) ?_
                    refine lv_aload_n hx hb dX7_copy_129 rfl (lv_at hl 0 rfl) ?_
                    refine va_get (D := D) (ci := 7) (v := .ref (sa 0)) (C := RX7) (T := TX7) (N := 8) hx hb hu inX7 hown hK.1 hP 0 rfl rfl 5 (by decide) (hu _ q305) (fun _ h9 => h9) rfl dX7_copy_130 ?_
                    refine lv_iload_n hx hb dX7_copy_133 rfl (lv_at hl 3 rfl) ?_
                    refine sa_lit (e := e3 0) hx hb hK hP 2 rfl (k := 3) (by rw [hc272]; decide) rfl dX7_copy_134 ?_
                    refine va_get (D := D) (ci := 5) (v := .ref (n3 0)) (C := RX5) (T := TX5) (N := 3) hx hb hu inX5 hown hK.1 hP 9 rfl rfl 2 (by decide) (hu _ q291) (fun _ h9 => h9) rfl dX7_copy_135 ?_
                    refine lv_iload hx hb dX7_copy_138 (lv_at hl 4 rfl) ?_
                    refine lv_iload hx hb dX7_copy_140 (lv_at hl 5 rfl) ?_
                    obtain ⟨hq284, hf⟩ := cp_el hf
                    obtain ⟨N3_283, hN3_283, hf⟩ := lt_el hf
                    refine va_copyl hx hb (hml.trans hl.1.symm) hown (hu _ q874) (hu _ q431) (hu _ q430) (hu _ q63) hK.1 hP hD hS 10 10 1 1 rfl rfl rfl rfl rfl hq284.1 hq284.2.1 hq284.2.2.1 hq284.2.2.2.1 hq284.2.2.2.2 (fun _ _ => rfl) (Nat.le_of_ble_eq_true rfl) (Nat.le_of_ble_eq_true rfl) dX7_copy_142 (fun H locs hP hD hS => ?_)
                    have hP : va_P D vwCl ((kX7 cs x (.ref (g 0)) (.ref (g2 0)) (.ref (g3 0)) (.ref (h 0)) (.ref (t 0)) (.ref (sa 0)) Ma) ++ (kSA cs sa (e0 0) (e1 0) (e2 0) (e3 0)) ++ (kX5 cs e0 (.ref (n0 0)) G0) ++ (kJ40 cs n0 N0) ++ (kX5 cs e1 (.ref (n1 0)) G1) ++ (kJ40 cs n1 N1) ++ (kX5 cs e2 (.ref (n2 0)) G2) ++ (kJ40 cs n2 N2) ++ (kX5 cs e3 (.ref (n3 0)) G3) ++ (kJ40 cs n3 N3_283)) H := by rw [hN3_283]; exact hP
                    have hD : va_D A ((kX7 cs x (.ref (g 0)) (.ref (g2 0)) (.ref (g3 0)) (.ref (h 0)) (.ref (t 0)) (.ref (sa 0)) Ma) ++ (kSA cs sa (e0 0) (e1 0) (e2 0) (e3 0)) ++ (kX5 cs e0 (.ref (n0 0)) G0) ++ (kJ40 cs n0 N0) ++ (kX5 cs e1 (.ref (n1 0)) G1) ++ (kJ40 cs n1 N1) ++ (kX5 cs e2 (.ref (n2 0)) G2) ++ (kJ40 cs n2 N2) ++ (kX5 cs e3 (.ref (n3 0)) G3) ++ (kJ40 cs n3 N3_283)) := by rw [hN3_283]; exact hD
                    refine lv_iload hx hb dX7_copy_145 (lv_at hl 5 rfl) ?_
                    have he := Option.some.inj hf
                    obtain ⟨e0, ht0⟩ := Prod.mk.inj he
                    obtain ⟨e1, ht1⟩ := Prod.mk.inj ht0
                    obtain ⟨e2, ht2⟩ := Prod.mk.inj ht1
                    obtain ⟨e3, ht3⟩ := Prod.mk.inj ht2
                    obtain ⟨e4, e5⟩ := Prod.mk.inj ht3
                    exact hri _ _ _ rfl (congrArg (fun z => some (Value.int z)) e0.symm) dX7_copy_147 _ _ _ (by rw [e1, e2, e3, e4, e5]) hP hD hS
                  · have hf := ip_el hc282 hf
                    exact h112 Ma N0 N1 N2 N3 _ _ _ hP hD hS (lv_sub hl [0] rfl) hf
              · have hf := in_el hc276 hf
                refine lv_aload_n hx hb dX7_copy_74 rfl (lv_at hl 0 rfl) ?_
                refine lv_ldc (v := (-1000000003)) hx hb hown (hu _ q465) dX7_copy_75 ?_
                obtain ⟨r285, Ma_286, hg287, hf⟩ := b2_el hf
                refine cc_V (w' := ((kX7 cs x (.ref (g 0)) (.ref (g2 0)) (.ref (g3 0)) (.ref (h 0)) (.ref (t 0)) (.ref (sa 0)) Ma_286) ++ (kSA cs sa (e0 0) (e1 0) (e2 0) (e3 0)) ++ (kX5 cs e0 (.ref (n0 0)) G0) ++ (kJ40 cs n0 N0) ++ (kX5 cs e1 (.ref (n1 0)) G1) ++ (kJ40 cs n1 N1) ++ (kX5 cs e2 (.ref (n2 0)) G2) ++ (kJ40 cs n2 N2) ++ (kX5 cs e3 (.ref (n3 0)) G3) ++ (kJ40 cs n3 N3))) (wr := ((kSA cs sa (e0 0) (e1 0) (e2 0) (e3 0)) ++ (kX5 cs e0 (.ref (n0 0)) G0) ++ (kJ40 cs n0 N0) ++ (kX5 cs e1 (.ref (n1 0)) G1) ++ (kJ40 cs n1 N1) ++ (kX5 cs e2 (.ref (n2 0)) G2) ++ (kJ40 cs n2 N2) ++ (kX5 cs e3 (.ref (n3 0)) G3) ++ (kJ40 cs n3 N3))) (st1 := [.int r285]) [.int (-1000000003)] hx hb hml hown hu (tX7_finding l D cs x g g2 g3 h t sa (-1000000003) Ma r285 Ma_286 hg287) q339 q54 q336 q338 q0 pdX7_finding ⟨rfl, rfl, Nat.le_of_ble_eq_true rfl, Nat.le_of_ble_eq_true rfl⟩ hK hZ hP hD hS hA [0, 1] [2, 3, 4, 5, 6, 7, 8, 9, 10] [9, 10, 0, 1, 2, 3, 4, 5, 6, 7, 8] rfl rfl rfl rfl rfl rfl rfl rfl rfl rfl hl.1 rfl (Nat.le_of_ble_eq_true rfl) dX7_copy_77 rfl (fun H locs hP hD hS => ?_)
                have he := Option.some.inj hf
                obtain ⟨e0, ht0⟩ := Prod.mk.inj he
                obtain ⟨e1, ht1⟩ := Prod.mk.inj ht0
                obtain ⟨e2, ht2⟩ := Prod.mk.inj ht1
                obtain ⟨e3, ht3⟩ := Prod.mk.inj ht2
                obtain ⟨e4, e5⟩ := Prod.mk.inj ht3
                exact hri _ _ _ rfl (congrArg (fun z => some (Value.int z)) e0.symm) dX7_copy_80 _ _ _ (by rw [e1, e2, e3, e4, e5]) hP hD hS
            · have hf := in_el hc275 hf
              exact h45 Ma N0 N1 N2 N3 _ _ _ hP hD hS (lv_sub hl [0] rfl) hf
          have hf := in_el hc272 hf
          exact no_el hf
      have hf := in_el hc220 hf
      exact no_el hf
    · have hf := ip_el hc9 hf
      exact h14 Ma N0 N1 N2 N3 _ _ _ hP hD hS (lv_sub hl [0] rfl) hf

def fX7_lays_78_s (G0 : ST) (N0 : LT) (G1 : ST) (N1 : LT) (G2 : ST) (N2 : LT) (G3 : ST) (N3 : LT) (k78 : Int32 → Int32 → Int32 → Int32 → Int32 → ST → ST → Option (Int32 × ST × ST)) (y1 : Int32) (y2 : Int32) (y3 : Int32) (y4 : Int32) (y5 : Int32) (Ma : ST) (Fo : ST) : Option (Int32 × ST × ST) :=
  (if y4 ≤ y5 then some (y3, Ma, Fo) else (if y1 = 0 then dc_ck y5 40 (dc_lt (N0 (Int32.toNatClampNeg y5)) (fun v15 => (if y5 = y2 then dc_lt (y5 + 1) (fun v17 => k78 y1 y2 y3 y4 v17 Ma Fo) else (if (lg_cmp v15 (-9)) < 0 then dc_lt (y5 + 1) (fun v19 => k78 y1 y2 y3 y4 v19 Ma Fo) else (if 0 < (lg_cmp v15 9) then dc_lt (y5 + 1) (fun v21 => k78 y1 y2 y3 y4 v21 Ma Fo) else dc_ck ((y2 * 10) + y5) 100 (dc_lt (sti Fo 7 (Int32.toNatClampNeg ((y2 * 10) + y5)) (v15.toInt32)) (fun Fo_23 => dc_lt (y3 + 1) (fun v24 => dc_lt (y5 + 1) (fun v25 => k78 y1 y2 v24 y4 v25 Ma Fo_23))))))))) else if y1 = 1 then dc_ck y5 40 (dc_lt (N1 (Int32.toNatClampNeg y5)) (fun v28 => (if y5 = y2 then dc_lt (y5 + 1) (fun v30 => k78 y1 y2 y3 y4 v30 Ma Fo) else (if (lg_cmp v28 (-9)) < 0 then dc_lt (y5 + 1) (fun v32 => k78 y1 y2 y3 y4 v32 Ma Fo) else (if 0 < (lg_cmp v28 9) then dc_lt (y5 + 1) (fun v34 => k78 y1 y2 y3 y4 v34 Ma Fo) else dc_ck ((y2 * 10) + y5) 100 (dc_lt (sti Fo 7 (Int32.toNatClampNeg ((y2 * 10) + y5)) (v28.toInt32)) (fun Fo_36 => dc_lt (y3 + 1) (fun v37 => dc_lt (y5 + 1) (fun v38 => k78 y1 y2 v37 y4 v38 Ma Fo_36))))))))) else if y1 = 2 then dc_ck y5 40 (dc_lt (N2 (Int32.toNatClampNeg y5)) (fun v41 => (if y5 = y2 then dc_lt (y5 + 1) (fun v43 => k78 y1 y2 y3 y4 v43 Ma Fo) else (if (lg_cmp v41 (-9)) < 0 then dc_lt (y5 + 1) (fun v45 => k78 y1 y2 y3 y4 v45 Ma Fo) else (if 0 < (lg_cmp v41 9) then dc_lt (y5 + 1) (fun v47 => k78 y1 y2 y3 y4 v47 Ma Fo) else dc_ck ((y2 * 10) + y5) 100 (dc_lt (sti Fo 7 (Int32.toNatClampNeg ((y2 * 10) + y5)) (v41.toInt32)) (fun Fo_49 => dc_lt (y3 + 1) (fun v50 => dc_lt (y5 + 1) (fun v51 => k78 y1 y2 v50 y4 v51 Ma Fo_49))))))))) else if y1 = 3 then dc_ck y5 40 (dc_lt (N3 (Int32.toNatClampNeg y5)) (fun v54 => (if y5 = y2 then dc_lt (y5 + 1) (fun v56 => k78 y1 y2 y3 y4 v56 Ma Fo) else (if (lg_cmp v54 (-9)) < 0 then dc_lt (y5 + 1) (fun v58 => k78 y1 y2 y3 y4 v58 Ma Fo) else (if 0 < (lg_cmp v54 9) then dc_lt (y5 + 1) (fun v60 => k78 y1 y2 y3 y4 v60 Ma Fo) else dc_ck ((y2 * 10) + y5) 100 (dc_lt (sti Fo 7 (Int32.toNatClampNeg ((y2 * 10) + y5)) (v54.toInt32)) (fun Fo_62 => dc_lt (y3 + 1) (fun v63 => dc_lt (y5 + 1) (fun v64 => k78 y1 y2 v63 y4 v64 Ma Fo_62))))))))) else none))
def fX7_lays_78 (G0 : ST) (N0 : LT) (G1 : ST) (N1 : LT) (G2 : ST) (N2 : LT) (G3 : ST) (N3 : LT) : Nat → Int32 → Int32 → Int32 → Int32 → Int32 → ST → ST → Option (Int32 × ST × ST)
  | 0 => fun _ _ _ _ _ _ _ => none
  | n + 1 => fX7_lays_78_s G0 N0 G1 N1 G2 N2 G3 N3 (fX7_lays_78 G0 N0 G1 N1 G2 N2 G3 N3 n)
def fX7_lays (x1 : Int32) (x2 : Int32) (Ma : ST) (Fo : ST) (G0 : ST) (N0 : LT) (G1 : ST) (N1 : LT) (G2 : ST) (N2 : LT) (G3 : ST) (N3 : LT) : Option (Int32 × ST × ST) :=
  dc_b1 (fX7_isSheet x1) (fun r1 => (if r1 = 0 then dc_b2 (fX7_finding (-1000000001) Ma) (fun r113 Ma_114 => some (r113, Ma_114, Fo)) else (if x1 = 0 then dc_b1 (fX5_isMissing G0) (fun r5 => (if r5 = 0 then dc_b1 (fX7_isOne x2 Ma Fo) (fun r8 => (if r8 = 0 then dc_b2 (fX7_finding (-1000000001) Ma) (fun r65 Ma_66 => some (r65, Ma_66, Fo)) else dc_lt (if (Fo 0 0) < (G0 0 1) then (Fo 0 0) else (G0 0 1)) (fun v11 => fX7_lays_78 G0 N0 G1 N1 G2 N2 G3 N3 400 x1 x2 0 v11 0 Ma Fo))) else dc_b2 (fX7_finding (-1000000006) Ma) (fun r68 Ma_69 => some (r68, Ma_69, Fo)))) else if x1 = 1 then dc_b1 (fX5_isMissing G1) (fun r72 => (if r72 = 0 then dc_b1 (fX7_isOne x2 Ma Fo) (fun r75 => (if r75 = 0 then dc_b2 (fX7_finding (-1000000001) Ma) (fun r79 Ma_80 => some (r79, Ma_80, Fo)) else dc_lt (if (Fo 0 0) < (G1 0 1) then (Fo 0 0) else (G1 0 1)) (fun v78 => fX7_lays_78 G0 N0 G1 N1 G2 N2 G3 N3 400 x1 x2 0 v78 0 Ma Fo))) else dc_b2 (fX7_finding (-1000000006) Ma) (fun r82 Ma_83 => some (r82, Ma_83, Fo)))) else if x1 = 2 then dc_b1 (fX5_isMissing G2) (fun r86 => (if r86 = 0 then dc_b1 (fX7_isOne x2 Ma Fo) (fun r89 => (if r89 = 0 then dc_b2 (fX7_finding (-1000000001) Ma) (fun r93 Ma_94 => some (r93, Ma_94, Fo)) else dc_lt (if (Fo 0 0) < (G2 0 1) then (Fo 0 0) else (G2 0 1)) (fun v92 => fX7_lays_78 G0 N0 G1 N1 G2 N2 G3 N3 400 x1 x2 0 v92 0 Ma Fo))) else dc_b2 (fX7_finding (-1000000006) Ma) (fun r96 Ma_97 => some (r96, Ma_97, Fo)))) else if x1 = 3 then dc_b1 (fX5_isMissing G3) (fun r100 => (if r100 = 0 then dc_b1 (fX7_isOne x2 Ma Fo) (fun r103 => (if r103 = 0 then dc_b2 (fX7_finding (-1000000001) Ma) (fun r107 Ma_108 => some (r107, Ma_108, Fo)) else dc_lt (if (Fo 0 0) < (G3 0 1) then (Fo 0 0) else (G3 0 1)) (fun v106 => fX7_lays_78 G0 N0 G1 N1 G2 N2 G3 N3 400 x1 x2 0 v106 0 Ma Fo))) else dc_b2 (fX7_finding (-1000000006) Ma) (fun r110 Ma_111 => some (r110, Ma_111, Fo)))) else none)))
abbrev rmX7_lays : Room := { frames := 2, cells := 0, slots := 0, locals := 43 }
set_option maxRecDepth 100000 in
set_option maxHeartbeats 4000000 in
theorem tX7_lays (l : Launch) (D : va_G) (cs : Nat → ClassId) (x : Nat → Nat) (g : Nat → Nat) (g2 : Nat → Nat) (g3 : Nat → Nat) (h : Nat → Nat) (t : Nat → Nat) (sa : Nat → Nat) (b : Nat → Nat) (c : Nat → Nat) (d : Nat → Nat) (a : Nat → Nat) (e0 : Nat → Nat) (e1 : Nat → Nat) (e2 : Nat → Nat) (e3 : Nat → Nat) (n0 : Nat → Nat) (n1 : Nat → Nat) (n2 : Nat → Nat) (n3 : Nat → Nat) (x1 : Int32) (x2 : Int32) (Ma : ST) (Fo : ST) (G0 : ST) (N0 : LT) (G1 : ST) (N1 : LT) (G2 : ST) (N2 : LT) (G3 : ST) (N3 : LT) (r0 : Int32) (Maz : ST) (Foz : ST) (hf : fX7_lays x1 x2 Ma Fo G0 N0 G1 N1 G2 N2 G3 N3 = some (r0, Maz, Foz)) : CG l yX7_lays (wsm yX7_lays cX7_lays 8 (some .int)) rmX7_lays D cs [.ref (x 0), .int x1, .int x2] (some (.int r0)) ((kX7 cs x (.ref (g 0)) (.ref (g2 0)) (.ref (g3 0)) (.ref (h 0)) (.ref (t 0)) (.ref (sa 0)) Ma) ++ (kX2 cs g (.ref (b 0)) (.ref (c 0)) (.ref (d 0)) (.ref (a 0)) ) ++ (kX1 cs b  Fo) ++ (kSA cs sa (e0 0) (e1 0) (e2 0) (e3 0)) ++ (kX5 cs e0 (.ref (n0 0)) G0) ++ (kJ40 cs n0 N0) ++ (kX5 cs e1 (.ref (n1 0)) G1) ++ (kJ40 cs n1 N1) ++ (kX5 cs e2 (.ref (n2 0)) G2) ++ (kJ40 cs n2 N2) ++ (kX5 cs e3 (.ref (n3 0)) G3) ++ (kJ40 cs n3 N3)) ((kX7 cs x (.ref (g 0)) (.ref (g2 0)) (.ref (g3 0)) (.ref (h 0)) (.ref (t 0)) (.ref (sa 0)) Maz) ++ (kX2 cs g (.ref (b 0)) (.ref (c 0)) (.ref (d 0)) (.ref (a 0)) ) ++ (kX1 cs b  Foz) ++ (kSA cs sa (e0 0) (e1 0) (e2 0) (e3 0)) ++ (kX5 cs e0 (.ref (n0 0)) G0) ++ (kJ40 cs n0 N0) ++ (kX5 cs e1 (.ref (n1 0)) G1) ++ (kJ40 cs n1 N1) ++ (kX5 cs e2 (.ref (n2 0)) G2) ++ (kJ40 cs n2 N2) ++ (kX5 cs e3 (.ref (n3 0)) G3) ++ (kJ40 cs n3 N3)) := by
  refine CG.intro (by decide) (Nat.le_of_ble_eq_true rfl) ?_
  intro p e s m below meth c A Q hx hb hml hown hu hK hZ hP0 hD0 hS0 hA hri hrz hrl hrv hra ls0 hl0
  have hs78 : ∀ (k78 : Int32 → Int32 → Int32 → Int32 → Int32 → ST → ST → Option (Int32 × ST × ST)), (∀ (y1 : Int32) (y2 : Int32) (y3 : Int32) (y4 : Int32) (y5 : Int32) (Ma : ST) (Fo : ST) (H : Heap) (locs : List Loc) (ls : Array Slot), va_P D vwCl ((kX7 cs x (.ref (g 0)) (.ref (g2 0)) (.ref (g3 0)) (.ref (h 0)) (.ref (t 0)) (.ref (sa 0)) Ma) ++ (kX2 cs g (.ref (b 0)) (.ref (c 0)) (.ref (d 0)) (.ref (a 0)) ) ++ (kX1 cs b  Fo) ++ (kSA cs sa (e0 0) (e1 0) (e2 0) (e3 0)) ++ (kX5 cs e0 (.ref (n0 0)) G0) ++ (kJ40 cs n0 N0) ++ (kX5 cs e1 (.ref (n1 0)) G1) ++ (kJ40 cs n1 N1) ++ (kX5 cs e2 (.ref (n2 0)) G2) ++ (kJ40 cs n2 N2) ++ (kX5 cs e3 (.ref (n3 0)) G3) ++ (kJ40 cs n3 N3)) H → va_D A ((kX7 cs x (.ref (g 0)) (.ref (g2 0)) (.ref (g3 0)) (.ref (h 0)) (.ref (t 0)) (.ref (sa 0)) Ma) ++ (kX2 cs g (.ref (b 0)) (.ref (c 0)) (.ref (d 0)) (.ref (a 0)) ) ++ (kX1 cs b  Fo) ++ (kSA cs sa (e0 0) (e1 0) (e2 0) (e3 0)) ++ (kX5 cs e0 (.ref (n0 0)) G0) ++ (kJ40 cs n0 N0) ++ (kX5 cs e1 (.ref (n1 0)) G1) ++ (kJ40 cs n1 N1) ++ (kX5 cs e2 (.ref (n2 0)) G2) ++ (kJ40 cs n2 N2) ++ (kX5 cs e3 (.ref (n3 0)) G3) ++ (kJ40 cs n3 N3)) → va_S A s.heap H locs → lv_has ls 8 [(0, .ref (x 0)), (1, .int y1), (2, .int y2), (3, .int y3), (4, .int y4), (5, .int y5)] → k78 y1 y2 y3 y4 y5 Ma Fo = some (r0, Maz, Foz) → W p l e rmX7_lays s m [.ref (x 0), .int x1, .int x2].toArray below meth c H locs 0 0 Q (F0 m 78 ls [])) → ∀ (y1 : Int32) (y2 : Int32) (y3 : Int32) (y4 : Int32) (y5 : Int32) (Ma : ST) (Fo : ST) (H : Heap) (locs : List Loc) (ls : Array Slot), va_P D vwCl ((kX7 cs x (.ref (g 0)) (.ref (g2 0)) (.ref (g3 0)) (.ref (h 0)) (.ref (t 0)) (.ref (sa 0)) Ma) ++ (kX2 cs g (.ref (b 0)) (.ref (c 0)) (.ref (d 0)) (.ref (a 0)) ) ++ (kX1 cs b  Fo) ++ (kSA cs sa (e0 0) (e1 0) (e2 0) (e3 0)) ++ (kX5 cs e0 (.ref (n0 0)) G0) ++ (kJ40 cs n0 N0) ++ (kX5 cs e1 (.ref (n1 0)) G1) ++ (kJ40 cs n1 N1) ++ (kX5 cs e2 (.ref (n2 0)) G2) ++ (kJ40 cs n2 N2) ++ (kX5 cs e3 (.ref (n3 0)) G3) ++ (kJ40 cs n3 N3)) H → va_D A ((kX7 cs x (.ref (g 0)) (.ref (g2 0)) (.ref (g3 0)) (.ref (h 0)) (.ref (t 0)) (.ref (sa 0)) Ma) ++ (kX2 cs g (.ref (b 0)) (.ref (c 0)) (.ref (d 0)) (.ref (a 0)) ) ++ (kX1 cs b  Fo) ++ (kSA cs sa (e0 0) (e1 0) (e2 0) (e3 0)) ++ (kX5 cs e0 (.ref (n0 0)) G0) ++ (kJ40 cs n0 N0) ++ (kX5 cs e1 (.ref (n1 0)) G1) ++ (kJ40 cs n1 N1) ++ (kX5 cs e2 (.ref (n2 0)) G2) ++ (kJ40 cs n2 N2) ++ (kX5 cs e3 (.ref (n3 0)) G3) ++ (kJ40 cs n3 N3)) → va_S A s.heap H locs → lv_has ls 8 [(0, .ref (x 0)), (1, .int y1), (2, .int y2), (3, .int y3), (4, .int y4), (5, .int y5)] → fX7_lays_78_s G0 N0 G1 N1 G2 N2 G3 N3 k78 y1 y2 y3 y4 y5 Ma Fo = some (r0, Maz, Foz) → W p l e rmX7_lays s m [.ref (x 0), .int x1, .int x2].toArray below meth c H locs 0 0 Q (F0 m 78 ls []) := by
    intro k78 hk78 y1 y2 y3 y4 y5 Ma Fo H locs ls hP hD hS hl hf
    unfold fX7_lays_78_s at hf
    refine lv_iload hx hb dX7_lays_78 (lv_at hl 5 rfl) ?_
    refine lv_iload hx hb dX7_lays_80 (lv_at hl 4 rfl) ?_
    refine lv_icmp_ge (tgt := 153) hx hb dX7_lays_82 (by decide) (fun hc12 => ?_) (fun hc12 => ?_)
    · have hf := ip_el hc12 hf
      refine lv_iload_n hx hb dX7_lays_153 rfl (lv_at hl 3 rfl) ?_
      have he := Option.some.inj hf
      obtain ⟨e0, ht0⟩ := Prod.mk.inj he
      obtain ⟨e1, e2⟩ := Prod.mk.inj ht0
      exact hri _ _ _ rfl (congrArg (fun z => some (Value.int z)) e0.symm) dX7_lays_154 _ _ _ (by rw [e1, e2]) hP hD hS
    · have hf := in_el hc12 hf
      refine lv_aload_n hx hb dX7_lays_85 rfl (lv_at hl 0 rfl) ?_
      refine va_get (D := D) (ci := 7) (v := .ref (sa 0)) (C := RX7) (T := TX7) (N := 8) hx hb hu inX7 hown hK.1 hP 0 rfl rfl 5 (by decide) (hu _ q305) (fun _ h9 => h9) rfl dX7_lays_86 ?_
      refine lv_iload_n hx hb dX7_lays_89 rfl (lv_at hl 1 rfl) ?_
      by_cases hc13 : y1 = 0
      · have hf := ip_el hc13 hf
        refine sa_lit (e := e0 0) hx hb hK hP 10 rfl (k := 0) (by rw [hc13]; decide) rfl dX7_lays_90 ?_
        refine va_get (D := D) (ci := 5) (v := .ref (n0 0)) (C := RX5) (T := TX5) (N := 3) hx hb hu inX5 hown hK.1 hP 11 rfl rfl 2 (by decide) (hu _ q291) (fun _ h9 => h9) rfl dX7_lays_91 ?_
        refine lv_iload hx hb dX7_lays_94 (lv_at hl 5 rfl) ?_
        obtain ⟨hi14, hf⟩ := ck_el hf
        refine va_lald hx hb hK.1 hP 12 1 rfl rfl hi14 dX7_lays_96 ?_
        obtain ⟨v15, hv15, hf⟩ := lt_el hf
        refine lv_topel hv15 ?_
        refine lv_lstore (lv' := [(6, .long v15), (0, .ref (x 0)), (1, .int y1), (2, .int y2), (3, .int y3), (4, .int y4), (5, .int y5)]) hx hb dX7_lays_97 hl (by decide) rfl (fun ls hl => ?_)
        refine lv_iload hx hb dX7_lays_99 (lv_at hl 6 rfl) ?_
        refine lv_iload_n hx hb dX7_lays_101 rfl (lv_at hl 3 rfl) ?_
        refine lv_icmp_eq (tgt := 147) hx hb dX7_lays_102 (by decide) (fun hc16 => ?_) (fun hc16 => ?_)
        · have hf := ip_el hc16 hf
          obtain ⟨v17, hv17, hf⟩ := lt_el hf
          refine lv_iinc (v := v17) (lv' := [(5, .int v17), (6, .long v15), (0, .ref (x 0)), (1, .int y1), (2, .int y2), (3, .int y3), (4, .int y4)]) hx hb dX7_lays_147 hl (k := 6) rfl (by rw [hv17]; rfl) (by decide) rfl (fun ls hl => ?_)
          refine lv_goto (tgt := 78) hx hb dX7_lays_150 (by decide) ?_
          exact hk78 y1 y2 y3 y4 v17 Ma Fo _ _ _ hP hD hS (lv_sub hl [2, 3, 4, 5, 6, 0] rfl) hf
        · have hf := in_el hc16 hf
          refine lv_lload hx hb dX7_lays_105 (lv_at hl 0 rfl) ?_
          refine lv_ldc2 (v := (-9)) hx hb hown (hu _ q880) dX7_lays_107 ?_
          refine W.lcmp hx hb dX7_lays_110 ?_
          refine lv_if_lt (tgt := 147) hx hb dX7_lays_111 (by decide) (fun hc18 => ?_) (fun hc18 => ?_)
          · have hf := ip_el hc18 hf
            obtain ⟨v19, hv19, hf⟩ := lt_el hf
            refine lv_iinc (v := v19) (lv' := [(5, .int v19), (6, .long v15), (0, .ref (x 0)), (1, .int y1), (2, .int y2), (3, .int y3), (4, .int y4)]) hx hb dX7_lays_147 hl (k := 6) rfl (by rw [hv19]; rfl) (by decide) rfl (fun ls hl => ?_)
            refine lv_goto (tgt := 78) hx hb dX7_lays_150 (by decide) ?_
            exact hk78 y1 y2 y3 y4 v19 Ma Fo _ _ _ hP hD hS (lv_sub hl [2, 3, 4, 5, 6, 0] rfl) hf
          · have hf := in_el hc18 hf
            refine lv_lload hx hb dX7_lays_114 (lv_at hl 0 rfl) ?_
            refine lv_ldc2 (v := 9) hx hb hown (hu _ q881) dX7_lays_116 ?_
            refine W.lcmp hx hb dX7_lays_119 ?_
            refine lv_if_gt (tgt := 147) hx hb dX7_lays_120 (by decide) (fun hc20 => ?_) (fun hc20 => ?_)
            · have hf := ip_el hc20 hf
              obtain ⟨v21, hv21, hf⟩ := lt_el hf
              refine lv_iinc (v := v21) (lv' := [(5, .int v21), (6, .long v15), (0, .ref (x 0)), (1, .int y1), (2, .int y2), (3, .int y3), (4, .int y4)]) hx hb dX7_lays_147 hl (k := 6) rfl (by rw [hv21]; rfl) (by decide) rfl (fun ls hl => ?_)
              refine lv_goto (tgt := 78) hx hb dX7_lays_150 (by decide) ?_
              exact hk78 y1 y2 y3 y4 v21 Ma Fo _ _ _ hP hD hS (lv_sub hl [2, 3, 4, 5, 6, 0] rfl) hf
            · have hf := in_el hc20 hf
              refine lv_aload_n hx hb dX7_lays_123 rfl (lv_at hl 1 rfl) ?_
              refine va_get (D := D) (ci := 7) (v := .ref (g 0)) (C := RX7) (T := TX7) (N := 8) hx hb hu inX7 hown hK.1 hP 0 rfl rfl 0 (by decide) (hu _ q300) (fun _ h9 => h9) rfl dX7_lays_124 ?_
              refine va_get (D := D) (ci := 2) (v := .ref (b 0)) (C := RX2) (T := TX2) (N := 4) hx hb hu inX2 hown hK.1 hP 2 rfl rfl 0 (by decide) (hu _ q196) (fun _ h9 => h9) rfl dX7_lays_127 ?_
              refine va_get (D := D) (ci := 1) (v := .ref (b 7)) (C := RX1) (T := TX1) (N := 9) hx hb hu inX1 hown hK.1 hP 3 rfl rfl 6 (by decide) (hu _ q107) (fun _ h9 => h9) rfl dX7_lays_130 ?_
              refine lv_iload_n hx hb dX7_lays_133 rfl (lv_at hl 3 rfl) ?_
              refine lv_bipush (v := 10) hx hb dX7_lays_134 (by decide) ?_
              refine lv_imul hx hb dX7_lays_136 ?_
              refine lv_iload hx hb dX7_lays_137 (lv_at hl 6 rfl) ?_
              refine lv_iadd hx hb dX7_lays_139 ?_
              refine lv_lload hx hb dX7_lays_140 (lv_at hl 0 rfl) ?_
              refine lv_l2i (v := (v15.toInt32)) hx hb dX7_lays_142 rfl ?_
              obtain ⟨hi22, hf⟩ := ck_el hf
              obtain ⟨Fo_23, hFo_23, hf⟩ := lt_el hf
              refine va_iast hx hb hK.1 hP hD hS 8 0 rfl rfl hi22 dX7_lays_143 (fun H locs hP hD hS => ?_)
              have hP : va_P D vwCl ((kX7 cs x (.ref (g 0)) (.ref (g2 0)) (.ref (g3 0)) (.ref (h 0)) (.ref (t 0)) (.ref (sa 0)) Ma) ++ (kX2 cs g (.ref (b 0)) (.ref (c 0)) (.ref (d 0)) (.ref (a 0)) ) ++ (kX1 cs b  Fo_23) ++ (kSA cs sa (e0 0) (e1 0) (e2 0) (e3 0)) ++ (kX5 cs e0 (.ref (n0 0)) G0) ++ (kJ40 cs n0 N0) ++ (kX5 cs e1 (.ref (n1 0)) G1) ++ (kJ40 cs n1 N1) ++ (kX5 cs e2 (.ref (n2 0)) G2) ++ (kJ40 cs n2 N2) ++ (kX5 cs e3 (.ref (n3 0)) G3) ++ (kJ40 cs n3 N3)) H := by rw [hFo_23]; exact hP
              have hD : va_D A ((kX7 cs x (.ref (g 0)) (.ref (g2 0)) (.ref (g3 0)) (.ref (h 0)) (.ref (t 0)) (.ref (sa 0)) Ma) ++ (kX2 cs g (.ref (b 0)) (.ref (c 0)) (.ref (d 0)) (.ref (a 0)) ) ++ (kX1 cs b  Fo_23) ++ (kSA cs sa (e0 0) (e1 0) (e2 0) (e3 0)) ++ (kX5 cs e0 (.ref (n0 0)) G0) ++ (kJ40 cs n0 N0) ++ (kX5 cs e1 (.ref (n1 0)) G1) ++ (kJ40 cs n1 N1) ++ (kX5 cs e2 (.ref (n2 0)) G2) ++ (kJ40 cs n2 N2) ++ (kX5 cs e3 (.ref (n3 0)) G3) ++ (kJ40 cs n3 N3)) := by rw [hFo_23]; exact hD
              obtain ⟨v24, hv24, hf⟩ := lt_el hf
              refine lv_iinc (v := v24) (lv' := [(3, .int v24), (6, .long v15), (0, .ref (x 0)), (1, .int y1), (2, .int y2), (4, .int y4), (5, .int y5)]) hx hb dX7_lays_144 hl (k := 4) rfl (by rw [hv24]; rfl) (by decide) rfl (fun ls hl => ?_)
              obtain ⟨v25, hv25, hf⟩ := lt_el hf
              refine lv_iinc (v := v25) (lv' := [(5, .int v25), (3, .int v24), (6, .long v15), (0, .ref (x 0)), (1, .int y1), (2, .int y2), (4, .int y4)]) hx hb dX7_lays_147 hl (k := 6) rfl (by rw [hv25]; rfl) (by decide) rfl (fun ls hl => ?_)
              refine lv_goto (tgt := 78) hx hb dX7_lays_150 (by decide) ?_
              exact hk78 y1 y2 v24 y4 v25 Ma Fo_23 _ _ _ hP hD hS (lv_sub hl [3, 4, 5, 1, 6, 0] rfl) hf
      have hf := in_el hc13 hf
      by_cases hc26 : y1 = 1
      · have hf := ip_el hc26 hf
        refine sa_lit (e := e1 0) hx hb hK hP 10 rfl (k := 1) (by rw [hc26]; decide) rfl dX7_lays_90 ?_
        refine va_get (D := D) (ci := 5) (v := .ref (n1 0)) (C := RX5) (T := TX5) (N := 3) hx hb hu inX5 hown hK.1 hP 13 rfl rfl 2 (by decide) (hu _ q291) (fun _ h9 => h9) rfl dX7_lays_91 ?_
        refine lv_iload hx hb dX7_lays_94 (lv_at hl 5 rfl) ?_
        obtain ⟨hi27, hf⟩ := ck_el hf
        refine va_lald hx hb hK.1 hP 14 1 rfl rfl hi27 dX7_lays_96 ?_
        obtain ⟨v28, hv28, hf⟩ := lt_el hf
        refine lv_topel hv28 ?_
        refine lv_lstore (lv' := [(6, .long v28), (0, .ref (x 0)), (1, .int y1), (2, .int y2), (3, .int y3), (4, .int y4), (5, .int y5)]) hx hb dX7_lays_97 hl (by decide) rfl (fun ls hl => ?_)
        refine lv_iload hx hb dX7_lays_99 (lv_at hl 6 rfl) ?_
        refine lv_iload_n hx hb dX7_lays_101 rfl (lv_at hl 3 rfl) ?_
        refine lv_icmp_eq (tgt := 147) hx hb dX7_lays_102 (by decide) (fun hc29 => ?_) (fun hc29 => ?_)
        · have hf := ip_el hc29 hf
          obtain ⟨v30, hv30, hf⟩ := lt_el hf
          refine lv_iinc (v := v30) (lv' := [(5, .int v30), (6, .long v28), (0, .ref (x 0)), (1, .int y1), (2, .int y2), (3, .int y3), (4, .int y4)]) hx hb dX7_lays_147 hl (k := 6) rfl (by rw [hv30]; rfl) (by decide) rfl (fun ls hl => ?_)
          refine lv_goto (tgt := 78) hx hb dX7_lays_150 (by decide) ?_
          exact hk78 y1 y2 y3 y4 v30 Ma Fo _ _ _ hP hD hS (lv_sub hl [2, 3, 4, 5, 6, 0] rfl) hf
        · have hf := in_el hc29 hf
          refine lv_lload hx hb dX7_lays_105 (lv_at hl 0 rfl) ?_
          refine lv_ldc2 (v := (-9)) hx hb hown (hu _ q880) dX7_lays_107 ?_
          refine W.lcmp hx hb dX7_lays_110 ?_
          refine lv_if_lt (tgt := 147) hx hb dX7_lays_111 (by decide) (fun hc31 => ?_) (fun hc31 => ?_)
          · have hf := ip_el hc31 hf
            obtain ⟨v32, hv32, hf⟩ := lt_el hf
            refine lv_iinc (v := v32) (lv' := [(5, .int v32), (6, .long v28), (0, .ref (x 0)), (1, .int y1), (2, .int y2), (3, .int y3), (4, .int y4)]) hx hb dX7_lays_147 hl (k := 6) rfl (by rw [hv32]; rfl) (by decide) rfl (fun ls hl => ?_)
            refine lv_goto (tgt := 78) hx hb dX7_lays_150 (by decide) ?_
            exact hk78 y1 y2 y3 y4 v32 Ma Fo _ _ _ hP hD hS (lv_sub hl [2, 3, 4, 5, 6, 0] rfl) hf
          · have hf := in_el hc31 hf
            refine lv_lload hx hb dX7_lays_114 (lv_at hl 0 rfl) ?_
            refine lv_ldc2 (v := 9) hx hb hown (hu _ q881) dX7_lays_116 ?_
            refine W.lcmp hx hb dX7_lays_119 ?_
            refine lv_if_gt (tgt := 147) hx hb dX7_lays_120 (by decide) (fun hc33 => ?_) (fun hc33 => ?_)
            · have hf := ip_el hc33 hf
              obtain ⟨v34, hv34, hf⟩ := lt_el hf
              refine lv_iinc (v := v34) (lv' := [(5, .int v34), (6, .long v28), (0, .ref (x 0)), (1, .int y1), (2, .int y2), (3, .int y3), (4, .int y4)]) hx hb dX7_lays_147 hl (k := 6) rfl (by rw [hv34]; rfl) (by decide) rfl (fun ls hl => ?_)
              refine lv_goto (tgt := 78) hx hb dX7_lays_150 (by decide) ?_
              exact hk78 y1 y2 y3 y4 v34 Ma Fo _ _ _ hP hD hS (lv_sub hl [2, 3, 4, 5, 6, 0] rfl) hf
            · have hf := in_el hc33 hf
              refine lv_aload_n hx hb dX7_lays_123 rfl (lv_at hl 1 rfl) ?_
              refine va_get (D := D) (ci := 7) (v := .ref (g 0)) (C := RX7) (T := TX7) (N := 8) hx hb hu inX7 hown hK.1 hP 0 rfl rfl 0 (by decide) (hu _ q300) (fun _ h9 => h9) rfl dX7_lays_124 ?_
              refine va_get (D := D) (ci := 2) (v := .ref (b 0)) (C := RX2) (T := TX2) (N := 4) hx hb hu inX2 hown hK.1 hP 2 rfl rfl 0 (by decide) (hu _ q196) (fun _ h9 => h9) rfl dX7_lays_127 ?_
              refine va_get (D := D) (ci := 1) (v := .ref (b 7)) (C := RX1) (T := TX1) (N := 9) hx hb hu inX1 hown hK.1 hP 3 rfl rfl 6 (by decide) (hu _ q107) (fun _ h9 => h9) rfl dX7_lays_130 ?_
              refine lv_iload_n hx hb dX7_lays_133 rfl (lv_at hl 3 rfl) ?_
              refine lv_bipush (v := 10) hx hb dX7_lays_134 (by decide) ?_
              refine lv_imul hx hb dX7_lays_136 ?_
              refine lv_iload hx hb dX7_lays_137 (lv_at hl 6 rfl) ?_
              refine lv_iadd hx hb dX7_lays_139 ?_
              refine lv_lload hx hb dX7_lays_140 (lv_at hl 0 rfl) ?_
              refine lv_l2i (v := (v28.toInt32)) hx hb dX7_lays_142 rfl ?_
              obtain ⟨hi35, hf⟩ := ck_el hf
              obtain ⟨Fo_36, hFo_36, hf⟩ := lt_el hf
              refine va_iast hx hb hK.1 hP hD hS 8 0 rfl rfl hi35 dX7_lays_143 (fun H locs hP hD hS => ?_)
              have hP : va_P D vwCl ((kX7 cs x (.ref (g 0)) (.ref (g2 0)) (.ref (g3 0)) (.ref (h 0)) (.ref (t 0)) (.ref (sa 0)) Ma) ++ (kX2 cs g (.ref (b 0)) (.ref (c 0)) (.ref (d 0)) (.ref (a 0)) ) ++ (kX1 cs b  Fo_36) ++ (kSA cs sa (e0 0) (e1 0) (e2 0) (e3 0)) ++ (kX5 cs e0 (.ref (n0 0)) G0) ++ (kJ40 cs n0 N0) ++ (kX5 cs e1 (.ref (n1 0)) G1) ++ (kJ40 cs n1 N1) ++ (kX5 cs e2 (.ref (n2 0)) G2) ++ (kJ40 cs n2 N2) ++ (kX5 cs e3 (.ref (n3 0)) G3) ++ (kJ40 cs n3 N3)) H := by rw [hFo_36]; exact hP
              have hD : va_D A ((kX7 cs x (.ref (g 0)) (.ref (g2 0)) (.ref (g3 0)) (.ref (h 0)) (.ref (t 0)) (.ref (sa 0)) Ma) ++ (kX2 cs g (.ref (b 0)) (.ref (c 0)) (.ref (d 0)) (.ref (a 0)) ) ++ (kX1 cs b  Fo_36) ++ (kSA cs sa (e0 0) (e1 0) (e2 0) (e3 0)) ++ (kX5 cs e0 (.ref (n0 0)) G0) ++ (kJ40 cs n0 N0) ++ (kX5 cs e1 (.ref (n1 0)) G1) ++ (kJ40 cs n1 N1) ++ (kX5 cs e2 (.ref (n2 0)) G2) ++ (kJ40 cs n2 N2) ++ (kX5 cs e3 (.ref (n3 0)) G3) ++ (kJ40 cs n3 N3)) := by rw [hFo_36]; exact hD
              obtain ⟨v37, hv37, hf⟩ := lt_el hf
              refine lv_iinc (v := v37) (lv' := [(3, .int v37), (6, .long v28), (0, .ref (x 0)), (1, .int y1), (2, .int y2), (4, .int y4), (5, .int y5)]) hx hb dX7_lays_144 hl (k := 4) rfl (by rw [hv37]; rfl) (by decide) rfl (fun ls hl => ?_)
              obtain ⟨v38, hv38, hf⟩ := lt_el hf
              refine lv_iinc (v := v38) (lv' := [(5, .int v38), (3, .int v37), (6, .long v28), (0, .ref (x 0)), (1, .int y1), (2, .int y2), (4, .int y4)]) hx hb dX7_lays_147 hl (k := 6) rfl (by rw [hv38]; rfl) (by decide) rfl (fun ls hl => ?_)
              refine lv_goto (tgt := 78) hx hb dX7_lays_150 (by decide) ?_
              exact hk78 y1 y2 v37 y4 v38 Ma Fo_36 _ _ _ hP hD hS (lv_sub hl [3, 4, 5, 1, 6, 0] rfl) hf
      have hf := in_el hc26 hf
      by_cases hc39 : y1 = 2
      · have hf := ip_el hc39 hf
        refine sa_lit (e := e2 0) hx hb hK hP 10 rfl (k := 2) (by rw [hc39]; decide) rfl dX7_lays_90 ?_
        refine va_get (D := D) (ci := 5) (v := .ref (n2 0)) (C := RX5) (T := TX5) (N := 3) hx hb hu inX5 hown hK.1 hP 15 rfl rfl 2 (by decide) (hu _ q291) (fun _ h9 => h9) rfl dX7_lays_91 ?_
        refine lv_iload hx hb dX7_lays_94 (lv_at hl 5 rfl) ?_
        obtain ⟨hi40, hf⟩ := ck_el hf
        refine va_lald hx hb hK.1 hP 16 1 rfl rfl hi40 dX7_lays_96 ?_
        obtain ⟨v41, hv41, hf⟩ := lt_el hf
        refine lv_topel hv41 ?_
        refine lv_lstore (lv' := [(6, .long v41), (0, .ref (x 0)), (1, .int y1), (2, .int y2), (3, .int y3), (4, .int y4), (5, .int y5)]) hx hb dX7_lays_97 hl (by decide) rfl (fun ls hl => ?_)
        refine lv_iload hx hb dX7_lays_99 (lv_at hl 6 rfl) ?_
        refine lv_iload_n hx hb dX7_lays_101 rfl (lv_at hl 3 rfl) ?_
        refine lv_icmp_eq (tgt := 147) hx hb dX7_lays_102 (by decide) (fun hc42 => ?_) (fun hc42 => ?_)
        · have hf := ip_el hc42 hf
          obtain ⟨v43, hv43, hf⟩ := lt_el hf
          refine lv_iinc (v := v43) (lv' := [(5, .int v43), (6, .long v41), (0, .ref (x 0)), (1, .int y1), (2, .int y2), (3, .int y3), (4, .int y4)]) hx hb dX7_lays_147 hl (k := 6) rfl (by rw [hv43]; rfl) (by decide) rfl (fun ls hl => ?_)
          refine lv_goto (tgt := 78) hx hb dX7_lays_150 (by decide) ?_
          exact hk78 y1 y2 y3 y4 v43 Ma Fo _ _ _ hP hD hS (lv_sub hl [2, 3, 4, 5, 6, 0] rfl) hf
        · have hf := in_el hc42 hf
          refine lv_lload hx hb dX7_lays_105 (lv_at hl 0 rfl) ?_
          refine lv_ldc2 (v := (-9)) hx hb hown (hu _ q880) dX7_lays_107 ?_
          refine W.lcmp hx hb dX7_lays_110 ?_
          refine lv_if_lt (tgt := 147) hx hb dX7_lays_111 (by decide) (fun hc44 => ?_) (fun hc44 => ?_)
          · have hf := ip_el hc44 hf
            obtain ⟨v45, hv45, hf⟩ := lt_el hf
            refine lv_iinc (v := v45) (lv' := [(5, .int v45), (6, .long v41), (0, .ref (x 0)), (1, .int y1), (2, .int y2), (3, .int y3), (4, .int y4)]) hx hb dX7_lays_147 hl (k := 6) rfl (by rw [hv45]; rfl) (by decide) rfl (fun ls hl => ?_)
            refine lv_goto (tgt := 78) hx hb dX7_lays_150 (by decide) ?_
            exact hk78 y1 y2 y3 y4 v45 Ma Fo _ _ _ hP hD hS (lv_sub hl [2, 3, 4, 5, 6, 0] rfl) hf
          · have hf := in_el hc44 hf
            refine lv_lload hx hb dX7_lays_114 (lv_at hl 0 rfl) ?_
            refine lv_ldc2 (v := 9) hx hb hown (hu _ q881) dX7_lays_116 ?_
            refine W.lcmp hx hb dX7_lays_119 ?_
            refine lv_if_gt (tgt := 147) hx hb dX7_lays_120 (by decide) (fun hc46 => ?_) (fun hc46 => ?_)
            · have hf := ip_el hc46 hf
              obtain ⟨v47, hv47, hf⟩ := lt_el hf
              refine lv_iinc (v := v47) (lv' := [(5, .int v47), (6, .long v41), (0, .ref (x 0)), (1, .int y1), (2, .int y2), (3, .int y3), (4, .int y4)]) hx hb dX7_lays_147 hl (k := 6) rfl (by rw [hv47]; rfl) (by decide) rfl (fun ls hl => ?_)
              refine lv_goto (tgt := 78) hx hb dX7_lays_150 (by decide) ?_
              exact hk78 y1 y2 y3 y4 v47 Ma Fo _ _ _ hP hD hS (lv_sub hl [2, 3, 4, 5, 6, 0] rfl) hf
            · have hf := in_el hc46 hf
              refine lv_aload_n hx hb dX7_lays_123 rfl (lv_at hl 1 rfl) ?_
              refine va_get (D := D) (ci := 7) (v := .ref (g 0)) (C := RX7) (T := TX7) (N := 8) hx hb hu inX7 hown hK.1 hP 0 rfl rfl 0 (by decide) (hu _ q300) (fun _ h9 => h9) rfl dX7_lays_124 ?_
              refine va_get (D := D) (ci := 2) (v := .ref (b 0)) (C := RX2) (T := TX2) (N := 4) hx hb hu inX2 hown hK.1 hP 2 rfl rfl 0 (by decide) (hu _ q196) (fun _ h9 => h9) rfl dX7_lays_127 ?_
              refine va_get (D := D) (ci := 1) (v := .ref (b 7)) (C := RX1) (T := TX1) (N := 9) hx hb hu inX1 hown hK.1 hP 3 rfl rfl 6 (by decide) (hu _ q107) (fun _ h9 => h9) rfl dX7_lays_130 ?_
              refine lv_iload_n hx hb dX7_lays_133 rfl (lv_at hl 3 rfl) ?_
              refine lv_bipush (v := 10) hx hb dX7_lays_134 (by decide) ?_
              refine lv_imul hx hb dX7_lays_136 ?_
              refine lv_iload hx hb dX7_lays_137 (lv_at hl 6 rfl) ?_
              refine lv_iadd hx hb dX7_lays_139 ?_
              refine lv_lload hx hb dX7_lays_140 (lv_at hl 0 rfl) ?_
              refine lv_l2i (v := (v41.toInt32)) hx hb dX7_lays_142 rfl ?_
              obtain ⟨hi48, hf⟩ := ck_el hf
              obtain ⟨Fo_49, hFo_49, hf⟩ := lt_el hf
              refine va_iast hx hb hK.1 hP hD hS 8 0 rfl rfl hi48 dX7_lays_143 (fun H locs hP hD hS => ?_)
              have hP : va_P D vwCl ((kX7 cs x (.ref (g 0)) (.ref (g2 0)) (.ref (g3 0)) (.ref (h 0)) (.ref (t 0)) (.ref (sa 0)) Ma) ++ (kX2 cs g (.ref (b 0)) (.ref (c 0)) (.ref (d 0)) (.ref (a 0)) ) ++ (kX1 cs b  Fo_49) ++ (kSA cs sa (e0 0) (e1 0) (e2 0) (e3 0)) ++ (kX5 cs e0 (.ref (n0 0)) G0) ++ (kJ40 cs n0 N0) ++ (kX5 cs e1 (.ref (n1 0)) G1) ++ (kJ40 cs n1 N1) ++ (kX5 cs e2 (.ref (n2 0)) G2) ++ (kJ40 cs n2 N2) ++ (kX5 cs e3 (.ref (n3 0)) G3) ++ (kJ40 cs n3 N3)) H := by rw [hFo_49]; exact hP
              have hD : va_D A ((kX7 cs x (.ref (g 0)) (.ref (g2 0)) (.ref (g3 0)) (.ref (h 0)) (.ref (t 0)) (.ref (sa 0)) Ma) ++ (kX2 cs g (.ref (b 0)) (.ref (c 0)) (.ref (d 0)) (.ref (a 0)) ) ++ (kX1 cs b  Fo_49) ++ (kSA cs sa (e0 0) (e1 0) (e2 0) (e3 0)) ++ (kX5 cs e0 (.ref (n0 0)) G0) ++ (kJ40 cs n0 N0) ++ (kX5 cs e1 (.ref (n1 0)) G1) ++ (kJ40 cs n1 N1) ++ (kX5 cs e2 (.ref (n2 0)) G2) ++ (kJ40 cs n2 N2) ++ (kX5 cs e3 (.ref (n3 0)) G3) ++ (kJ40 cs n3 N3)) := by rw [hFo_49]; exact hD
              obtain ⟨v50, hv50, hf⟩ := lt_el hf
              refine lv_iinc (v := v50) (lv' := [(3, .int v50), (6, .long v41), (0, .ref (x 0)), (1, .int y1), (2, .int y2), (4, .int y4), (5, .int y5)]) hx hb dX7_lays_144 hl (k := 4) rfl (by rw [hv50]; rfl) (by decide) rfl (fun ls hl => ?_)
              obtain ⟨v51, hv51, hf⟩ := lt_el hf
              refine lv_iinc (v := v51) (lv' := [(5, .int v51), (3, .int v50), (6, .long v41), (0, .ref (x 0)), (1, .int y1), (2, .int y2), (4, .int y4)]) hx hb dX7_lays_147 hl (k := 6) rfl (by rw [hv51]; rfl) (by decide) rfl (fun ls hl => ?_)
              refine lv_goto (tgt := 78) hx hb dX7_lays_150 (by decide) ?_
              exact hk78 y1 y2 v50 y4 v51 Ma Fo_49 _ _ _ hP hD hS (lv_sub hl [3, 4, 5, 1, 6, 0] rfl) hf
      have hf := in_el hc39 hf
      by_cases hc52 : y1 = 3
      · have hf := ip_el hc52 hf
        refine sa_lit (e := e3 0) hx hb hK hP 10 rfl (k := 3) (by rw [hc52]; decide) rfl dX7_lays_90 ?_
        refine va_get (D := D) (ci := 5) (v := .ref (n3 0)) (C := RX5) (T := TX5) (N := 3) hx hb hu inX5 hown hK.1 hP 17 rfl rfl 2 (by decide) (hu _ q291) (fun _ h9 => h9) rfl dX7_lays_91 ?_
        refine lv_iload hx hb dX7_lays_94 (lv_at hl 5 rfl) ?_
        obtain ⟨hi53, hf⟩ := ck_el hf
        refine va_lald hx hb hK.1 hP 18 1 rfl rfl hi53 dX7_lays_96 ?_
        obtain ⟨v54, hv54, hf⟩ := lt_el hf
        refine lv_topel hv54 ?_
        refine lv_lstore (lv' := [(6, .long v54), (0, .ref (x 0)), (1, .int y1), (2, .int y2), (3, .int y3), (4, .int y4), (5, .int y5)]) hx hb dX7_lays_97 hl (by decide) rfl (fun ls hl => ?_)
        refine lv_iload hx hb dX7_lays_99 (lv_at hl 6 rfl) ?_
        refine lv_iload_n hx hb dX7_lays_101 rfl (lv_at hl 3 rfl) ?_
        refine lv_icmp_eq (tgt := 147) hx hb dX7_lays_102 (by decide) (fun hc55 => ?_) (fun hc55 => ?_)
        · have hf := ip_el hc55 hf
          obtain ⟨v56, hv56, hf⟩ := lt_el hf
          refine lv_iinc (v := v56) (lv' := [(5, .int v56), (6, .long v54), (0, .ref (x 0)), (1, .int y1), (2, .int y2), (3, .int y3), (4, .int y4)]) hx hb dX7_lays_147 hl (k := 6) rfl (by rw [hv56]; rfl) (by decide) rfl (fun ls hl => ?_)
          refine lv_goto (tgt := 78) hx hb dX7_lays_150 (by decide) ?_
          exact hk78 y1 y2 y3 y4 v56 Ma Fo _ _ _ hP hD hS (lv_sub hl [2, 3, 4, 5, 6, 0] rfl) hf
        · have hf := in_el hc55 hf
          refine lv_lload hx hb dX7_lays_105 (lv_at hl 0 rfl) ?_
          refine lv_ldc2 (v := (-9)) hx hb hown (hu _ q880) dX7_lays_107 ?_
          refine W.lcmp hx hb dX7_lays_110 ?_
          refine lv_if_lt (tgt := 147) hx hb dX7_lays_111 (by decide) (fun hc57 => ?_) (fun hc57 => ?_)
          · have hf := ip_el hc57 hf
            obtain ⟨v58, hv58, hf⟩ := lt_el hf
            refine lv_iinc (v := v58) (lv' := [(5, .int v58), (6, .long v54), (0, .ref (x 0)), (1, .int y1), (2, .int y2), (3, .int y3), (4, .int y4)]) hx hb dX7_lays_147 hl (k := 6) rfl (by rw [hv58]; rfl) (by decide) rfl (fun ls hl => ?_)
            refine lv_goto (tgt := 78) hx hb dX7_lays_150 (by decide) ?_
            exact hk78 y1 y2 y3 y4 v58 Ma Fo _ _ _ hP hD hS (lv_sub hl [2, 3, 4, 5, 6, 0] rfl) hf
          · have hf := in_el hc57 hf
            refine lv_lload hx hb dX7_lays_114 (lv_at hl 0 rfl) ?_
            refine lv_ldc2 (v := 9) hx hb hown (hu _ q881) dX7_lays_116 ?_
            refine W.lcmp hx hb dX7_lays_119 ?_
            refine lv_if_gt (tgt := 147) hx hb dX7_lays_120 (by decide) (fun hc59 => ?_) (fun hc59 => ?_)
            · have hf := ip_el hc59 hf
              obtain ⟨v60, hv60, hf⟩ := lt_el hf
              refine lv_iinc (v := v60) (lv' := [(5, .int v60), (6, .long v54), (0, .ref (x 0)), (1, .int y1), (2, .int y2), (3, .int y3), (4, .int y4)]) hx hb dX7_lays_147 hl (k := 6) rfl (by rw [hv60]; rfl) (by decide) rfl (fun ls hl => ?_)
              refine lv_goto (tgt := 78) hx hb dX7_lays_150 (by decide) ?_
              exact hk78 y1 y2 y3 y4 v60 Ma Fo _ _ _ hP hD hS (lv_sub hl [2, 3, 4, 5, 6, 0] rfl) hf
            · have hf := in_el hc59 hf
              refine lv_aload_n hx hb dX7_lays_123 rfl (lv_at hl 1 rfl) ?_
              refine va_get (D := D) (ci := 7) (v := .ref (g 0)) (C := RX7) (T := TX7) (N := 8) hx hb hu inX7 hown hK.1 hP 0 rfl rfl 0 (by decide) (hu _ q300) (fun _ h9 => h9) rfl dX7_lays_124 ?_
              refine va_get (D := D) (ci := 2) (v := .ref (b 0)) (C := RX2) (T := TX2) (N := 4) hx hb hu inX2 hown hK.1 hP 2 rfl rfl 0 (by decide) (hu _ q196) (fun _ h9 => h9) rfl dX7_lays_127 ?_
              refine va_get (D := D) (ci := 1) (v := .ref (b 7)) (C := RX1) (T := TX1) (N := 9) hx hb hu inX1 hown hK.1 hP 3 rfl rfl 6 (by decide) (hu _ q107) (fun _ h9 => h9) rfl dX7_lays_130 ?_
              refine lv_iload_n hx hb dX7_lays_133 rfl (lv_at hl 3 rfl) ?_
              refine lv_bipush (v := 10) hx hb dX7_lays_134 (by decide) ?_
              refine lv_imul hx hb dX7_lays_136 ?_
              refine lv_iload hx hb dX7_lays_137 (lv_at hl 6 rfl) ?_
              refine lv_iadd hx hb dX7_lays_139 ?_
              refine lv_lload hx hb dX7_lays_140 (lv_at hl 0 rfl) ?_
              refine lv_l2i (v := (v54.toInt32)) hx hb dX7_lays_142 rfl ?_
              obtain ⟨hi61, hf⟩ := ck_el hf
              obtain ⟨Fo_62, hFo_62, hf⟩ := lt_el hf
              refine va_iast hx hb hK.1 hP hD hS 8 0 rfl rfl hi61 dX7_lays_143 (fun H locs hP hD hS => ?_)
              have hP : va_P D vwCl ((kX7 cs x (.ref (g 0)) (.ref (g2 0)) (.ref (g3 0)) (.ref (h 0)) (.ref (t 0)) (.ref (sa 0)) Ma) ++ (kX2 cs g (.ref (b 0)) (.ref (c 0)) (.ref (d 0)) (.ref (a 0)) ) ++ (kX1 cs b  Fo_62) ++ (kSA cs sa (e0 0) (e1 0) (e2 0) (e3 0)) ++ (kX5 cs e0 (.ref (n0 0)) G0) ++ (kJ40 cs n0 N0) ++ (kX5 cs e1 (.ref (n1 0)) G1) ++ (kJ40 cs n1 N1) ++ (kX5 cs e2 (.ref (n2 0)) G2) ++ (kJ40 cs n2 N2) ++ (kX5 cs e3 (.ref (n3 0)) G3) ++ (kJ40 cs n3 N3)) H := by rw [hFo_62]; exact hP
              have hD : va_D A ((kX7 cs x (.ref (g 0)) (.ref (g2 0)) (.ref (g3 0)) (.ref (h 0)) (.ref (t 0)) (.ref (sa 0)) Ma) ++ (kX2 cs g (.ref (b 0)) (.ref (c 0)) (.ref (d 0)) (.ref (a 0)) ) ++ (kX1 cs b  Fo_62) ++ (kSA cs sa (e0 0) (e1 0) (e2 0) (e3 0)) ++ (kX5 cs e0 (.ref (n0 0)) G0) ++ (kJ40 cs n0 N0) ++ (kX5 cs e1 (.ref (n1 0)) G1) ++ (kJ40 cs n1 N1) ++ (kX5 cs e2 (.ref (n2 0)) G2) ++ (kJ40 cs n2 N2) ++ (kX5 cs e3 (.ref (n3 0)) G3) ++ (kJ40 cs n3 N3)) := by rw [hFo_62]; exact hD
              obtain ⟨v63, hv63, hf⟩ := lt_el hf
              refine lv_iinc (v := v63) (lv' := [(3, .int v63), (6, .long v54), (0, .ref (x 0)), (1, .int y1), (2, .int y2), (4, .int y4), (5, .int y5)]) hx hb dX7_lays_144 hl (k := 4) rfl (by rw [hv63]; rfl) (by decide) rfl (fun ls hl => ?_)
              obtain ⟨v64, hv64, hf⟩ := lt_el hf
              refine lv_iinc (v := v64) (lv' := [(5, .int v64), (3, .int v63), (6, .long v54), (0, .ref (x 0)), (1, .int y1), (2, .int y2), (4, .int y4)]) hx hb dX7_lays_147 hl (k := 6) rfl (by rw [hv64]; rfl) (by decide) rfl (fun ls hl => ?_)
              refine lv_goto (tgt := 78) hx hb dX7_lays_150 (by decide) ?_
              exact hk78 y1 y2 v63 y4 v64 Ma Fo_62 _ _ _ hP hD hS (lv_sub hl [3, 4, 5, 1, 6, 0] rfl) hf
      have hf := in_el hc52 hf
      exact no_el hf
  have h78 : ∀ (n : Nat), ∀ (y1 : Int32) (y2 : Int32) (y3 : Int32) (y4 : Int32) (y5 : Int32) (Ma : ST) (Fo : ST) (H : Heap) (locs : List Loc) (ls : Array Slot), va_P D vwCl ((kX7 cs x (.ref (g 0)) (.ref (g2 0)) (.ref (g3 0)) (.ref (h 0)) (.ref (t 0)) (.ref (sa 0)) Ma) ++ (kX2 cs g (.ref (b 0)) (.ref (c 0)) (.ref (d 0)) (.ref (a 0)) ) ++ (kX1 cs b  Fo) ++ (kSA cs sa (e0 0) (e1 0) (e2 0) (e3 0)) ++ (kX5 cs e0 (.ref (n0 0)) G0) ++ (kJ40 cs n0 N0) ++ (kX5 cs e1 (.ref (n1 0)) G1) ++ (kJ40 cs n1 N1) ++ (kX5 cs e2 (.ref (n2 0)) G2) ++ (kJ40 cs n2 N2) ++ (kX5 cs e3 (.ref (n3 0)) G3) ++ (kJ40 cs n3 N3)) H → va_D A ((kX7 cs x (.ref (g 0)) (.ref (g2 0)) (.ref (g3 0)) (.ref (h 0)) (.ref (t 0)) (.ref (sa 0)) Ma) ++ (kX2 cs g (.ref (b 0)) (.ref (c 0)) (.ref (d 0)) (.ref (a 0)) ) ++ (kX1 cs b  Fo) ++ (kSA cs sa (e0 0) (e1 0) (e2 0) (e3 0)) ++ (kX5 cs e0 (.ref (n0 0)) G0) ++ (kJ40 cs n0 N0) ++ (kX5 cs e1 (.ref (n1 0)) G1) ++ (kJ40 cs n1 N1) ++ (kX5 cs e2 (.ref (n2 0)) G2) ++ (kJ40 cs n2 N2) ++ (kX5 cs e3 (.ref (n3 0)) G3) ++ (kJ40 cs n3 N3)) → va_S A s.heap H locs → lv_has ls 8 [(0, .ref (x 0)), (1, .int y1), (2, .int y2), (3, .int y3), (4, .int y4), (5, .int y5)] → fX7_lays_78 G0 N0 G1 N1 G2 N2 G3 N3 n y1 y2 y3 y4 y5 Ma Fo = some (r0, Maz, Foz) → W p l e rmX7_lays s m [.ref (x 0), .int x1, .int x2].toArray below meth c H locs 0 0 Q (F0 m 78 ls []) := by
    intro n
    induction n with
    | zero => intro y1 y2 y3 y4 y5 Ma Fo H locs ls hP hD hS hl hf; exact no_el hf
    | succ n ih => intro y1 y2 y3 y4 y5 Ma Fo H locs ls hP hD hS hl hf; exact hs78 _ ih y1 y2 y3 y4 y5 Ma Fo _ _ _ hP hD hS hl hf
  have hl : lv_has ls0 8 [(0, .ref (x 0)), (1, .int x1), (2, .int x2)] := hl0
  have hP := hP0
  have hD := hD0
  have hS := hS0
  unfold fX7_lays at hf
  refine lv_iload_n hx hb dX7_lays_0 rfl (lv_at hl 1 rfl) ?_
  obtain ⟨r1, hg2, hf⟩ := b1_el hf
  refine cc_S0 (st1 := [.int r1]) [.int x1] hx hb hml hown hu (tX7_isSheet l D cs x1 r1 hg2) q844 q54 q842 q843 pdX7_isSheet ⟨rfl, rfl, Nat.le_of_ble_eq_true rfl, Nat.le_of_ble_eq_true rfl⟩ hK hZ hP hD hS hA rfl hl.1 rfl (Nat.le_of_ble_eq_true rfl) dX7_lays_1 rfl (fun H locs hP hD hS => ?_)
  refine lv_if_ne (tgt := 14) hx hb dX7_lays_4 (by decide) (fun hc3 => ?_) (fun hc3 => ?_)
  · have hf := in_el hc3 hf
    refine lv_aload_n hx hb dX7_lays_14 rfl (lv_at hl 0 rfl) ?_
    refine va_get (D := D) (ci := 7) (v := .ref (sa 0)) (C := RX7) (T := TX7) (N := 8) hx hb hu inX7 hown hK.1 hP 0 rfl rfl 5 (by decide) (hu _ q305) (fun _ h9 => h9) rfl dX7_lays_15 ?_
    refine lv_iload_n hx hb dX7_lays_18 rfl (lv_at hl 1 rfl) ?_
    by_cases hc4 : x1 = 0
    · have hf := ip_el hc4 hf
      refine sa_lit (e := e0 0) hx hb hK hP 10 rfl (k := 0) (by rw [hc4]; decide) rfl dX7_lays_19 ?_
      obtain ⟨r5, hg6, hf⟩ := b1_el hf
      refine cc_V (w' := ((kX7 cs x (.ref (g 0)) (.ref (g2 0)) (.ref (g3 0)) (.ref (h 0)) (.ref (t 0)) (.ref (sa 0)) Ma) ++ (kX2 cs g (.ref (b 0)) (.ref (c 0)) (.ref (d 0)) (.ref (a 0)) ) ++ (kX1 cs b  Fo) ++ (kSA cs sa (e0 0) (e1 0) (e2 0) (e3 0)) ++ (kX5 cs e0 (.ref (n0 0)) G0) ++ (kJ40 cs n0 N0) ++ (kX5 cs e1 (.ref (n1 0)) G1) ++ (kJ40 cs n1 N1) ++ (kX5 cs e2 (.ref (n2 0)) G2) ++ (kJ40 cs n2 N2) ++ (kX5 cs e3 (.ref (n3 0)) G3) ++ (kJ40 cs n3 N3))) (wr := ((kX7 cs x (.ref (g 0)) (.ref (g2 0)) (.ref (g3 0)) (.ref (h 0)) (.ref (t 0)) (.ref (sa 0)) Ma) ++ (kX2 cs g (.ref (b 0)) (.ref (c 0)) (.ref (d 0)) (.ref (a 0)) ) ++ (kX1 cs b  Fo) ++ (kSA cs sa (e0 0) (e1 0) (e2 0) (e3 0)) ++ (kJ40 cs n0 N0) ++ (kX5 cs e1 (.ref (n1 0)) G1) ++ (kJ40 cs n1 N1) ++ (kX5 cs e2 (.ref (n2 0)) G2) ++ (kJ40 cs n2 N2) ++ (kX5 cs e3 (.ref (n3 0)) G3) ++ (kJ40 cs n3 N3))) (st1 := [.int r5]) [] hx hb hml hown hu (tX5_isMissing l D cs e0 n0 G0 r5 hg6) q860 q61 q857 q858 q859 pdX5_isMissing ⟨rfl, rfl, Nat.le_of_ble_eq_true rfl, Nat.le_of_ble_eq_true rfl⟩ hK hZ hP hD hS hA [11] [0, 1, 2, 3, 4, 5, 6, 7, 8, 9, 10, 12, 13, 14, 15, 16, 17, 18] [0, 1, 2, 3, 4, 5, 6, 7, 8, 9, 10, 18, 11, 12, 13, 14, 15, 16, 17] rfl rfl rfl rfl rfl rfl rfl rfl rfl rfl hl.1 rfl (Nat.le_of_ble_eq_true rfl) dX7_lays_20 rfl (fun H locs hP hD hS => ?_)
      refine lv_if_eq (tgt := 34) hx hb dX7_lays_23 (by decide) (fun hc7 => ?_) (fun hc7 => ?_)
      · have hf := ip_el hc7 hf
        refine lv_aload_n hx hb dX7_lays_34 rfl (lv_at hl 0 rfl) ?_
        refine lv_iload_n hx hb dX7_lays_35 rfl (lv_at hl 2 rfl) ?_
        obtain ⟨r8, hg9, hf⟩ := b1_el hf
        refine cc_V (w' := ((kX7 cs x (.ref (g 0)) (.ref (g2 0)) (.ref (g3 0)) (.ref (h 0)) (.ref (t 0)) (.ref (sa 0)) Ma) ++ (kX2 cs g (.ref (b 0)) (.ref (c 0)) (.ref (d 0)) (.ref (a 0)) ) ++ (kX1 cs b  Fo) ++ (kSA cs sa (e0 0) (e1 0) (e2 0) (e3 0)) ++ (kX5 cs e0 (.ref (n0 0)) G0) ++ (kJ40 cs n0 N0) ++ (kX5 cs e1 (.ref (n1 0)) G1) ++ (kJ40 cs n1 N1) ++ (kX5 cs e2 (.ref (n2 0)) G2) ++ (kJ40 cs n2 N2) ++ (kX5 cs e3 (.ref (n3 0)) G3) ++ (kJ40 cs n3 N3))) (wr := ((kSA cs sa (e0 0) (e1 0) (e2 0) (e3 0)) ++ (kX5 cs e0 (.ref (n0 0)) G0) ++ (kJ40 cs n0 N0) ++ (kX5 cs e1 (.ref (n1 0)) G1) ++ (kJ40 cs n1 N1) ++ (kX5 cs e2 (.ref (n2 0)) G2) ++ (kJ40 cs n2 N2) ++ (kX5 cs e3 (.ref (n3 0)) G3) ++ (kJ40 cs n3 N3))) (st1 := [.int r8]) [.int x2] hx hb hml hown hu (tX7_isOne l D cs x g g2 g3 h t sa b c d a x2 Ma Fo r8 hg9) q352 q54 q349 q351 q1 pdX7_isOne ⟨rfl, rfl, Nat.le_of_ble_eq_true rfl, Nat.le_of_ble_eq_true rfl⟩ hK hZ hP hD hS hA [0, 1, 2, 3, 4, 5, 6, 7, 8, 9] [10, 11, 12, 13, 14, 15, 16, 17, 18] [9, 10, 11, 12, 13, 14, 15, 16, 17, 18, 0, 1, 2, 3, 4, 5, 6, 7, 8] rfl rfl rfl rfl rfl rfl rfl rfl rfl rfl hl.1 rfl (Nat.le_of_ble_eq_true rfl) dX7_lays_36 rfl (fun H locs hP hD hS => ?_)
        refine lv_if_ne (tgt := 49) hx hb dX7_lays_39 (by decide) (fun hc10 => ?_) (fun hc10 => ?_)
        · have hf := in_el hc10 hf
          refine lv_iconst (v := 0) hx hb dX7_lays_49 (by decide) ?_
          refine lv_istore_n (lv' := [(3, .int 0), (0, .ref (x 0)), (1, .int x1), (2, .int x2)]) hx hb dX7_lays_50 rfl hl (by decide) rfl (fun ls hl => ?_)
          refine lv_aload_n hx hb dX7_lays_51 rfl (lv_at hl 1 rfl) ?_
          refine va_get (D := D) (ci := 7) (v := .ref (sa 0)) (C := RX7) (T := TX7) (N := 8) hx hb hu inX7 hown hK.1 hP 0 rfl rfl 5 (by decide) (hu _ q305) (fun _ h9 => h9) rfl dX7_lays_52 ?_
          refine lv_iload_n hx hb dX7_lays_55 rfl (lv_at hl 2 rfl) ?_
          refine sa_lit (e := e0 0) hx hb hK hP 10 rfl (k := 0) (by rw [hc4]; decide) rfl dX7_lays_56 ?_
          refine va_get (D := D) (ci := 5) (v := .int (G0 0 1)) (C := RX5) (T := TX5) (N := 3) hx hb hu inX5 hown hK.1 hP 11 rfl rfl 1 (by decide) (hu _ q289) (fun _ h9 => h9) rfl dX7_lays_57 ?_
          refine lv_aload_n hx hb dX7_lays_60 rfl (lv_at hl 1 rfl) ?_
          refine va_get (D := D) (ci := 7) (v := .ref (g 0)) (C := RX7) (T := TX7) (N := 8) hx hb hu inX7 hown hK.1 hP 0 rfl rfl 0 (by decide) (hu _ q300) (fun _ h9 => h9) rfl dX7_lays_61 ?_
          refine va_get (D := D) (ci := 2) (v := .ref (b 0)) (C := RX2) (T := TX2) (N := 4) hx hb hu inX2 hown hK.1 hP 2 rfl rfl 0 (by decide) (hu _ q196) (fun _ h9 => h9) rfl dX7_lays_64 ?_
          refine va_get (D := D) (ci := 1) (v := .int (Fo 0 0)) (C := RX1) (T := TX1) (N := 9) hx hb hu inX1 hown hK.1 hP 3 rfl rfl 0 (by decide) (hu _ q93) (fun _ h9 => h9) rfl dX7_lays_67 ?_
          refine va_mmin hx hb (hml.trans hl.1.symm) hown (hu _ q879) (hu _ q759) (hu _ q68) (hu _ q760) (Nat.le_of_ble_eq_true rfl) (Nat.le_of_ble_eq_true rfl) (Nat.zero_le _) (Nat.zero_le _) dX7_lays_70 ?_
          obtain ⟨v11, hv11, hf⟩ := lt_el hf
          refine lv_tope hv11 ?_
          refine lv_istore (lv' := [(4, .int v11), (3, .int 0), (0, .ref (x 0)), (1, .int x1), (2, .int x2)]) hx hb dX7_lays_73 hl (by decide) rfl (fun ls hl => ?_)
          refine lv_iconst (v := 0) hx hb dX7_lays_75 (by decide) ?_
          refine lv_istore (lv' := [(5, .int 0), (4, .int v11), (3, .int 0), (0, .ref (x 0)), (1, .int x1), (2, .int x2)]) hx hb dX7_lays_76 hl (by decide) rfl (fun ls hl => ?_)
          exact h78 400 x1 x2 0 v11 0 Ma Fo _ _ _ hP hD hS (lv_sub hl [3, 4, 5, 2, 1, 0] rfl) hf
        · have hf := ip_el hc10 hf
          refine lv_aload_n hx hb dX7_lays_42 rfl (lv_at hl 0 rfl) ?_
          refine lv_ldc (v := (-1000000001)) hx hb hown (hu _ q335) dX7_lays_43 ?_
          obtain ⟨r65, Ma_66, hg67, hf⟩ := b2_el hf
          refine cc_V (w' := ((kX7 cs x (.ref (g 0)) (.ref (g2 0)) (.ref (g3 0)) (.ref (h 0)) (.ref (t 0)) (.ref (sa 0)) Ma_66) ++ (kX2 cs g (.ref (b 0)) (.ref (c 0)) (.ref (d 0)) (.ref (a 0)) ) ++ (kX1 cs b  Fo) ++ (kSA cs sa (e0 0) (e1 0) (e2 0) (e3 0)) ++ (kX5 cs e0 (.ref (n0 0)) G0) ++ (kJ40 cs n0 N0) ++ (kX5 cs e1 (.ref (n1 0)) G1) ++ (kJ40 cs n1 N1) ++ (kX5 cs e2 (.ref (n2 0)) G2) ++ (kJ40 cs n2 N2) ++ (kX5 cs e3 (.ref (n3 0)) G3) ++ (kJ40 cs n3 N3))) (wr := ((kX2 cs g (.ref (b 0)) (.ref (c 0)) (.ref (d 0)) (.ref (a 0)) ) ++ (kX1 cs b  Fo) ++ (kSA cs sa (e0 0) (e1 0) (e2 0) (e3 0)) ++ (kX5 cs e0 (.ref (n0 0)) G0) ++ (kJ40 cs n0 N0) ++ (kX5 cs e1 (.ref (n1 0)) G1) ++ (kJ40 cs n1 N1) ++ (kX5 cs e2 (.ref (n2 0)) G2) ++ (kJ40 cs n2 N2) ++ (kX5 cs e3 (.ref (n3 0)) G3) ++ (kJ40 cs n3 N3))) (st1 := [.int r65]) [.int (-1000000001)] hx hb hml hown hu (tX7_finding l D cs x g g2 g3 h t sa (-1000000001) Ma r65 Ma_66 hg67) q339 q54 q336 q338 q0 pdX7_finding ⟨rfl, rfl, Nat.le_of_ble_eq_true rfl, Nat.le_of_ble_eq_true rfl⟩ hK hZ hP hD hS hA [0, 1] [2, 3, 4, 5, 6, 7, 8, 9, 10, 11, 12, 13, 14, 15, 16, 17, 18] [17, 18, 0, 1, 2, 3, 4, 5, 6, 7, 8, 9, 10, 11, 12, 13, 14, 15, 16] rfl rfl rfl rfl rfl rfl rfl rfl rfl rfl hl.1 rfl (Nat.le_of_ble_eq_true rfl) dX7_lays_45 rfl (fun H locs hP hD hS => ?_)
          have he := Option.some.inj hf
          obtain ⟨e0, ht0⟩ := Prod.mk.inj he
          obtain ⟨e1, e2⟩ := Prod.mk.inj ht0
          exact hri _ _ _ rfl (congrArg (fun z => some (Value.int z)) e0.symm) dX7_lays_48 _ _ _ (by rw [e1, e2]) hP hD hS
      · have hf := in_el hc7 hf
        refine lv_aload_n hx hb dX7_lays_26 rfl (lv_at hl 0 rfl) ?_
        refine lv_ldcw (v := (-1000000006)) hx hb hown (hu _ q861) dX7_lays_27 ?_
        obtain ⟨r68, Ma_69, hg70, hf⟩ := b2_el hf
        refine cc_V (w' := ((kX7 cs x (.ref (g 0)) (.ref (g2 0)) (.ref (g3 0)) (.ref (h 0)) (.ref (t 0)) (.ref (sa 0)) Ma_69) ++ (kX2 cs g (.ref (b 0)) (.ref (c 0)) (.ref (d 0)) (.ref (a 0)) ) ++ (kX1 cs b  Fo) ++ (kSA cs sa (e0 0) (e1 0) (e2 0) (e3 0)) ++ (kX5 cs e0 (.ref (n0 0)) G0) ++ (kJ40 cs n0 N0) ++ (kX5 cs e1 (.ref (n1 0)) G1) ++ (kJ40 cs n1 N1) ++ (kX5 cs e2 (.ref (n2 0)) G2) ++ (kJ40 cs n2 N2) ++ (kX5 cs e3 (.ref (n3 0)) G3) ++ (kJ40 cs n3 N3))) (wr := ((kX2 cs g (.ref (b 0)) (.ref (c 0)) (.ref (d 0)) (.ref (a 0)) ) ++ (kX1 cs b  Fo) ++ (kSA cs sa (e0 0) (e1 0) (e2 0) (e3 0)) ++ (kX5 cs e0 (.ref (n0 0)) G0) ++ (kJ40 cs n0 N0) ++ (kX5 cs e1 (.ref (n1 0)) G1) ++ (kJ40 cs n1 N1) ++ (kX5 cs e2 (.ref (n2 0)) G2) ++ (kJ40 cs n2 N2) ++ (kX5 cs e3 (.ref (n3 0)) G3) ++ (kJ40 cs n3 N3))) (st1 := [.int r68]) [.int (-1000000006)] hx hb hml hown hu (tX7_finding l D cs x g g2 g3 h t sa (-1000000006) Ma r68 Ma_69 hg70) q339 q54 q336 q338 q0 pdX7_finding ⟨rfl, rfl, Nat.le_of_ble_eq_true rfl, Nat.le_of_ble_eq_true rfl⟩ hK hZ hP hD hS hA [0, 1] [2, 3, 4, 5, 6, 7, 8, 9, 10, 11, 12, 13, 14, 15, 16, 17, 18] [17, 18, 0, 1, 2, 3, 4, 5, 6, 7, 8, 9, 10, 11, 12, 13, 14, 15, 16] rfl rfl rfl rfl rfl rfl rfl rfl rfl rfl hl.1 rfl (Nat.le_of_ble_eq_true rfl) dX7_lays_30 rfl (fun H locs hP hD hS => ?_)
        have he := Option.some.inj hf
        obtain ⟨e0, ht0⟩ := Prod.mk.inj he
        obtain ⟨e1, e2⟩ := Prod.mk.inj ht0
        exact hri _ _ _ rfl (congrArg (fun z => some (Value.int z)) e0.symm) dX7_lays_33 _ _ _ (by rw [e1, e2]) hP hD hS
    have hf := in_el hc4 hf
    by_cases hc71 : x1 = 1
    · have hf := ip_el hc71 hf
      refine sa_lit (e := e1 0) hx hb hK hP 10 rfl (k := 1) (by rw [hc71]; decide) rfl dX7_lays_19 ?_
      obtain ⟨r72, hg73, hf⟩ := b1_el hf
      refine cc_V (w' := ((kX7 cs x (.ref (g 0)) (.ref (g2 0)) (.ref (g3 0)) (.ref (h 0)) (.ref (t 0)) (.ref (sa 0)) Ma) ++ (kX2 cs g (.ref (b 0)) (.ref (c 0)) (.ref (d 0)) (.ref (a 0)) ) ++ (kX1 cs b  Fo) ++ (kSA cs sa (e0 0) (e1 0) (e2 0) (e3 0)) ++ (kX5 cs e0 (.ref (n0 0)) G0) ++ (kJ40 cs n0 N0) ++ (kX5 cs e1 (.ref (n1 0)) G1) ++ (kJ40 cs n1 N1) ++ (kX5 cs e2 (.ref (n2 0)) G2) ++ (kJ40 cs n2 N2) ++ (kX5 cs e3 (.ref (n3 0)) G3) ++ (kJ40 cs n3 N3))) (wr := ((kX7 cs x (.ref (g 0)) (.ref (g2 0)) (.ref (g3 0)) (.ref (h 0)) (.ref (t 0)) (.ref (sa 0)) Ma) ++ (kX2 cs g (.ref (b 0)) (.ref (c 0)) (.ref (d 0)) (.ref (a 0)) ) ++ (kX1 cs b  Fo) ++ (kSA cs sa (e0 0) (e1 0) (e2 0) (e3 0)) ++ (kX5 cs e0 (.ref (n0 0)) G0) ++ (kJ40 cs n0 N0) ++ (kJ40 cs n1 N1) ++ (kX5 cs e2 (.ref (n2 0)) G2) ++ (kJ40 cs n2 N2) ++ (kX5 cs e3 (.ref (n3 0)) G3) ++ (kJ40 cs n3 N3))) (st1 := [.int r72]) [] hx hb hml hown hu (tX5_isMissing l D cs e1 n1 G1 r72 hg73) q860 q61 q857 q858 q859 pdX5_isMissing ⟨rfl, rfl, Nat.le_of_ble_eq_true rfl, Nat.le_of_ble_eq_true rfl⟩ hK hZ hP hD hS hA [13] [0, 1, 2, 3, 4, 5, 6, 7, 8, 9, 10, 11, 12, 14, 15, 16, 17, 18] [0, 1, 2, 3, 4, 5, 6, 7, 8, 9, 10, 11, 12, 18, 13, 14, 15, 16, 17] rfl rfl rfl rfl rfl rfl rfl rfl rfl rfl hl.1 rfl (Nat.le_of_ble_eq_true rfl) dX7_lays_20 rfl (fun H locs hP hD hS => ?_)
      refine lv_if_eq (tgt := 34) hx hb dX7_lays_23 (by decide) (fun hc74 => ?_) (fun hc74 => ?_)
      · have hf := ip_el hc74 hf
        refine lv_aload_n hx hb dX7_lays_34 rfl (lv_at hl 0 rfl) ?_
        refine lv_iload_n hx hb dX7_lays_35 rfl (lv_at hl 2 rfl) ?_
        obtain ⟨r75, hg76, hf⟩ := b1_el hf
        refine cc_V (w' := ((kX7 cs x (.ref (g 0)) (.ref (g2 0)) (.ref (g3 0)) (.ref (h 0)) (.ref (t 0)) (.ref (sa 0)) Ma) ++ (kX2 cs g (.ref (b 0)) (.ref (c 0)) (.ref (d 0)) (.ref (a 0)) ) ++ (kX1 cs b  Fo) ++ (kSA cs sa (e0 0) (e1 0) (e2 0) (e3 0)) ++ (kX5 cs e0 (.ref (n0 0)) G0) ++ (kJ40 cs n0 N0) ++ (kX5 cs e1 (.ref (n1 0)) G1) ++ (kJ40 cs n1 N1) ++ (kX5 cs e2 (.ref (n2 0)) G2) ++ (kJ40 cs n2 N2) ++ (kX5 cs e3 (.ref (n3 0)) G3) ++ (kJ40 cs n3 N3))) (wr := ((kSA cs sa (e0 0) (e1 0) (e2 0) (e3 0)) ++ (kX5 cs e0 (.ref (n0 0)) G0) ++ (kJ40 cs n0 N0) ++ (kX5 cs e1 (.ref (n1 0)) G1) ++ (kJ40 cs n1 N1) ++ (kX5 cs e2 (.ref (n2 0)) G2) ++ (kJ40 cs n2 N2) ++ (kX5 cs e3 (.ref (n3 0)) G3) ++ (kJ40 cs n3 N3))) (st1 := [.int r75]) [.int x2] hx hb hml hown hu (tX7_isOne l D cs x g g2 g3 h t sa b c d a x2 Ma Fo r75 hg76) q352 q54 q349 q351 q1 pdX7_isOne ⟨rfl, rfl, Nat.le_of_ble_eq_true rfl, Nat.le_of_ble_eq_true rfl⟩ hK hZ hP hD hS hA [0, 1, 2, 3, 4, 5, 6, 7, 8, 9] [10, 11, 12, 13, 14, 15, 16, 17, 18] [9, 10, 11, 12, 13, 14, 15, 16, 17, 18, 0, 1, 2, 3, 4, 5, 6, 7, 8] rfl rfl rfl rfl rfl rfl rfl rfl rfl rfl hl.1 rfl (Nat.le_of_ble_eq_true rfl) dX7_lays_36 rfl (fun H locs hP hD hS => ?_)
        refine lv_if_ne (tgt := 49) hx hb dX7_lays_39 (by decide) (fun hc77 => ?_) (fun hc77 => ?_)
        · have hf := in_el hc77 hf
          refine lv_iconst (v := 0) hx hb dX7_lays_49 (by decide) ?_
          refine lv_istore_n (lv' := [(3, .int 0), (0, .ref (x 0)), (1, .int x1), (2, .int x2)]) hx hb dX7_lays_50 rfl hl (by decide) rfl (fun ls hl => ?_)
          refine lv_aload_n hx hb dX7_lays_51 rfl (lv_at hl 1 rfl) ?_
          refine va_get (D := D) (ci := 7) (v := .ref (sa 0)) (C := RX7) (T := TX7) (N := 8) hx hb hu inX7 hown hK.1 hP 0 rfl rfl 5 (by decide) (hu _ q305) (fun _ h9 => h9) rfl dX7_lays_52 ?_
          refine lv_iload_n hx hb dX7_lays_55 rfl (lv_at hl 2 rfl) ?_
          refine sa_lit (e := e1 0) hx hb hK hP 10 rfl (k := 1) (by rw [hc71]; decide) rfl dX7_lays_56 ?_
          refine va_get (D := D) (ci := 5) (v := .int (G1 0 1)) (C := RX5) (T := TX5) (N := 3) hx hb hu inX5 hown hK.1 hP 13 rfl rfl 1 (by decide) (hu _ q289) (fun _ h9 => h9) rfl dX7_lays_57 ?_
          refine lv_aload_n hx hb dX7_lays_60 rfl (lv_at hl 1 rfl) ?_
          refine va_get (D := D) (ci := 7) (v := .ref (g 0)) (C := RX7) (T := TX7) (N := 8) hx hb hu inX7 hown hK.1 hP 0 rfl rfl 0 (by decide) (hu _ q300) (fun _ h9 => h9) rfl dX7_lays_61 ?_
          refine va_get (D := D) (ci := 2) (v := .ref (b 0)) (C := RX2) (T := TX2) (N := 4) hx hb hu inX2 hown hK.1 hP 2 rfl rfl 0 (by decide) (hu _ q196) (fun _ h9 => h9) rfl dX7_lays_64 ?_
          refine va_get (D := D) (ci := 1) (v := .int (Fo 0 0)) (C := RX1) (T := TX1) (N := 9) hx hb hu inX1 hown hK.1 hP 3 rfl rfl 0 (by decide) (hu _ q93) (fun _ h9 => h9) rfl dX7_lays_67 ?_
          refine va_mmin hx hb (hml.trans hl.1.symm) hown (hu _ q879) (hu _ q759) (hu _ q68) (hu _ q760) (Nat.le_of_ble_eq_true rfl) (Nat.le_of_ble_eq_true rfl) (Nat.zero_le _) (Nat.zero_le _) dX7_lays_70 ?_
          obtain ⟨v78, hv78, hf⟩ := lt_el hf
          refine lv_tope hv78 ?_
          refine lv_istore (lv' := [(4, .int v78), (3, .int 0), (0, .ref (x 0)), (1, .int x1), (2, .int x2)]) hx hb dX7_lays_73 hl (by decide) rfl (fun ls hl => ?_)
          refine lv_iconst (v := 0) hx hb dX7_lays_75 (by decide) ?_
          refine lv_istore (lv' := [(5, .int 0), (4, .int v78), (3, .int 0), (0, .ref (x 0)), (1, .int x1), (2, .int x2)]) hx hb dX7_lays_76 hl (by decide) rfl (fun ls hl => ?_)
          exact h78 400 x1 x2 0 v78 0 Ma Fo _ _ _ hP hD hS (lv_sub hl [3, 4, 5, 2, 1, 0] rfl) hf
        · have hf := ip_el hc77 hf
          refine lv_aload_n hx hb dX7_lays_42 rfl (lv_at hl 0 rfl) ?_
          refine lv_ldc (v := (-1000000001)) hx hb hown (hu _ q335) dX7_lays_43 ?_
          obtain ⟨r79, Ma_80, hg81, hf⟩ := b2_el hf
          refine cc_V (w' := ((kX7 cs x (.ref (g 0)) (.ref (g2 0)) (.ref (g3 0)) (.ref (h 0)) (.ref (t 0)) (.ref (sa 0)) Ma_80) ++ (kX2 cs g (.ref (b 0)) (.ref (c 0)) (.ref (d 0)) (.ref (a 0)) ) ++ (kX1 cs b  Fo) ++ (kSA cs sa (e0 0) (e1 0) (e2 0) (e3 0)) ++ (kX5 cs e0 (.ref (n0 0)) G0) ++ (kJ40 cs n0 N0) ++ (kX5 cs e1 (.ref (n1 0)) G1) ++ (kJ40 cs n1 N1) ++ (kX5 cs e2 (.ref (n2 0)) G2) ++ (kJ40 cs n2 N2) ++ (kX5 cs e3 (.ref (n3 0)) G3) ++ (kJ40 cs n3 N3))) (wr := ((kX2 cs g (.ref (b 0)) (.ref (c 0)) (.ref (d 0)) (.ref (a 0)) ) ++ (kX1 cs b  Fo) ++ (kSA cs sa (e0 0) (e1 0) (e2 0) (e3 0)) ++ (kX5 cs e0 (.ref (n0 0)) G0) ++ (kJ40 cs n0 N0) ++ (kX5 cs e1 (.ref (n1 0)) G1) ++ (kJ40 cs n1 N1) ++ (kX5 cs e2 (.ref (n2 0)) G2) ++ (kJ40 cs n2 N2) ++ (kX5 cs e3 (.ref (n3 0)) G3) ++ (kJ40 cs n3 N3))) (st1 := [.int r79]) [.int (-1000000001)] hx hb hml hown hu (tX7_finding l D cs x g g2 g3 h t sa (-1000000001) Ma r79 Ma_80 hg81) q339 q54 q336 q338 q0 pdX7_finding ⟨rfl, rfl, Nat.le_of_ble_eq_true rfl, Nat.le_of_ble_eq_true rfl⟩ hK hZ hP hD hS hA [0, 1] [2, 3, 4, 5, 6, 7, 8, 9, 10, 11, 12, 13, 14, 15, 16, 17, 18] [17, 18, 0, 1, 2, 3, 4, 5, 6, 7, 8, 9, 10, 11, 12, 13, 14, 15, 16] rfl rfl rfl rfl rfl rfl rfl rfl rfl rfl hl.1 rfl (Nat.le_of_ble_eq_true rfl) dX7_lays_45 rfl (fun H locs hP hD hS => ?_)
          have he := Option.some.inj hf
          obtain ⟨e0, ht0⟩ := Prod.mk.inj he
          obtain ⟨e1, e2⟩ := Prod.mk.inj ht0
          exact hri _ _ _ rfl (congrArg (fun z => some (Value.int z)) e0.symm) dX7_lays_48 _ _ _ (by rw [e1, e2]) hP hD hS
      · have hf := in_el hc74 hf
        refine lv_aload_n hx hb dX7_lays_26 rfl (lv_at hl 0 rfl) ?_
        refine lv_ldcw (v := (-1000000006)) hx hb hown (hu _ q861) dX7_lays_27 ?_
        obtain ⟨r82, Ma_83, hg84, hf⟩ := b2_el hf
        refine cc_V (w' := ((kX7 cs x (.ref (g 0)) (.ref (g2 0)) (.ref (g3 0)) (.ref (h 0)) (.ref (t 0)) (.ref (sa 0)) Ma_83) ++ (kX2 cs g (.ref (b 0)) (.ref (c 0)) (.ref (d 0)) (.ref (a 0)) ) ++ (kX1 cs b  Fo) ++ (kSA cs sa (e0 0) (e1 0) (e2 0) (e3 0)) ++ (kX5 cs e0 (.ref (n0 0)) G0) ++ (kJ40 cs n0 N0) ++ (kX5 cs e1 (.ref (n1 0)) G1) ++ (kJ40 cs n1 N1) ++ (kX5 cs e2 (.ref (n2 0)) G2) ++ (kJ40 cs n2 N2) ++ (kX5 cs e3 (.ref (n3 0)) G3) ++ (kJ40 cs n3 N3))) (wr := ((kX2 cs g (.ref (b 0)) (.ref (c 0)) (.ref (d 0)) (.ref (a 0)) ) ++ (kX1 cs b  Fo) ++ (kSA cs sa (e0 0) (e1 0) (e2 0) (e3 0)) ++ (kX5 cs e0 (.ref (n0 0)) G0) ++ (kJ40 cs n0 N0) ++ (kX5 cs e1 (.ref (n1 0)) G1) ++ (kJ40 cs n1 N1) ++ (kX5 cs e2 (.ref (n2 0)) G2) ++ (kJ40 cs n2 N2) ++ (kX5 cs e3 (.ref (n3 0)) G3) ++ (kJ40 cs n3 N3))) (st1 := [.int r82]) [.int (-1000000006)] hx hb hml hown hu (tX7_finding l D cs x g g2 g3 h t sa (-1000000006) Ma r82 Ma_83 hg84) q339 q54 q336 q338 q0 pdX7_finding ⟨rfl, rfl, Nat.le_of_ble_eq_true rfl, Nat.le_of_ble_eq_true rfl⟩ hK hZ hP hD hS hA [0, 1] [2, 3, 4, 5, 6, 7, 8, 9, 10, 11, 12, 13, 14, 15, 16, 17, 18] [17, 18, 0, 1, 2, 3, 4, 5, 6, 7, 8, 9, 10, 11, 12, 13, 14, 15, 16] rfl rfl rfl rfl rfl rfl rfl rfl rfl rfl hl.1 rfl (Nat.le_of_ble_eq_true rfl) dX7_lays_30 rfl (fun H locs hP hD hS => ?_)
        have he := Option.some.inj hf
        obtain ⟨e0, ht0⟩ := Prod.mk.inj he
        obtain ⟨e1, e2⟩ := Prod.mk.inj ht0
        exact hri _ _ _ rfl (congrArg (fun z => some (Value.int z)) e0.symm) dX7_lays_33 _ _ _ (by rw [e1, e2]) hP hD hS
    have hf := in_el hc71 hf
    by_cases hc85 : x1 = 2
    · have hf := ip_el hc85 hf
      refine sa_lit (e := e2 0) hx hb hK hP 10 rfl (k := 2) (by rw [hc85]; decide) rfl dX7_lays_19 ?_
      obtain ⟨r86, hg87, hf⟩ := b1_el hf
      refine cc_V (w' := ((kX7 cs x (.ref (g 0)) (.ref (g2 0)) (.ref (g3 0)) (.ref (h 0)) (.ref (t 0)) (.ref (sa 0)) Ma) ++ (kX2 cs g (.ref (b 0)) (.ref (c 0)) (.ref (d 0)) (.ref (a 0)) ) ++ (kX1 cs b  Fo) ++ (kSA cs sa (e0 0) (e1 0) (e2 0) (e3 0)) ++ (kX5 cs e0 (.ref (n0 0)) G0) ++ (kJ40 cs n0 N0) ++ (kX5 cs e1 (.ref (n1 0)) G1) ++ (kJ40 cs n1 N1) ++ (kX5 cs e2 (.ref (n2 0)) G2) ++ (kJ40 cs n2 N2) ++ (kX5 cs e3 (.ref (n3 0)) G3) ++ (kJ40 cs n3 N3))) (wr := ((kX7 cs x (.ref (g 0)) (.ref (g2 0)) (.ref (g3 0)) (.ref (h 0)) (.ref (t 0)) (.ref (sa 0)) Ma) ++ (kX2 cs g (.ref (b 0)) (.ref (c 0)) (.ref (d 0)) (.ref (a 0)) ) ++ (kX1 cs b  Fo) ++ (kSA cs sa (e0 0) (e1 0) (e2 0) (e3 0)) ++ (kX5 cs e0 (.ref (n0 0)) G0) ++ (kJ40 cs n0 N0) ++ (kX5 cs e1 (.ref (n1 0)) G1) ++ (kJ40 cs n1 N1) ++ (kJ40 cs n2 N2) ++ (kX5 cs e3 (.ref (n3 0)) G3) ++ (kJ40 cs n3 N3))) (st1 := [.int r86]) [] hx hb hml hown hu (tX5_isMissing l D cs e2 n2 G2 r86 hg87) q860 q61 q857 q858 q859 pdX5_isMissing ⟨rfl, rfl, Nat.le_of_ble_eq_true rfl, Nat.le_of_ble_eq_true rfl⟩ hK hZ hP hD hS hA [15] [0, 1, 2, 3, 4, 5, 6, 7, 8, 9, 10, 11, 12, 13, 14, 16, 17, 18] [0, 1, 2, 3, 4, 5, 6, 7, 8, 9, 10, 11, 12, 13, 14, 18, 15, 16, 17] rfl rfl rfl rfl rfl rfl rfl rfl rfl rfl hl.1 rfl (Nat.le_of_ble_eq_true rfl) dX7_lays_20 rfl (fun H locs hP hD hS => ?_)
      refine lv_if_eq (tgt := 34) hx hb dX7_lays_23 (by decide) (fun hc88 => ?_) (fun hc88 => ?_)
      · have hf := ip_el hc88 hf
        refine lv_aload_n hx hb dX7_lays_34 rfl (lv_at hl 0 rfl) ?_
        refine lv_iload_n hx hb dX7_lays_35 rfl (lv_at hl 2 rfl) ?_
        obtain ⟨r89, hg90, hf⟩ := b1_el hf
        refine cc_V (w' := ((kX7 cs x (.ref (g 0)) (.ref (g2 0)) (.ref (g3 0)) (.ref (h 0)) (.ref (t 0)) (.ref (sa 0)) Ma) ++ (kX2 cs g (.ref (b 0)) (.ref (c 0)) (.ref (d 0)) (.ref (a 0)) ) ++ (kX1 cs b  Fo) ++ (kSA cs sa (e0 0) (e1 0) (e2 0) (e3 0)) ++ (kX5 cs e0 (.ref (n0 0)) G0) ++ (kJ40 cs n0 N0) ++ (kX5 cs e1 (.ref (n1 0)) G1) ++ (kJ40 cs n1 N1) ++ (kX5 cs e2 (.ref (n2 0)) G2) ++ (kJ40 cs n2 N2) ++ (kX5 cs e3 (.ref (n3 0)) G3) ++ (kJ40 cs n3 N3))) (wr := ((kSA cs sa (e0 0) (e1 0) (e2 0) (e3 0)) ++ (kX5 cs e0 (.ref (n0 0)) G0) ++ (kJ40 cs n0 N0) ++ (kX5 cs e1 (.ref (n1 0)) G1) ++ (kJ40 cs n1 N1) ++ (kX5 cs e2 (.ref (n2 0)) G2) ++ (kJ40 cs n2 N2) ++ (kX5 cs e3 (.ref (n3 0)) G3) ++ (kJ40 cs n3 N3))) (st1 := [.int r89]) [.int x2] hx hb hml hown hu (tX7_isOne l D cs x g g2 g3 h t sa b c d a x2 Ma Fo r89 hg90) q352 q54 q349 q351 q1 pdX7_isOne ⟨rfl, rfl, Nat.le_of_ble_eq_true rfl, Nat.le_of_ble_eq_true rfl⟩ hK hZ hP hD hS hA [0, 1, 2, 3, 4, 5, 6, 7, 8, 9] [10, 11, 12, 13, 14, 15, 16, 17, 18] [9, 10, 11, 12, 13, 14, 15, 16, 17, 18, 0, 1, 2, 3, 4, 5, 6, 7, 8] rfl rfl rfl rfl rfl rfl rfl rfl rfl rfl hl.1 rfl (Nat.le_of_ble_eq_true rfl) dX7_lays_36 rfl (fun H locs hP hD hS => ?_)
        refine lv_if_ne (tgt := 49) hx hb dX7_lays_39 (by decide) (fun hc91 => ?_) (fun hc91 => ?_)
        · have hf := in_el hc91 hf
          refine lv_iconst (v := 0) hx hb dX7_lays_49 (by decide) ?_
          refine lv_istore_n (lv' := [(3, .int 0), (0, .ref (x 0)), (1, .int x1), (2, .int x2)]) hx hb dX7_lays_50 rfl hl (by decide) rfl (fun ls hl => ?_)
          refine lv_aload_n hx hb dX7_lays_51 rfl (lv_at hl 1 rfl) ?_
          refine va_get (D := D) (ci := 7) (v := .ref (sa 0)) (C := RX7) (T := TX7) (N := 8) hx hb hu inX7 hown hK.1 hP 0 rfl rfl 5 (by decide) (hu _ q305) (fun _ h9 => h9) rfl dX7_lays_52 ?_
          refine lv_iload_n hx hb dX7_lays_55 rfl (lv_at hl 2 rfl) ?_
          refine sa_lit (e := e2 0) hx hb hK hP 10 rfl (k := 2) (by rw [hc85]; decide) rfl dX7_lays_56 ?_
          refine va_get (D := D) (ci := 5) (v := .int (G2 0 1)) (C := RX5) (T := TX5) (N := 3) hx hb hu inX5 hown hK.1 hP 15 rfl rfl 1 (by decide) (hu _ q289) (fun _ h9 => h9) rfl dX7_lays_57 ?_
          refine lv_aload_n hx hb dX7_lays_60 rfl (lv_at hl 1 rfl) ?_
          refine va_get (D := D) (ci := 7) (v := .ref (g 0)) (C := RX7) (T := TX7) (N := 8) hx hb hu inX7 hown hK.1 hP 0 rfl rfl 0 (by decide) (hu _ q300) (fun _ h9 => h9) rfl dX7_lays_61 ?_
          refine va_get (D := D) (ci := 2) (v := .ref (b 0)) (C := RX2) (T := TX2) (N := 4) hx hb hu inX2 hown hK.1 hP 2 rfl rfl 0 (by decide) (hu _ q196) (fun _ h9 => h9) rfl dX7_lays_64 ?_
          refine va_get (D := D) (ci := 1) (v := .int (Fo 0 0)) (C := RX1) (T := TX1) (N := 9) hx hb hu inX1 hown hK.1 hP 3 rfl rfl 0 (by decide) (hu _ q93) (fun _ h9 => h9) rfl dX7_lays_67 ?_
          refine va_mmin hx hb (hml.trans hl.1.symm) hown (hu _ q879) (hu _ q759) (hu _ q68) (hu _ q760) (Nat.le_of_ble_eq_true rfl) (Nat.le_of_ble_eq_true rfl) (Nat.zero_le _) (Nat.zero_le _) dX7_lays_70 ?_
          obtain ⟨v92, hv92, hf⟩ := lt_el hf
          refine lv_tope hv92 ?_
          refine lv_istore (lv' := [(4, .int v92), (3, .int 0), (0, .ref (x 0)), (1, .int x1), (2, .int x2)]) hx hb dX7_lays_73 hl (by decide) rfl (fun ls hl => ?_)
          refine lv_iconst (v := 0) hx hb dX7_lays_75 (by decide) ?_
          refine lv_istore (lv' := [(5, .int 0), (4, .int v92), (3, .int 0), (0, .ref (x 0)), (1, .int x1), (2, .int x2)]) hx hb dX7_lays_76 hl (by decide) rfl (fun ls hl => ?_)
          exact h78 400 x1 x2 0 v92 0 Ma Fo _ _ _ hP hD hS (lv_sub hl [3, 4, 5, 2, 1, 0] rfl) hf
        · have hf := ip_el hc91 hf
          refine lv_aload_n hx hb dX7_lays_42 rfl (lv_at hl 0 rfl) ?_
          refine lv_ldc (v := (-1000000001)) hx hb hown (hu _ q335) dX7_lays_43 ?_
          obtain ⟨r93, Ma_94, hg95, hf⟩ := b2_el hf
          refine cc_V (w' := ((kX7 cs x (.ref (g 0)) (.ref (g2 0)) (.ref (g3 0)) (.ref (h 0)) (.ref (t 0)) (.ref (sa 0)) Ma_94) ++ (kX2 cs g (.ref (b 0)) (.ref (c 0)) (.ref (d 0)) (.ref (a 0)) ) ++ (kX1 cs b  Fo) ++ (kSA cs sa (e0 0) (e1 0) (e2 0) (e3 0)) ++ (kX5 cs e0 (.ref (n0 0)) G0) ++ (kJ40 cs n0 N0) ++ (kX5 cs e1 (.ref (n1 0)) G1) ++ (kJ40 cs n1 N1) ++ (kX5 cs e2 (.ref (n2 0)) G2) ++ (kJ40 cs n2 N2) ++ (kX5 cs e3 (.ref (n3 0)) G3) ++ (kJ40 cs n3 N3))) (wr := ((kX2 cs g (.ref (b 0)) (.ref (c 0)) (.ref (d 0)) (.ref (a 0)) ) ++ (kX1 cs b  Fo) ++ (kSA cs sa (e0 0) (e1 0) (e2 0) (e3 0)) ++ (kX5 cs e0 (.ref (n0 0)) G0) ++ (kJ40 cs n0 N0) ++ (kX5 cs e1 (.ref (n1 0)) G1) ++ (kJ40 cs n1 N1) ++ (kX5 cs e2 (.ref (n2 0)) G2) ++ (kJ40 cs n2 N2) ++ (kX5 cs e3 (.ref (n3 0)) G3) ++ (kJ40 cs n3 N3))) (st1 := [.int r93]) [.int (-1000000001)] hx hb hml hown hu (tX7_finding l D cs x g g2 g3 h t sa (-1000000001) Ma r93 Ma_94 hg95) q339 q54 q336 q338 q0 pdX7_finding ⟨rfl, rfl, Nat.le_of_ble_eq_true rfl, Nat.le_of_ble_eq_true rfl⟩ hK hZ hP hD hS hA [0, 1] [2, 3, 4, 5, 6, 7, 8, 9, 10, 11, 12, 13, 14, 15, 16, 17, 18] [17, 18, 0, 1, 2, 3, 4, 5, 6, 7, 8, 9, 10, 11, 12, 13, 14, 15, 16] rfl rfl rfl rfl rfl rfl rfl rfl rfl rfl hl.1 rfl (Nat.le_of_ble_eq_true rfl) dX7_lays_45 rfl (fun H locs hP hD hS => ?_)
          have he := Option.some.inj hf
          obtain ⟨e0, ht0⟩ := Prod.mk.inj he
          obtain ⟨e1, e2⟩ := Prod.mk.inj ht0
          exact hri _ _ _ rfl (congrArg (fun z => some (Value.int z)) e0.symm) dX7_lays_48 _ _ _ (by rw [e1, e2]) hP hD hS
      · have hf := in_el hc88 hf
        refine lv_aload_n hx hb dX7_lays_26 rfl (lv_at hl 0 rfl) ?_
        refine lv_ldcw (v := (-1000000006)) hx hb hown (hu _ q861) dX7_lays_27 ?_
        obtain ⟨r96, Ma_97, hg98, hf⟩ := b2_el hf
        refine cc_V (w' := ((kX7 cs x (.ref (g 0)) (.ref (g2 0)) (.ref (g3 0)) (.ref (h 0)) (.ref (t 0)) (.ref (sa 0)) Ma_97) ++ (kX2 cs g (.ref (b 0)) (.ref (c 0)) (.ref (d 0)) (.ref (a 0)) ) ++ (kX1 cs b  Fo) ++ (kSA cs sa (e0 0) (e1 0) (e2 0) (e3 0)) ++ (kX5 cs e0 (.ref (n0 0)) G0) ++ (kJ40 cs n0 N0) ++ (kX5 cs e1 (.ref (n1 0)) G1) ++ (kJ40 cs n1 N1) ++ (kX5 cs e2 (.ref (n2 0)) G2) ++ (kJ40 cs n2 N2) ++ (kX5 cs e3 (.ref (n3 0)) G3) ++ (kJ40 cs n3 N3))) (wr := ((kX2 cs g (.ref (b 0)) (.ref (c 0)) (.ref (d 0)) (.ref (a 0)) ) ++ (kX1 cs b  Fo) ++ (kSA cs sa (e0 0) (e1 0) (e2 0) (e3 0)) ++ (kX5 cs e0 (.ref (n0 0)) G0) ++ (kJ40 cs n0 N0) ++ (kX5 cs e1 (.ref (n1 0)) G1) ++ (kJ40 cs n1 N1) ++ (kX5 cs e2 (.ref (n2 0)) G2) ++ (kJ40 cs n2 N2) ++ (kX5 cs e3 (.ref (n3 0)) G3) ++ (kJ40 cs n3 N3))) (st1 := [.int r96]) [.int (-1000000006)] hx hb hml hown hu (tX7_finding l D cs x g g2 g3 h t sa (-1000000006) Ma r96 Ma_97 hg98) q339 q54 q336 q338 q0 pdX7_finding ⟨rfl, rfl, Nat.le_of_ble_eq_true rfl, Nat.le_of_ble_eq_true rfl⟩ hK hZ hP hD hS hA [0, 1] [2, 3, 4, 5, 6, 7, 8, 9, 10, 11, 12, 13, 14, 15, 16, 17, 18] [17, 18, 0, 1, 2, 3, 4, 5, 6, 7, 8, 9, 10, 11, 12, 13, 14, 15, 16] rfl rfl rfl rfl rfl rfl rfl rfl rfl rfl hl.1 rfl (Nat.le_of_ble_eq_true rfl) dX7_lays_30 rfl (fun H locs hP hD hS => ?_)
        have he := Option.some.inj hf
        obtain ⟨e0, ht0⟩ := Prod.mk.inj he
        obtain ⟨e1, e2⟩ := Prod.mk.inj ht0
        exact hri _ _ _ rfl (congrArg (fun z => some (Value.int z)) e0.symm) dX7_lays_33 _ _ _ (by rw [e1, e2]) hP hD hS
    have hf := in_el hc85 hf
    by_cases hc99 : x1 = 3
    · have hf := ip_el hc99 hf
      refine sa_lit (e := e3 0) hx hb hK hP 10 rfl (k := 3) (by rw [hc99]; decide) rfl dX7_lays_19 ?_
      obtain ⟨r100, hg101, hf⟩ := b1_el hf
      refine cc_V (w' := ((kX7 cs x (.ref (g 0)) (.ref (g2 0)) (.ref (g3 0)) (.ref (h 0)) (.ref (t 0)) (.ref (sa 0)) Ma) ++ (kX2 cs g (.ref (b 0)) (.ref (c 0)) (.ref (d 0)) (.ref (a 0)) ) ++ (kX1 cs b  Fo) ++ (kSA cs sa (e0 0) (e1 0) (e2 0) (e3 0)) ++ (kX5 cs e0 (.ref (n0 0)) G0) ++ (kJ40 cs n0 N0) ++ (kX5 cs e1 (.ref (n1 0)) G1) ++ (kJ40 cs n1 N1) ++ (kX5 cs e2 (.ref (n2 0)) G2) ++ (kJ40 cs n2 N2) ++ (kX5 cs e3 (.ref (n3 0)) G3) ++ (kJ40 cs n3 N3))) (wr := ((kX7 cs x (.ref (g 0)) (.ref (g2 0)) (.ref (g3 0)) (.ref (h 0)) (.ref (t 0)) (.ref (sa 0)) Ma) ++ (kX2 cs g (.ref (b 0)) (.ref (c 0)) (.ref (d 0)) (.ref (a 0)) ) ++ (kX1 cs b  Fo) ++ (kSA cs sa (e0 0) (e1 0) (e2 0) (e3 0)) ++ (kX5 cs e0 (.ref (n0 0)) G0) ++ (kJ40 cs n0 N0) ++ (kX5 cs e1 (.ref (n1 0)) G1) ++ (kJ40 cs n1 N1) ++ (kX5 cs e2 (.ref (n2 0)) G2) ++ (kJ40 cs n2 N2) ++ (kJ40 cs n3 N3))) (st1 := [.int r100]) [] hx hb hml hown hu (tX5_isMissing l D cs e3 n3 G3 r100 hg101) q860 q61 q857 q858 q859 pdX5_isMissing ⟨rfl, rfl, Nat.le_of_ble_eq_true rfl, Nat.le_of_ble_eq_true rfl⟩ hK hZ hP hD hS hA [17] [0, 1, 2, 3, 4, 5, 6, 7, 8, 9, 10, 11, 12, 13, 14, 15, 16, 18] [0, 1, 2, 3, 4, 5, 6, 7, 8, 9, 10, 11, 12, 13, 14, 15, 16, 18, 17] rfl rfl rfl rfl rfl rfl rfl rfl rfl rfl hl.1 rfl (Nat.le_of_ble_eq_true rfl) dX7_lays_20 rfl (fun H locs hP hD hS => ?_)
      refine lv_if_eq (tgt := 34) hx hb dX7_lays_23 (by decide) (fun hc102 => ?_) (fun hc102 => ?_)
      · have hf := ip_el hc102 hf
        refine lv_aload_n hx hb dX7_lays_34 rfl (lv_at hl 0 rfl) ?_
        refine lv_iload_n hx hb dX7_lays_35 rfl (lv_at hl 2 rfl) ?_
        obtain ⟨r103, hg104, hf⟩ := b1_el hf
        refine cc_V (w' := ((kX7 cs x (.ref (g 0)) (.ref (g2 0)) (.ref (g3 0)) (.ref (h 0)) (.ref (t 0)) (.ref (sa 0)) Ma) ++ (kX2 cs g (.ref (b 0)) (.ref (c 0)) (.ref (d 0)) (.ref (a 0)) ) ++ (kX1 cs b  Fo) ++ (kSA cs sa (e0 0) (e1 0) (e2 0) (e3 0)) ++ (kX5 cs e0 (.ref (n0 0)) G0) ++ (kJ40 cs n0 N0) ++ (kX5 cs e1 (.ref (n1 0)) G1) ++ (kJ40 cs n1 N1) ++ (kX5 cs e2 (.ref (n2 0)) G2) ++ (kJ40 cs n2 N2) ++ (kX5 cs e3 (.ref (n3 0)) G3) ++ (kJ40 cs n3 N3))) (wr := ((kSA cs sa (e0 0) (e1 0) (e2 0) (e3 0)) ++ (kX5 cs e0 (.ref (n0 0)) G0) ++ (kJ40 cs n0 N0) ++ (kX5 cs e1 (.ref (n1 0)) G1) ++ (kJ40 cs n1 N1) ++ (kX5 cs e2 (.ref (n2 0)) G2) ++ (kJ40 cs n2 N2) ++ (kX5 cs e3 (.ref (n3 0)) G3) ++ (kJ40 cs n3 N3))) (st1 := [.int r103]) [.int x2] hx hb hml hown hu (tX7_isOne l D cs x g g2 g3 h t sa b c d a x2 Ma Fo r103 hg104) q352 q54 q349 q351 q1 pdX7_isOne ⟨rfl, rfl, Nat.le_of_ble_eq_true rfl, Nat.le_of_ble_eq_true rfl⟩ hK hZ hP hD hS hA [0, 1, 2, 3, 4, 5, 6, 7, 8, 9] [10, 11, 12, 13, 14, 15, 16, 17, 18] [9, 10, 11, 12, 13, 14, 15, 16, 17, 18, 0, 1, 2, 3, 4, 5, 6, 7, 8] rfl rfl rfl rfl rfl rfl rfl rfl rfl rfl hl.1 rfl (Nat.le_of_ble_eq_true rfl) dX7_lays_36 rfl (fun H locs hP hD hS => ?_)
        refine lv_if_ne (tgt := 49) hx hb dX7_lays_39 (by decide) (fun hc105 => ?_) (fun hc105 => ?_)
        · have hf := in_el hc105 hf
          refine lv_iconst (v := 0) hx hb dX7_lays_49 (by decide) ?_
          refine lv_istore_n (lv' := [(3, .int 0), (0, .ref (x 0)), (1, .int x1), (2, .int x2)]) hx hb dX7_lays_50 rfl hl (by decide) rfl (fun ls hl => ?_)
          refine lv_aload_n hx hb dX7_lays_51 rfl (lv_at hl 1 rfl) ?_
          refine va_get (D := D) (ci := 7) (v := .ref (sa 0)) (C := RX7) (T := TX7) (N := 8) hx hb hu inX7 hown hK.1 hP 0 rfl rfl 5 (by decide) (hu _ q305) (fun _ h9 => h9) rfl dX7_lays_52 ?_
          refine lv_iload_n hx hb dX7_lays_55 rfl (lv_at hl 2 rfl) ?_
          refine sa_lit (e := e3 0) hx hb hK hP 10 rfl (k := 3) (by rw [hc99]; decide) rfl dX7_lays_56 ?_
          refine va_get (D := D) (ci := 5) (v := .int (G3 0 1)) (C := RX5) (T := TX5) (N := 3) hx hb hu inX5 hown hK.1 hP 17 rfl rfl 1 (by decide) (hu _ q289) (fun _ h9 => h9) rfl dX7_lays_57 ?_
          refine lv_aload_n hx hb dX7_lays_60 rfl (lv_at hl 1 rfl) ?_
          refine va_get (D := D) (ci := 7) (v := .ref (g 0)) (C := RX7) (T := TX7) (N := 8) hx hb hu inX7 hown hK.1 hP 0 rfl rfl 0 (by decide) (hu _ q300) (fun _ h9 => h9) rfl dX7_lays_61 ?_
          refine va_get (D := D) (ci := 2) (v := .ref (b 0)) (C := RX2) (T := TX2) (N := 4) hx hb hu inX2 hown hK.1 hP 2 rfl rfl 0 (by decide) (hu _ q196) (fun _ h9 => h9) rfl dX7_lays_64 ?_
          refine va_get (D := D) (ci := 1) (v := .int (Fo 0 0)) (C := RX1) (T := TX1) (N := 9) hx hb hu inX1 hown hK.1 hP 3 rfl rfl 0 (by decide) (hu _ q93) (fun _ h9 => h9) rfl dX7_lays_67 ?_
          refine va_mmin hx hb (hml.trans hl.1.symm) hown (hu _ q879) (hu _ q759) (hu _ q68) (hu _ q760) (Nat.le_of_ble_eq_true rfl) (Nat.le_of_ble_eq_true rfl) (Nat.zero_le _) (Nat.zero_le _) dX7_lays_70 ?_
          obtain ⟨v106, hv106, hf⟩ := lt_el hf
          refine lv_tope hv106 ?_
          refine lv_istore (lv' := [(4, .int v106), (3, .int 0), (0, .ref (x 0)), (1, .int x1), (2, .int x2)]) hx hb dX7_lays_73 hl (by decide) rfl (fun ls hl => ?_)
          refine lv_iconst (v := 0) hx hb dX7_lays_75 (by decide) ?_
          refine lv_istore (lv' := [(5, .int 0), (4, .int v106), (3, .int 0), (0, .ref (x 0)), (1, .int x1), (2, .int x2)]) hx hb dX7_lays_76 hl (by decide) rfl (fun ls hl => ?_)
          exact h78 400 x1 x2 0 v106 0 Ma Fo _ _ _ hP hD hS (lv_sub hl [3, 4, 5, 2, 1, 0] rfl) hf
        · have hf := ip_el hc105 hf
          refine lv_aload_n hx hb dX7_lays_42 rfl (lv_at hl 0 rfl) ?_
          refine lv_ldc (v := (-1000000001)) hx hb hown (hu _ q335) dX7_lays_43 ?_
          obtain ⟨r107, Ma_108, hg109, hf⟩ := b2_el hf
          refine cc_V (w' := ((kX7 cs x (.ref (g 0)) (.ref (g2 0)) (.ref (g3 0)) (.ref (h 0)) (.ref (t 0)) (.ref (sa 0)) Ma_108) ++ (kX2 cs g (.ref (b 0)) (.ref (c 0)) (.ref (d 0)) (.ref (a 0)) ) ++ (kX1 cs b  Fo) ++ (kSA cs sa (e0 0) (e1 0) (e2 0) (e3 0)) ++ (kX5 cs e0 (.ref (n0 0)) G0) ++ (kJ40 cs n0 N0) ++ (kX5 cs e1 (.ref (n1 0)) G1) ++ (kJ40 cs n1 N1) ++ (kX5 cs e2 (.ref (n2 0)) G2) ++ (kJ40 cs n2 N2) ++ (kX5 cs e3 (.ref (n3 0)) G3) ++ (kJ40 cs n3 N3))) (wr := ((kX2 cs g (.ref (b 0)) (.ref (c 0)) (.ref (d 0)) (.ref (a 0)) ) ++ (kX1 cs b  Fo) ++ (kSA cs sa (e0 0) (e1 0) (e2 0) (e3 0)) ++ (kX5 cs e0 (.ref (n0 0)) G0) ++ (kJ40 cs n0 N0) ++ (kX5 cs e1 (.ref (n1 0)) G1) ++ (kJ40 cs n1 N1) ++ (kX5 cs e2 (.ref (n2 0)) G2) ++ (kJ40 cs n2 N2) ++ (kX5 cs e3 (.ref (n3 0)) G3) ++ (kJ40 cs n3 N3))) (st1 := [.int r107]) [.int (-1000000001)] hx hb hml hown hu (tX7_finding l D cs x g g2 g3 h t sa (-1000000001) Ma r107 Ma_108 hg109) q339 q54 q336 q338 q0 pdX7_finding ⟨rfl, rfl, Nat.le_of_ble_eq_true rfl, Nat.le_of_ble_eq_true rfl⟩ hK hZ hP hD hS hA [0, 1] [2, 3, 4, 5, 6, 7, 8, 9, 10, 11, 12, 13, 14, 15, 16, 17, 18] [17, 18, 0, 1, 2, 3, 4, 5, 6, 7, 8, 9, 10, 11, 12, 13, 14, 15, 16] rfl rfl rfl rfl rfl rfl rfl rfl rfl rfl hl.1 rfl (Nat.le_of_ble_eq_true rfl) dX7_lays_45 rfl (fun H locs hP hD hS => ?_)
          have he := Option.some.inj hf
          obtain ⟨e0, ht0⟩ := Prod.mk.inj he
          obtain ⟨e1, e2⟩ := Prod.mk.inj ht0
          exact hri _ _ _ rfl (congrArg (fun z => some (Value.int z)) e0.symm) dX7_lays_48 _ _ _ (by rw [e1, e2]) hP hD hS
      · have hf := in_el hc102 hf
        refine lv_aload_n hx hb dX7_lays_26 rfl (lv_at hl 0 rfl) ?_
        refine lv_ldcw (v := (-1000000006)) hx hb hown (hu _ q861) dX7_lays_27 ?_
        obtain ⟨r110, Ma_111, hg112, hf⟩ := b2_el hf
        refine cc_V (w' := ((kX7 cs x (.ref (g 0)) (.ref (g2 0)) (.ref (g3 0)) (.ref (h 0)) (.ref (t 0)) (.ref (sa 0)) Ma_111) ++ (kX2 cs g (.ref (b 0)) (.ref (c 0)) (.ref (d 0)) (.ref (a 0)) ) ++ (kX1 cs b  Fo) ++ (kSA cs sa (e0 0) (e1 0) (e2 0) (e3 0)) ++ (kX5 cs e0 (.ref (n0 0)) G0) ++ (kJ40 cs n0 N0) ++ (kX5 cs e1 (.ref (n1 0)) G1) ++ (kJ40 cs n1 N1) ++ (kX5 cs e2 (.ref (n2 0)) G2) ++ (kJ40 cs n2 N2) ++ (kX5 cs e3 (.ref (n3 0)) G3) ++ (kJ40 cs n3 N3))) (wr := ((kX2 cs g (.ref (b 0)) (.ref (c 0)) (.ref (d 0)) (.ref (a 0)) ) ++ (kX1 cs b  Fo) ++ (kSA cs sa (e0 0) (e1 0) (e2 0) (e3 0)) ++ (kX5 cs e0 (.ref (n0 0)) G0) ++ (kJ40 cs n0 N0) ++ (kX5 cs e1 (.ref (n1 0)) G1) ++ (kJ40 cs n1 N1) ++ (kX5 cs e2 (.ref (n2 0)) G2) ++ (kJ40 cs n2 N2) ++ (kX5 cs e3 (.ref (n3 0)) G3) ++ (kJ40 cs n3 N3))) (st1 := [.int r110]) [.int (-1000000006)] hx hb hml hown hu (tX7_finding l D cs x g g2 g3 h t sa (-1000000006) Ma r110 Ma_111 hg112) q339 q54 q336 q338 q0 pdX7_finding ⟨rfl, rfl, Nat.le_of_ble_eq_true rfl, Nat.le_of_ble_eq_true rfl⟩ hK hZ hP hD hS hA [0, 1] [2, 3, 4, 5, 6, 7, 8, 9, 10, 11, 12, 13, 14, 15, 16, 17, 18] [17, 18, 0, 1, 2, 3, 4, 5, 6, 7, 8, 9, 10, 11, 12, 13, 14, 15, 16] rfl rfl rfl rfl rfl rfl rfl rfl rfl rfl hl.1 rfl (Nat.le_of_ble_eq_true rfl) dX7_lays_30 rfl (fun H locs hP hD hS => ?_)
        have he := Option.some.inj hf
        obtain ⟨e0, ht0⟩ := Prod.mk.inj he
        obtain ⟨e1, e2⟩ := Prod.mk.inj ht0
        exact hri _ _ _ rfl (congrArg (fun z => some (Value.int z)) e0.symm) dX7_lays_33 _ _ _ (by rw [e1, e2]) hP hD hS
    have hf := in_el hc99 hf
    exact no_el hf
  · have hf := ip_el hc3 hf
    refine lv_aload_n hx hb dX7_lays_7 rfl (lv_at hl 0 rfl) ?_
    refine lv_ldc (v := (-1000000001)) hx hb hown (hu _ q335) dX7_lays_8 ?_
    obtain ⟨r113, Ma_114, hg115, hf⟩ := b2_el hf
    refine cc_V (w' := ((kX7 cs x (.ref (g 0)) (.ref (g2 0)) (.ref (g3 0)) (.ref (h 0)) (.ref (t 0)) (.ref (sa 0)) Ma_114) ++ (kX2 cs g (.ref (b 0)) (.ref (c 0)) (.ref (d 0)) (.ref (a 0)) ) ++ (kX1 cs b  Fo) ++ (kSA cs sa (e0 0) (e1 0) (e2 0) (e3 0)) ++ (kX5 cs e0 (.ref (n0 0)) G0) ++ (kJ40 cs n0 N0) ++ (kX5 cs e1 (.ref (n1 0)) G1) ++ (kJ40 cs n1 N1) ++ (kX5 cs e2 (.ref (n2 0)) G2) ++ (kJ40 cs n2 N2) ++ (kX5 cs e3 (.ref (n3 0)) G3) ++ (kJ40 cs n3 N3))) (wr := ((kX2 cs g (.ref (b 0)) (.ref (c 0)) (.ref (d 0)) (.ref (a 0)) ) ++ (kX1 cs b  Fo) ++ (kSA cs sa (e0 0) (e1 0) (e2 0) (e3 0)) ++ (kX5 cs e0 (.ref (n0 0)) G0) ++ (kJ40 cs n0 N0) ++ (kX5 cs e1 (.ref (n1 0)) G1) ++ (kJ40 cs n1 N1) ++ (kX5 cs e2 (.ref (n2 0)) G2) ++ (kJ40 cs n2 N2) ++ (kX5 cs e3 (.ref (n3 0)) G3) ++ (kJ40 cs n3 N3))) (st1 := [.int r113]) [.int (-1000000001)] hx hb hml hown hu (tX7_finding l D cs x g g2 g3 h t sa (-1000000001) Ma r113 Ma_114 hg115) q339 q54 q336 q338 q0 pdX7_finding ⟨rfl, rfl, Nat.le_of_ble_eq_true rfl, Nat.le_of_ble_eq_true rfl⟩ hK hZ hP hD hS hA [0, 1] [2, 3, 4, 5, 6, 7, 8, 9, 10, 11, 12, 13, 14, 15, 16, 17, 18] [17, 18, 0, 1, 2, 3, 4, 5, 6, 7, 8, 9, 10, 11, 12, 13, 14, 15, 16] rfl rfl rfl rfl rfl rfl rfl rfl rfl rfl hl.1 rfl (Nat.le_of_ble_eq_true rfl) dX7_lays_10 rfl (fun H locs hP hD hS => ?_)
    have he := Option.some.inj hf
    obtain ⟨e0, ht0⟩ := Prod.mk.inj he
    obtain ⟨e1, e2⟩ := Prod.mk.inj ht0
    exact hri _ _ _ rfl (congrArg (fun z => some (Value.int z)) e0.symm) dX7_lays_13 _ _ _ (by rw [e1, e2]) hP hD hS

def fX7_read_43_s (Fo : ST) (Se : ST) (Ch : ST) (G0 : ST) (N0 : LT) (G1 : ST) (N1 : LT) (G2 : ST) (N2 : LT) (G3 : ST) (N3 : LT) (k43 : Int32 → Int32 → ST → ST → ST → ST → Option (Int32 × ST × ST × ST × ST)) (y1 : Int32) (y2 : Int32) (Ma : ST) (Sc : ST) (Tr : ST) (Us : ST) : Option (Int32 × ST × ST × ST × ST) :=
  (if y1 = 0 then (if (G0 0 1) ≤ y2 then some (0, Ma, Sc, Tr, Us) else dc_ck y2 40 (dc_b4 (fX4_next 1 Us Fo Sc Tr) (fun r13 Us_14 Sc_15 Tr_16 => (if (lg_cmp (N0 (Int32.toNatClampNeg y2)) (r13.toInt64)) = 0 then dc_lt (y2 + 1) (fun v19 => k43 y1 v19 Ma Sc_15 Tr_16 Us_14) else some ((1 + y2), Ma, Sc_15, Tr_16, Us_14))))) else if y1 = 1 then (if (G1 0 1) ≤ y2 then some (0, Ma, Sc, Tr, Us) else dc_ck y2 40 (dc_b4 (fX4_next 1 Us Fo Sc Tr) (fun r23 Us_24 Sc_25 Tr_26 => (if (lg_cmp (N1 (Int32.toNatClampNeg y2)) (r23.toInt64)) = 0 then dc_lt (y2 + 1) (fun v29 => k43 y1 v29 Ma Sc_25 Tr_26 Us_24) else some ((1 + y2), Ma, Sc_25, Tr_26, Us_24))))) else if y1 = 2 then (if (G2 0 1) ≤ y2 then some (0, Ma, Sc, Tr, Us) else dc_ck y2 40 (dc_b4 (fX4_next 1 Us Fo Sc Tr) (fun r33 Us_34 Sc_35 Tr_36 => (if (lg_cmp (N2 (Int32.toNatClampNeg y2)) (r33.toInt64)) = 0 then dc_lt (y2 + 1) (fun v39 => k43 y1 v39 Ma Sc_35 Tr_36 Us_34) else some ((1 + y2), Ma, Sc_35, Tr_36, Us_34))))) else if y1 = 3 then (if (G3 0 1) ≤ y2 then some (0, Ma, Sc, Tr, Us) else dc_ck y2 40 (dc_b4 (fX4_next 1 Us Fo Sc Tr) (fun r43 Us_44 Sc_45 Tr_46 => (if (lg_cmp (N3 (Int32.toNatClampNeg y2)) (r43.toInt64)) = 0 then dc_lt (y2 + 1) (fun v49 => k43 y1 v49 Ma Sc_45 Tr_46 Us_44) else some ((1 + y2), Ma, Sc_45, Tr_46, Us_44))))) else none)
def fX7_read_43 (Fo : ST) (Se : ST) (Ch : ST) (G0 : ST) (N0 : LT) (G1 : ST) (N1 : LT) (G2 : ST) (N2 : LT) (G3 : ST) (N3 : LT) : Nat → Int32 → Int32 → ST → ST → ST → ST → Option (Int32 × ST × ST × ST × ST)
  | 0 => fun _ _ _ _ _ _ => none
  | n + 1 => fX7_read_43_s Fo Se Ch G0 N0 G1 N1 G2 N2 G3 N3 (fX7_read_43 Fo Se Ch G0 N0 G1 N1 G2 N2 G3 N3 n)
def fX7_read (x1 : Int32) (Ma : ST) (Fo : ST) (Sc : ST) (Se : ST) (Tr : ST) (Ch : ST) (Us : ST) (G0 : ST) (N0 : LT) (G1 : ST) (N1 : LT) (G2 : ST) (N2 : LT) (G3 : ST) (N3 : LT) : Option (Int32 × ST × ST × ST × ST) :=
  dc_b1 (fX7_isSheet x1) (fun r1 => (if r1 = 0 then dc_b2 (fX7_finding (-1000000001) Ma) (fun r80 Ma_81 => some (r80, Ma_81, Sc, Tr, Us)) else (if x1 = 0 then dc_b1 (fX5_isMissing G0) (fun r5 => (if r5 = 0 then dc_b1 (fX0_start Ch Se Us) (fun Us_8 => fX7_read_43 Fo Se Ch G0 N0 G1 N1 G2 N2 G3 N3 400 x1 0 Ma Sc Tr Us_8) else dc_b2 (fX7_finding (-1000000006) Ma) (fun r50 Ma_51 => some (r50, Ma_51, Sc, Tr, Us)))) else if x1 = 1 then dc_b1 (fX5_isMissing G1) (fun r54 => (if r54 = 0 then dc_b1 (fX0_start Ch Se Us) (fun Us_57 => fX7_read_43 Fo Se Ch G0 N0 G1 N1 G2 N2 G3 N3 400 x1 0 Ma Sc Tr Us_57) else dc_b2 (fX7_finding (-1000000006) Ma) (fun r59 Ma_60 => some (r59, Ma_60, Sc, Tr, Us)))) else if x1 = 2 then dc_b1 (fX5_isMissing G2) (fun r63 => (if r63 = 0 then dc_b1 (fX0_start Ch Se Us) (fun Us_66 => fX7_read_43 Fo Se Ch G0 N0 G1 N1 G2 N2 G3 N3 400 x1 0 Ma Sc Tr Us_66) else dc_b2 (fX7_finding (-1000000006) Ma) (fun r68 Ma_69 => some (r68, Ma_69, Sc, Tr, Us)))) else if x1 = 3 then dc_b1 (fX5_isMissing G3) (fun r72 => (if r72 = 0 then dc_b1 (fX0_start Ch Se Us) (fun Us_75 => fX7_read_43 Fo Se Ch G0 N0 G1 N1 G2 N2 G3 N3 400 x1 0 Ma Sc Tr Us_75) else dc_b2 (fX7_finding (-1000000006) Ma) (fun r77 Ma_78 => some (r77, Ma_78, Sc, Tr, Us)))) else none)))
abbrev rmX7_read : Room := { frames := 10, cells := 0, slots := 0, locals := 256 }
set_option maxRecDepth 100000 in
set_option maxHeartbeats 4000000 in
theorem tX7_read (l : Launch) (D : va_G) (cs : Nat → ClassId) (x : Nat → Nat) (g : Nat → Nat) (g2 : Nat → Nat) (g3 : Nat → Nat) (h : Nat → Nat) (t : Nat → Nat) (sa : Nat → Nat) (b : Nat → Nat) (c : Nat → Nat) (d : Nat → Nat) (a : Nat → Nat) (u : Nat → Nat) (e0 : Nat → Nat) (e1 : Nat → Nat) (e2 : Nat → Nat) (e3 : Nat → Nat) (n0 : Nat → Nat) (n1 : Nat → Nat) (n2 : Nat → Nat) (n3 : Nat → Nat) (x1 : Int32) (Ma : ST) (Fo : ST) (Sc : ST) (Se : ST) (Tr : ST) (Ch : ST) (Us : ST) (G0 : ST) (N0 : LT) (G1 : ST) (N1 : LT) (G2 : ST) (N2 : LT) (G3 : ST) (N3 : LT) (r0 : Int32) (Maz : ST) (Scz : ST) (Trz : ST) (Usz : ST) (hf : fX7_read x1 Ma Fo Sc Se Tr Ch Us G0 N0 G1 N1 G2 N2 G3 N3 = some (r0, Maz, Scz, Trz, Usz)) : CG l yX7_read (wsm yX7_read cX7_read 3 (some .int)) rmX7_read D cs [.ref (x 0), .int x1] (some (.int r0)) ((kX7 cs x (.ref (g 0)) (.ref (g2 0)) (.ref (g3 0)) (.ref (h 0)) (.ref (t 0)) (.ref (sa 0)) Ma) ++ (kX2 cs g (.ref (b 0)) (.ref (c 0)) (.ref (d 0)) (.ref (a 0)) ) ++ (kX1 cs b  Fo) ++ (kX3 cs c  Sc) ++ (kX4 cs a (.ref (b 0)) (.ref (c 0)) (.ref (d 0)) Se) ++ (kX4 cs d (.ref (b 0)) (.ref (c 0)) .null Tr) ++ (kX0 cs h (.ref (g 0)) (.ref (u 0)) Ch) ++ (kX4 cs u (.ref (b 0)) (.ref (c 0)) (.ref (d 0)) Us) ++ (kSA cs sa (e0 0) (e1 0) (e2 0) (e3 0)) ++ (kX5 cs e0 (.ref (n0 0)) G0) ++ (kJ40 cs n0 N0) ++ (kX5 cs e1 (.ref (n1 0)) G1) ++ (kJ40 cs n1 N1) ++ (kX5 cs e2 (.ref (n2 0)) G2) ++ (kJ40 cs n2 N2) ++ (kX5 cs e3 (.ref (n3 0)) G3) ++ (kJ40 cs n3 N3)) ((kX7 cs x (.ref (g 0)) (.ref (g2 0)) (.ref (g3 0)) (.ref (h 0)) (.ref (t 0)) (.ref (sa 0)) Maz) ++ (kX2 cs g (.ref (b 0)) (.ref (c 0)) (.ref (d 0)) (.ref (a 0)) ) ++ (kX1 cs b  Fo) ++ (kX3 cs c  Scz) ++ (kX4 cs a (.ref (b 0)) (.ref (c 0)) (.ref (d 0)) Se) ++ (kX4 cs d (.ref (b 0)) (.ref (c 0)) .null Trz) ++ (kX0 cs h (.ref (g 0)) (.ref (u 0)) Ch) ++ (kX4 cs u (.ref (b 0)) (.ref (c 0)) (.ref (d 0)) Usz) ++ (kSA cs sa (e0 0) (e1 0) (e2 0) (e3 0)) ++ (kX5 cs e0 (.ref (n0 0)) G0) ++ (kJ40 cs n0 N0) ++ (kX5 cs e1 (.ref (n1 0)) G1) ++ (kJ40 cs n1 N1) ++ (kX5 cs e2 (.ref (n2 0)) G2) ++ (kJ40 cs n2 N2) ++ (kX5 cs e3 (.ref (n3 0)) G3) ++ (kJ40 cs n3 N3)) := by
  refine CG.intro (by decide) (Nat.le_of_ble_eq_true rfl) ?_
  intro p e s m below meth c A Q hx hb hml hown hu hK hZ hP0 hD0 hS0 hA hri hrz hrl hrv hra ls0 hl0
  have hs43 : ∀ (k43 : Int32 → Int32 → ST → ST → ST → ST → Option (Int32 × ST × ST × ST × ST)), (∀ (y1 : Int32) (y2 : Int32) (Ma : ST) (Sc : ST) (Tr : ST) (Us : ST) (H : Heap) (locs : List Loc) (ls : Array Slot), va_P D vwCl ((kX7 cs x (.ref (g 0)) (.ref (g2 0)) (.ref (g3 0)) (.ref (h 0)) (.ref (t 0)) (.ref (sa 0)) Ma) ++ (kX2 cs g (.ref (b 0)) (.ref (c 0)) (.ref (d 0)) (.ref (a 0)) ) ++ (kX1 cs b  Fo) ++ (kX3 cs c  Sc) ++ (kX4 cs a (.ref (b 0)) (.ref (c 0)) (.ref (d 0)) Se) ++ (kX4 cs d (.ref (b 0)) (.ref (c 0)) .null Tr) ++ (kX0 cs h (.ref (g 0)) (.ref (u 0)) Ch) ++ (kX4 cs u (.ref (b 0)) (.ref (c 0)) (.ref (d 0)) Us) ++ (kSA cs sa (e0 0) (e1 0) (e2 0) (e3 0)) ++ (kX5 cs e0 (.ref (n0 0)) G0) ++ (kJ40 cs n0 N0) ++ (kX5 cs e1 (.ref (n1 0)) G1) ++ (kJ40 cs n1 N1) ++ (kX5 cs e2 (.ref (n2 0)) G2) ++ (kJ40 cs n2 N2) ++ (kX5 cs e3 (.ref (n3 0)) G3) ++ (kJ40 cs n3 N3)) H → va_D A ((kX7 cs x (.ref (g 0)) (.ref (g2 0)) (.ref (g3 0)) (.ref (h 0)) (.ref (t 0)) (.ref (sa 0)) Ma) ++ (kX2 cs g (.ref (b 0)) (.ref (c 0)) (.ref (d 0)) (.ref (a 0)) ) ++ (kX1 cs b  Fo) ++ (kX3 cs c  Sc) ++ (kX4 cs a (.ref (b 0)) (.ref (c 0)) (.ref (d 0)) Se) ++ (kX4 cs d (.ref (b 0)) (.ref (c 0)) .null Tr) ++ (kX0 cs h (.ref (g 0)) (.ref (u 0)) Ch) ++ (kX4 cs u (.ref (b 0)) (.ref (c 0)) (.ref (d 0)) Us) ++ (kSA cs sa (e0 0) (e1 0) (e2 0) (e3 0)) ++ (kX5 cs e0 (.ref (n0 0)) G0) ++ (kJ40 cs n0 N0) ++ (kX5 cs e1 (.ref (n1 0)) G1) ++ (kJ40 cs n1 N1) ++ (kX5 cs e2 (.ref (n2 0)) G2) ++ (kJ40 cs n2 N2) ++ (kX5 cs e3 (.ref (n3 0)) G3) ++ (kJ40 cs n3 N3)) → va_S A s.heap H locs → lv_has ls 3 [(0, .ref (x 0)), (1, .int y1), (2, .int y2)] → k43 y1 y2 Ma Sc Tr Us = some (r0, Maz, Scz, Trz, Usz) → W p l e rmX7_read s m [.ref (x 0), .int x1].toArray below meth c H locs 0 0 Q (F0 m 43 ls [])) → ∀ (y1 : Int32) (y2 : Int32) (Ma : ST) (Sc : ST) (Tr : ST) (Us : ST) (H : Heap) (locs : List Loc) (ls : Array Slot), va_P D vwCl ((kX7 cs x (.ref (g 0)) (.ref (g2 0)) (.ref (g3 0)) (.ref (h 0)) (.ref (t 0)) (.ref (sa 0)) Ma) ++ (kX2 cs g (.ref (b 0)) (.ref (c 0)) (.ref (d 0)) (.ref (a 0)) ) ++ (kX1 cs b  Fo) ++ (kX3 cs c  Sc) ++ (kX4 cs a (.ref (b 0)) (.ref (c 0)) (.ref (d 0)) Se) ++ (kX4 cs d (.ref (b 0)) (.ref (c 0)) .null Tr) ++ (kX0 cs h (.ref (g 0)) (.ref (u 0)) Ch) ++ (kX4 cs u (.ref (b 0)) (.ref (c 0)) (.ref (d 0)) Us) ++ (kSA cs sa (e0 0) (e1 0) (e2 0) (e3 0)) ++ (kX5 cs e0 (.ref (n0 0)) G0) ++ (kJ40 cs n0 N0) ++ (kX5 cs e1 (.ref (n1 0)) G1) ++ (kJ40 cs n1 N1) ++ (kX5 cs e2 (.ref (n2 0)) G2) ++ (kJ40 cs n2 N2) ++ (kX5 cs e3 (.ref (n3 0)) G3) ++ (kJ40 cs n3 N3)) H → va_D A ((kX7 cs x (.ref (g 0)) (.ref (g2 0)) (.ref (g3 0)) (.ref (h 0)) (.ref (t 0)) (.ref (sa 0)) Ma) ++ (kX2 cs g (.ref (b 0)) (.ref (c 0)) (.ref (d 0)) (.ref (a 0)) ) ++ (kX1 cs b  Fo) ++ (kX3 cs c  Sc) ++ (kX4 cs a (.ref (b 0)) (.ref (c 0)) (.ref (d 0)) Se) ++ (kX4 cs d (.ref (b 0)) (.ref (c 0)) .null Tr) ++ (kX0 cs h (.ref (g 0)) (.ref (u 0)) Ch) ++ (kX4 cs u (.ref (b 0)) (.ref (c 0)) (.ref (d 0)) Us) ++ (kSA cs sa (e0 0) (e1 0) (e2 0) (e3 0)) ++ (kX5 cs e0 (.ref (n0 0)) G0) ++ (kJ40 cs n0 N0) ++ (kX5 cs e1 (.ref (n1 0)) G1) ++ (kJ40 cs n1 N1) ++ (kX5 cs e2 (.ref (n2 0)) G2) ++ (kJ40 cs n2 N2) ++ (kX5 cs e3 (.ref (n3 0)) G3) ++ (kJ40 cs n3 N3)) → va_S A s.heap H locs → lv_has ls 3 [(0, .ref (x 0)), (1, .int y1), (2, .int y2)] → fX7_read_43_s Fo Se Ch G0 N0 G1 N1 G2 N2 G3 N3 k43 y1 y2 Ma Sc Tr Us = some (r0, Maz, Scz, Trz, Usz) → W p l e rmX7_read s m [.ref (x 0), .int x1].toArray below meth c H locs 0 0 Q (F0 m 43 ls []) := by
    intro k43 hk43 y1 y2 Ma Sc Tr Us H locs ls hP hD hS hl hf
    unfold fX7_read_43_s at hf
    refine lv_iload_n hx hb dX7_read_43 rfl (lv_at hl 2 rfl) ?_
    refine lv_aload_n hx hb dX7_read_44 rfl (lv_at hl 0 rfl) ?_
    refine va_get (D := D) (ci := 7) (v := .ref (sa 0)) (C := RX7) (T := TX7) (N := 8) hx hb hu inX7 hown hK.1 hP 0 rfl rfl 5 (by decide) (hu _ q305) (fun _ h9 => h9) rfl dX7_read_45 ?_
    refine lv_iload_n hx hb dX7_read_48 rfl (lv_at hl 1 rfl) ?_
    by_cases hc10 : y1 = 0
    · have hf := ip_el hc10 hf
      refine sa_lit (e := e0 0) hx hb hK hP 30 rfl (k := 0) (by rw [hc10]; decide) rfl dX7_read_49 ?_
      refine va_get (D := D) (ci := 5) (v := .int (G0 0 1)) (C := RX5) (T := TX5) (N := 3) hx hb hu inX5 hown hK.1 hP 31 rfl rfl 1 (by decide) (hu _ q289) (fun _ h9 => h9) rfl dX7_read_50 ?_
      refine lv_icmp_ge (tgt := 93) hx hb dX7_read_53 (by decide) (fun hc11 => ?_) (fun hc11 => ?_)
      · have hf := ip_el hc11 hf
        refine lv_iconst (v := 0) hx hb dX7_read_93 (by decide) ?_
        have he := Option.some.inj hf
        obtain ⟨e0, ht0⟩ := Prod.mk.inj he
        obtain ⟨e1, ht1⟩ := Prod.mk.inj ht0
        obtain ⟨e2, ht2⟩ := Prod.mk.inj ht1
        obtain ⟨e3, e4⟩ := Prod.mk.inj ht2
        exact hri _ _ _ rfl (congrArg (fun z => some (Value.int z)) e0.symm) dX7_read_94 _ _ _ (by rw [e1, e2, e3, e4]) hP hD hS
      · have hf := in_el hc11 hf
        refine lv_aload_n hx hb dX7_read_56 rfl (lv_at hl 0 rfl) ?_
        refine va_get (D := D) (ci := 7) (v := .ref (sa 0)) (C := RX7) (T := TX7) (N := 8) hx hb hu inX7 hown hK.1 hP 0 rfl rfl 5 (by decide) (hu _ q305) (fun _ h9 => h9) rfl dX7_read_57 ?_
        refine lv_iload_n hx hb dX7_read_60 rfl (lv_at hl 1 rfl) ?_
        refine sa_lit (e := e0 0) hx hb hK hP 30 rfl (k := 0) (by rw [hc10]; decide) rfl dX7_read_61 ?_
        refine va_get (D := D) (ci := 5) (v := .ref (n0 0)) (C := RX5) (T := TX5) (N := 3) hx hb hu inX5 hown hK.1 hP 31 rfl rfl 2 (by decide) (hu _ q291) (fun _ h9 => h9) rfl dX7_read_62 ?_
        refine lv_iload_n hx hb dX7_read_65 rfl (lv_at hl 2 rfl) ?_
        obtain ⟨hi12, hf⟩ := ck_el hf
        refine va_lald hx hb hK.1 hP 32 1 rfl rfl hi12 dX7_read_66 ?_
        refine lv_aload_n hx hb dX7_read_67 rfl (lv_at hl 0 rfl) ?_
        refine va_get (D := D) (ci := 7) (v := .ref (h 0)) (C := RX7) (T := TX7) (N := 8) hx hb hu inX7 hown hK.1 hP 0 rfl rfl 3 (by decide) (hu _ q303) (fun _ h9 => h9) rfl dX7_read_68 ?_
        refine va_get (D := D) (ci := 0) (v := .ref (u 0)) (C := RX0) (T := TX0) (N := 8) hx hb hu inX0 hown hK.1 hP 21 rfl rfl 1 (by decide) (hu _ q224) (fun _ h9 => h9) rfl dX7_read_71 ?_
        refine lv_iconst (v := 1) hx hb dX7_read_74 (by decide) ?_
        obtain ⟨r13, Us_14, Sc_15, Tr_16, hg17, hf⟩ := b4_el hf
        refine cc_V (w' := ((kX7 cs x (.ref (g 0)) (.ref (g2 0)) (.ref (g3 0)) (.ref (h 0)) (.ref (t 0)) (.ref (sa 0)) Ma) ++ (kX2 cs g (.ref (b 0)) (.ref (c 0)) (.ref (d 0)) (.ref (a 0)) ) ++ (kX1 cs b  Fo) ++ (kX3 cs c  Sc_15) ++ (kX4 cs a (.ref (b 0)) (.ref (c 0)) (.ref (d 0)) Se) ++ (kX4 cs d (.ref (b 0)) (.ref (c 0)) .null Tr_16) ++ (kX0 cs h (.ref (g 0)) (.ref (u 0)) Ch) ++ (kX4 cs u (.ref (b 0)) (.ref (c 0)) (.ref (d 0)) Us_14) ++ (kSA cs sa (e0 0) (e1 0) (e2 0) (e3 0)) ++ (kX5 cs e0 (.ref (n0 0)) G0) ++ (kJ40 cs n0 N0) ++ (kX5 cs e1 (.ref (n1 0)) G1) ++ (kJ40 cs n1 N1) ++ (kX5 cs e2 (.ref (n2 0)) G2) ++ (kJ40 cs n2 N2) ++ (kX5 cs e3 (.ref (n3 0)) G3) ++ (kJ40 cs n3 N3))) (wr := ((kX7 cs x (.ref (g 0)) (.ref (g2 0)) (.ref (g3 0)) (.ref (h 0)) (.ref (t 0)) (.ref (sa 0)) Ma) ++ (kX2 cs g (.ref (b 0)) (.ref (c 0)) (.ref (d 0)) (.ref (a 0)) ) ++ (kX4 cs a (.ref (b 0)) (.ref (c 0)) (.ref (d 0)) Se) ++ (kX0 cs h (.ref (g 0)) (.ref (u 0)) Ch) ++ (kSA cs sa (e0 0) (e1 0) (e2 0) (e3 0)) ++ (kX5 cs e0 (.ref (n0 0)) G0) ++ (kJ40 cs n0 N0) ++ (kX5 cs e1 (.ref (n1 0)) G1) ++ (kJ40 cs n1 N1) ++ (kX5 cs e2 (.ref (n2 0)) G2) ++ (kJ40 cs n2 N2) ++ (kX5 cs e3 (.ref (n3 0)) G3) ++ (kJ40 cs n3 N3))) (st1 := [.int r13, .long (N0 (Int32.toNatClampNeg y2))]) [.int 1] hx hb hml hown hu (tX4_next l D cs u b c d 1 Us Fo Sc Tr r13 Us_14 Sc_15 Tr_16 hg17) q439 q58 q528 q437 q438 pdX4_next ⟨rfl, rfl, Nat.le_of_ble_eq_true rfl, Nat.le_of_ble_eq_true rfl⟩ hK hZ hP hD hS hA [26, 27, 28, 29, 3, 4, 5, 6, 7, 8, 9, 10, 11, 12, 17, 18, 19, 20] [0, 1, 2, 13, 14, 15, 16, 21, 22, 23, 24, 25, 30, 31, 32, 33, 34, 35, 36, 37, 38] [0, 1, 2, 25, 26, 27, 28, 29, 30, 31, 32, 33, 34, 3, 4, 5, 6, 35, 36, 37, 38, 7, 8, 9, 10, 11, 21, 22, 23, 24, 12, 13, 14, 15, 16, 17, 18, 19, 20] rfl rfl rfl rfl rfl rfl rfl rfl rfl rfl hl.1 rfl (Nat.le_of_ble_eq_true rfl) dX7_read_75 rfl (fun H locs hP hD hS => ?_)
        refine lv_i2l (v := (r13.toInt64)) hx hb dX7_read_78 rfl ?_
        refine W.lcmp hx hb dX7_read_79 ?_
        refine lv_if_eq (tgt := 87) hx hb dX7_read_80 (by decide) (fun hc18 => ?_) (fun hc18 => ?_)
        · have hf := ip_el hc18 hf
          obtain ⟨v19, hv19, hf⟩ := lt_el hf
          refine lv_iinc (v := v19) (lv' := [(2, .int v19), (0, .ref (x 0)), (1, .int y1)]) hx hb dX7_read_87 hl (k := 2) rfl (by rw [hv19]; rfl) (by decide) rfl (fun ls hl => ?_)
          refine lv_goto (tgt := 43) hx hb dX7_read_90 (by decide) ?_
          exact hk43 y1 v19 Ma Sc_15 Tr_16 Us_14 _ _ _ hP hD hS (lv_sub hl [1, 2, 0] rfl) hf
        · have hf := in_el hc18 hf
          refine lv_iconst (v := 1) hx hb dX7_read_83 (by decide) ?_
          refine lv_iload_n hx hb dX7_read_84 rfl (lv_at hl 2 rfl) ?_
          refine lv_iadd hx hb dX7_read_85 ?_
          have he := Option.some.inj hf
          obtain ⟨e0, ht0⟩ := Prod.mk.inj he
          obtain ⟨e1, ht1⟩ := Prod.mk.inj ht0
          obtain ⟨e2, ht2⟩ := Prod.mk.inj ht1
          obtain ⟨e3, e4⟩ := Prod.mk.inj ht2
          exact hri _ _ _ rfl (congrArg (fun z => some (Value.int z)) e0.symm) dX7_read_86 _ _ _ (by rw [e1, e2, e3, e4]) hP hD hS
    have hf := in_el hc10 hf
    by_cases hc20 : y1 = 1
    · have hf := ip_el hc20 hf
      refine sa_lit (e := e1 0) hx hb hK hP 30 rfl (k := 1) (by rw [hc20]; decide) rfl dX7_read_49 ?_
      refine va_get (D := D) (ci := 5) (v := .int (G1 0 1)) (C := RX5) (T := TX5) (N := 3) hx hb hu inX5 hown hK.1 hP 33 rfl rfl 1 (by decide) (hu _ q289) (fun _ h9 => h9) rfl dX7_read_50 ?_
      refine lv_icmp_ge (tgt := 93) hx hb dX7_read_53 (by decide) (fun hc21 => ?_) (fun hc21 => ?_)
      · have hf := ip_el hc21 hf
        refine lv_iconst (v := 0) hx hb dX7_read_93 (by decide) ?_
        have he := Option.some.inj hf
        obtain ⟨e0, ht0⟩ := Prod.mk.inj he
        obtain ⟨e1, ht1⟩ := Prod.mk.inj ht0
        obtain ⟨e2, ht2⟩ := Prod.mk.inj ht1
        obtain ⟨e3, e4⟩ := Prod.mk.inj ht2
        exact hri _ _ _ rfl (congrArg (fun z => some (Value.int z)) e0.symm) dX7_read_94 _ _ _ (by rw [e1, e2, e3, e4]) hP hD hS
      · have hf := in_el hc21 hf
        refine lv_aload_n hx hb dX7_read_56 rfl (lv_at hl 0 rfl) ?_
        refine va_get (D := D) (ci := 7) (v := .ref (sa 0)) (C := RX7) (T := TX7) (N := 8) hx hb hu inX7 hown hK.1 hP 0 rfl rfl 5 (by decide) (hu _ q305) (fun _ h9 => h9) rfl dX7_read_57 ?_
        refine lv_iload_n hx hb dX7_read_60 rfl (lv_at hl 1 rfl) ?_
        refine sa_lit (e := e1 0) hx hb hK hP 30 rfl (k := 1) (by rw [hc20]; decide) rfl dX7_read_61 ?_
        refine va_get (D := D) (ci := 5) (v := .ref (n1 0)) (C := RX5) (T := TX5) (N := 3) hx hb hu inX5 hown hK.1 hP 33 rfl rfl 2 (by decide) (hu _ q291) (fun _ h9 => h9) rfl dX7_read_62 ?_
        refine lv_iload_n hx hb dX7_read_65 rfl (lv_at hl 2 rfl) ?_
        obtain ⟨hi22, hf⟩ := ck_el hf
        refine va_lald hx hb hK.1 hP 34 1 rfl rfl hi22 dX7_read_66 ?_
        refine lv_aload_n hx hb dX7_read_67 rfl (lv_at hl 0 rfl) ?_
        refine va_get (D := D) (ci := 7) (v := .ref (h 0)) (C := RX7) (T := TX7) (N := 8) hx hb hu inX7 hown hK.1 hP 0 rfl rfl 3 (by decide) (hu _ q303) (fun _ h9 => h9) rfl dX7_read_68 ?_
        refine va_get (D := D) (ci := 0) (v := .ref (u 0)) (C := RX0) (T := TX0) (N := 8) hx hb hu inX0 hown hK.1 hP 21 rfl rfl 1 (by decide) (hu _ q224) (fun _ h9 => h9) rfl dX7_read_71 ?_
        refine lv_iconst (v := 1) hx hb dX7_read_74 (by decide) ?_
        obtain ⟨r23, Us_24, Sc_25, Tr_26, hg27, hf⟩ := b4_el hf
        refine cc_V (w' := ((kX7 cs x (.ref (g 0)) (.ref (g2 0)) (.ref (g3 0)) (.ref (h 0)) (.ref (t 0)) (.ref (sa 0)) Ma) ++ (kX2 cs g (.ref (b 0)) (.ref (c 0)) (.ref (d 0)) (.ref (a 0)) ) ++ (kX1 cs b  Fo) ++ (kX3 cs c  Sc_25) ++ (kX4 cs a (.ref (b 0)) (.ref (c 0)) (.ref (d 0)) Se) ++ (kX4 cs d (.ref (b 0)) (.ref (c 0)) .null Tr_26) ++ (kX0 cs h (.ref (g 0)) (.ref (u 0)) Ch) ++ (kX4 cs u (.ref (b 0)) (.ref (c 0)) (.ref (d 0)) Us_24) ++ (kSA cs sa (e0 0) (e1 0) (e2 0) (e3 0)) ++ (kX5 cs e0 (.ref (n0 0)) G0) ++ (kJ40 cs n0 N0) ++ (kX5 cs e1 (.ref (n1 0)) G1) ++ (kJ40 cs n1 N1) ++ (kX5 cs e2 (.ref (n2 0)) G2) ++ (kJ40 cs n2 N2) ++ (kX5 cs e3 (.ref (n3 0)) G3) ++ (kJ40 cs n3 N3))) (wr := ((kX7 cs x (.ref (g 0)) (.ref (g2 0)) (.ref (g3 0)) (.ref (h 0)) (.ref (t 0)) (.ref (sa 0)) Ma) ++ (kX2 cs g (.ref (b 0)) (.ref (c 0)) (.ref (d 0)) (.ref (a 0)) ) ++ (kX4 cs a (.ref (b 0)) (.ref (c 0)) (.ref (d 0)) Se) ++ (kX0 cs h (.ref (g 0)) (.ref (u 0)) Ch) ++ (kSA cs sa (e0 0) (e1 0) (e2 0) (e3 0)) ++ (kX5 cs e0 (.ref (n0 0)) G0) ++ (kJ40 cs n0 N0) ++ (kX5 cs e1 (.ref (n1 0)) G1) ++ (kJ40 cs n1 N1) ++ (kX5 cs e2 (.ref (n2 0)) G2) ++ (kJ40 cs n2 N2) ++ (kX5 cs e3 (.ref (n3 0)) G3) ++ (kJ40 cs n3 N3))) (st1 := [.int r23, .long (N1 (Int32.toNatClampNeg y2))]) [.int 1] hx hb hml hown hu (tX4_next l D cs u b c d 1 Us Fo Sc Tr r23 Us_24 Sc_25 Tr_26 hg27) q439 q58 q528 q437 q438 pdX4_next ⟨rfl, rfl, Nat.le_of_ble_eq_true rfl, Nat.le_of_ble_eq_true rfl⟩ hK hZ hP hD hS hA [26, 27, 28, 29, 3, 4, 5, 6, 7, 8, 9, 10, 11, 12, 17, 18, 19, 20] [0, 1, 2, 13, 14, 15, 16, 21, 22, 23, 24, 25, 30, 31, 32, 33, 34, 35, 36, 37, 38] [0, 1, 2, 25, 26, 27, 28, 29, 30, 31, 32, 33, 34, 3, 4, 5, 6, 35, 36, 37, 38, 7, 8, 9, 10, 11, 21, 22, 23, 24, 12, 13, 14, 15, 16, 17, 18, 19, 20] rfl rfl rfl rfl rfl rfl rfl rfl rfl rfl hl.1 rfl (Nat.le_of_ble_eq_true rfl) dX7_read_75 rfl (fun H locs hP hD hS => ?_)
        refine lv_i2l (v := (r23.toInt64)) hx hb dX7_read_78 rfl ?_
        refine W.lcmp hx hb dX7_read_79 ?_
        refine lv_if_eq (tgt := 87) hx hb dX7_read_80 (by decide) (fun hc28 => ?_) (fun hc28 => ?_)
        · have hf := ip_el hc28 hf
          obtain ⟨v29, hv29, hf⟩ := lt_el hf
          refine lv_iinc (v := v29) (lv' := [(2, .int v29), (0, .ref (x 0)), (1, .int y1)]) hx hb dX7_read_87 hl (k := 2) rfl (by rw [hv29]; rfl) (by decide) rfl (fun ls hl => ?_)
          refine lv_goto (tgt := 43) hx hb dX7_read_90 (by decide) ?_
          exact hk43 y1 v29 Ma Sc_25 Tr_26 Us_24 _ _ _ hP hD hS (lv_sub hl [1, 2, 0] rfl) hf
        · have hf := in_el hc28 hf
          refine lv_iconst (v := 1) hx hb dX7_read_83 (by decide) ?_
          refine lv_iload_n hx hb dX7_read_84 rfl (lv_at hl 2 rfl) ?_
          refine lv_iadd hx hb dX7_read_85 ?_
          have he := Option.some.inj hf
          obtain ⟨e0, ht0⟩ := Prod.mk.inj he
          obtain ⟨e1, ht1⟩ := Prod.mk.inj ht0
          obtain ⟨e2, ht2⟩ := Prod.mk.inj ht1
          obtain ⟨e3, e4⟩ := Prod.mk.inj ht2
          exact hri _ _ _ rfl (congrArg (fun z => some (Value.int z)) e0.symm) dX7_read_86 _ _ _ (by rw [e1, e2, e3, e4]) hP hD hS
    have hf := in_el hc20 hf
    by_cases hc30 : y1 = 2
    · have hf := ip_el hc30 hf
      refine sa_lit (e := e2 0) hx hb hK hP 30 rfl (k := 2) (by rw [hc30]; decide) rfl dX7_read_49 ?_
      refine va_get (D := D) (ci := 5) (v := .int (G2 0 1)) (C := RX5) (T := TX5) (N := 3) hx hb hu inX5 hown hK.1 hP 35 rfl rfl 1 (by decide) (hu _ q289) (fun _ h9 => h9) rfl dX7_read_50 ?_
      refine lv_icmp_ge (tgt := 93) hx hb dX7_read_53 (by decide) (fun hc31 => ?_) (fun hc31 => ?_)
      · have hf := ip_el hc31 hf
        refine lv_iconst (v := 0) hx hb dX7_read_93 (by decide) ?_
        have he := Option.some.inj hf
        obtain ⟨e0, ht0⟩ := Prod.mk.inj he
        obtain ⟨e1, ht1⟩ := Prod.mk.inj ht0
        obtain ⟨e2, ht2⟩ := Prod.mk.inj ht1
        obtain ⟨e3, e4⟩ := Prod.mk.inj ht2
        exact hri _ _ _ rfl (congrArg (fun z => some (Value.int z)) e0.symm) dX7_read_94 _ _ _ (by rw [e1, e2, e3, e4]) hP hD hS
      · have hf := in_el hc31 hf
        refine lv_aload_n hx hb dX7_read_56 rfl (lv_at hl 0 rfl) ?_
        refine va_get (D := D) (ci := 7) (v := .ref (sa 0)) (C := RX7) (T := TX7) (N := 8) hx hb hu inX7 hown hK.1 hP 0 rfl rfl 5 (by decide) (hu _ q305) (fun _ h9 => h9) rfl dX7_read_57 ?_
        refine lv_iload_n hx hb dX7_read_60 rfl (lv_at hl 1 rfl) ?_
        refine sa_lit (e := e2 0) hx hb hK hP 30 rfl (k := 2) (by rw [hc30]; decide) rfl dX7_read_61 ?_
        refine va_get (D := D) (ci := 5) (v := .ref (n2 0)) (C := RX5) (T := TX5) (N := 3) hx hb hu inX5 hown hK.1 hP 35 rfl rfl 2 (by decide) (hu _ q291) (fun _ h9 => h9) rfl dX7_read_62 ?_
        refine lv_iload_n hx hb dX7_read_65 rfl (lv_at hl 2 rfl) ?_
        obtain ⟨hi32, hf⟩ := ck_el hf
        refine va_lald hx hb hK.1 hP 36 1 rfl rfl hi32 dX7_read_66 ?_
        refine lv_aload_n hx hb dX7_read_67 rfl (lv_at hl 0 rfl) ?_
        refine va_get (D := D) (ci := 7) (v := .ref (h 0)) (C := RX7) (T := TX7) (N := 8) hx hb hu inX7 hown hK.1 hP 0 rfl rfl 3 (by decide) (hu _ q303) (fun _ h9 => h9) rfl dX7_read_68 ?_
        refine va_get (D := D) (ci := 0) (v := .ref (u 0)) (C := RX0) (T := TX0) (N := 8) hx hb hu inX0 hown hK.1 hP 21 rfl rfl 1 (by decide) (hu _ q224) (fun _ h9 => h9) rfl dX7_read_71 ?_
        refine lv_iconst (v := 1) hx hb dX7_read_74 (by decide) ?_
        obtain ⟨r33, Us_34, Sc_35, Tr_36, hg37, hf⟩ := b4_el hf
        refine cc_V (w' := ((kX7 cs x (.ref (g 0)) (.ref (g2 0)) (.ref (g3 0)) (.ref (h 0)) (.ref (t 0)) (.ref (sa 0)) Ma) ++ (kX2 cs g (.ref (b 0)) (.ref (c 0)) (.ref (d 0)) (.ref (a 0)) ) ++ (kX1 cs b  Fo) ++ (kX3 cs c  Sc_35) ++ (kX4 cs a (.ref (b 0)) (.ref (c 0)) (.ref (d 0)) Se) ++ (kX4 cs d (.ref (b 0)) (.ref (c 0)) .null Tr_36) ++ (kX0 cs h (.ref (g 0)) (.ref (u 0)) Ch) ++ (kX4 cs u (.ref (b 0)) (.ref (c 0)) (.ref (d 0)) Us_34) ++ (kSA cs sa (e0 0) (e1 0) (e2 0) (e3 0)) ++ (kX5 cs e0 (.ref (n0 0)) G0) ++ (kJ40 cs n0 N0) ++ (kX5 cs e1 (.ref (n1 0)) G1) ++ (kJ40 cs n1 N1) ++ (kX5 cs e2 (.ref (n2 0)) G2) ++ (kJ40 cs n2 N2) ++ (kX5 cs e3 (.ref (n3 0)) G3) ++ (kJ40 cs n3 N3))) (wr := ((kX7 cs x (.ref (g 0)) (.ref (g2 0)) (.ref (g3 0)) (.ref (h 0)) (.ref (t 0)) (.ref (sa 0)) Ma) ++ (kX2 cs g (.ref (b 0)) (.ref (c 0)) (.ref (d 0)) (.ref (a 0)) ) ++ (kX4 cs a (.ref (b 0)) (.ref (c 0)) (.ref (d 0)) Se) ++ (kX0 cs h (.ref (g 0)) (.ref (u 0)) Ch) ++ (kSA cs sa (e0 0) (e1 0) (e2 0) (e3 0)) ++ (kX5 cs e0 (.ref (n0 0)) G0) ++ (kJ40 cs n0 N0) ++ (kX5 cs e1 (.ref (n1 0)) G1) ++ (kJ40 cs n1 N1) ++ (kX5 cs e2 (.ref (n2 0)) G2) ++ (kJ40 cs n2 N2) ++ (kX5 cs e3 (.ref (n3 0)) G3) ++ (kJ40 cs n3 N3))) (st1 := [.int r33, .long (N2 (Int32.toNatClampNeg y2))]) [.int 1] hx hb hml hown hu (tX4_next l D cs u b c d 1 Us Fo Sc Tr r33 Us_34 Sc_35 Tr_36 hg37) q439 q58 q528 q437 q438 pdX4_next ⟨rfl, rfl, Nat.le_of_ble_eq_true rfl, Nat.le_of_ble_eq_true rfl⟩ hK hZ hP hD hS hA [26, 27, 28, 29, 3, 4, 5, 6, 7, 8, 9, 10, 11, 12, 17, 18, 19, 20] [0, 1, 2, 13, 14, 15, 16, 21, 22, 23, 24, 25, 30, 31, 32, 33, 34, 35, 36, 37, 38] [0, 1, 2, 25, 26, 27, 28, 29, 30, 31, 32, 33, 34, 3, 4, 5, 6, 35, 36, 37, 38, 7, 8, 9, 10, 11, 21, 22, 23, 24, 12, 13, 14, 15, 16, 17, 18, 19, 20] rfl rfl rfl rfl rfl rfl rfl rfl rfl rfl hl.1 rfl (Nat.le_of_ble_eq_true rfl) dX7_read_75 rfl (fun H locs hP hD hS => ?_)
        refine lv_i2l (v := (r33.toInt64)) hx hb dX7_read_78 rfl ?_
        refine W.lcmp hx hb dX7_read_79 ?_
        refine lv_if_eq (tgt := 87) hx hb dX7_read_80 (by decide) (fun hc38 => ?_) (fun hc38 => ?_)
        · have hf := ip_el hc38 hf
          obtain ⟨v39, hv39, hf⟩ := lt_el hf
          refine lv_iinc (v := v39) (lv' := [(2, .int v39), (0, .ref (x 0)), (1, .int y1)]) hx hb dX7_read_87 hl (k := 2) rfl (by rw [hv39]; rfl) (by decide) rfl (fun ls hl => ?_)
          refine lv_goto (tgt := 43) hx hb dX7_read_90 (by decide) ?_
          exact hk43 y1 v39 Ma Sc_35 Tr_36 Us_34 _ _ _ hP hD hS (lv_sub hl [1, 2, 0] rfl) hf
        · have hf := in_el hc38 hf
          refine lv_iconst (v := 1) hx hb dX7_read_83 (by decide) ?_
          refine lv_iload_n hx hb dX7_read_84 rfl (lv_at hl 2 rfl) ?_
          refine lv_iadd hx hb dX7_read_85 ?_
          have he := Option.some.inj hf
          obtain ⟨e0, ht0⟩ := Prod.mk.inj he
          obtain ⟨e1, ht1⟩ := Prod.mk.inj ht0
          obtain ⟨e2, ht2⟩ := Prod.mk.inj ht1
          obtain ⟨e3, e4⟩ := Prod.mk.inj ht2
          exact hri _ _ _ rfl (congrArg (fun z => some (Value.int z)) e0.symm) dX7_read_86 _ _ _ (by rw [e1, e2, e3, e4]) hP hD hS
    have hf := in_el hc30 hf
    by_cases hc40 : y1 = 3
    · have hf := ip_el hc40 hf
      refine sa_lit (e := e3 0) hx hb hK hP 30 rfl (k := 3) (by rw [hc40]; decide) rfl dX7_read_49 ?_
      refine va_get (D := D) (ci := 5) (v := .int (G3 0 1)) (C := RX5) (T := TX5) (N := 3) hx hb hu inX5 hown hK.1 hP 37 rfl rfl 1 (by decide) (hu _ q289) (fun _ h9 => h9) rfl dX7_read_50 ?_
      refine lv_icmp_ge (tgt := 93) hx hb dX7_read_53 (by decide) (fun hc41 => ?_) (fun hc41 => ?_)
      · have hf := ip_el hc41 hf
        refine lv_iconst (v := 0) hx hb dX7_read_93 (by decide) ?_
        have he := Option.some.inj hf
        obtain ⟨e0, ht0⟩ := Prod.mk.inj he
        obtain ⟨e1, ht1⟩ := Prod.mk.inj ht0
        obtain ⟨e2, ht2⟩ := Prod.mk.inj ht1
        obtain ⟨e3, e4⟩ := Prod.mk.inj ht2
        exact hri _ _ _ rfl (congrArg (fun z => some (Value.int z)) e0.symm) dX7_read_94 _ _ _ (by rw [e1, e2, e3, e4]) hP hD hS
      · have hf := in_el hc41 hf
        refine lv_aload_n hx hb dX7_read_56 rfl (lv_at hl 0 rfl) ?_
        refine va_get (D := D) (ci := 7) (v := .ref (sa 0)) (C := RX7) (T := TX7) (N := 8) hx hb hu inX7 hown hK.1 hP 0 rfl rfl 5 (by decide) (hu _ q305) (fun _ h9 => h9) rfl dX7_read_57 ?_
        refine lv_iload_n hx hb dX7_read_60 rfl (lv_at hl 1 rfl) ?_
        refine sa_lit (e := e3 0) hx hb hK hP 30 rfl (k := 3) (by rw [hc40]; decide) rfl dX7_read_61 ?_
        refine va_get (D := D) (ci := 5) (v := .ref (n3 0)) (C := RX5) (T := TX5) (N := 3) hx hb hu inX5 hown hK.1 hP 37 rfl rfl 2 (by decide) (hu _ q291) (fun _ h9 => h9) rfl dX7_read_62 ?_
        refine lv_iload_n hx hb dX7_read_65 rfl (lv_at hl 2 rfl) ?_
        obtain ⟨hi42, hf⟩ := ck_el hf
        refine va_lald hx hb hK.1 hP 38 1 rfl rfl hi42 dX7_read_66 ?_
        refine lv_aload_n hx hb dX7_read_67 rfl (lv_at hl 0 rfl) ?_
        refine va_get (D := D) (ci := 7) (v := .ref (h 0)) (C := RX7) (T := TX7) (N := 8) hx hb hu inX7 hown hK.1 hP 0 rfl rfl 3 (by decide) (hu _ q303) (fun _ h9 => h9) rfl dX7_read_68 ?_
        refine va_get (D := D) (ci := 0) (v := .ref (u 0)) (C := RX0) (T := TX0) (N := 8) hx hb hu inX0 hown hK.1 hP 21 rfl rfl 1 (by decide) (hu _ q224) (fun _ h9 => h9) rfl dX7_read_71 ?_
        refine lv_iconst (v := 1) hx hb dX7_read_74 (by decide) ?_
        obtain ⟨r43, Us_44, Sc_45, Tr_46, hg47, hf⟩ := b4_el hf
        refine cc_V (w' := ((kX7 cs x (.ref (g 0)) (.ref (g2 0)) (.ref (g3 0)) (.ref (h 0)) (.ref (t 0)) (.ref (sa 0)) Ma) ++ (kX2 cs g (.ref (b 0)) (.ref (c 0)) (.ref (d 0)) (.ref (a 0)) ) ++ (kX1 cs b  Fo) ++ (kX3 cs c  Sc_45) ++ (kX4 cs a (.ref (b 0)) (.ref (c 0)) (.ref (d 0)) Se) ++ (kX4 cs d (.ref (b 0)) (.ref (c 0)) .null Tr_46) ++ (kX0 cs h (.ref (g 0)) (.ref (u 0)) Ch) ++ (kX4 cs u (.ref (b 0)) (.ref (c 0)) (.ref (d 0)) Us_44) ++ (kSA cs sa (e0 0) (e1 0) (e2 0) (e3 0)) ++ (kX5 cs e0 (.ref (n0 0)) G0) ++ (kJ40 cs n0 N0) ++ (kX5 cs e1 (.ref (n1 0)) G1) ++ (kJ40 cs n1 N1) ++ (kX5 cs e2 (.ref (n2 0)) G2) ++ (kJ40 cs n2 N2) ++ (kX5 cs e3 (.ref (n3 0)) G3) ++ (kJ40 cs n3 N3))) (wr := ((kX7 cs x (.ref (g 0)) (.ref (g2 0)) (.ref (g3 0)) (.ref (h 0)) (.ref (t 0)) (.ref (sa 0)) Ma) ++ (kX2 cs g (.ref (b 0)) (.ref (c 0)) (.ref (d 0)) (.ref (a 0)) ) ++ (kX4 cs a (.ref (b 0)) (.ref (c 0)) (.ref (d 0)) Se) ++ (kX0 cs h (.ref (g 0)) (.ref (u 0)) Ch) ++ (kSA cs sa (e0 0) (e1 0) (e2 0) (e3 0)) ++ (kX5 cs e0 (.ref (n0 0)) G0) ++ (kJ40 cs n0 N0) ++ (kX5 cs e1 (.ref (n1 0)) G1) ++ (kJ40 cs n1 N1) ++ (kX5 cs e2 (.ref (n2 0)) G2) ++ (kJ40 cs n2 N2) ++ (kX5 cs e3 (.ref (n3 0)) G3) ++ (kJ40 cs n3 N3))) (st1 := [.int r43, .long (N3 (Int32.toNatClampNeg y2))]) [.int 1] hx hb hml hown hu (tX4_next l D cs u b c d 1 Us Fo Sc Tr r43 Us_44 Sc_45 Tr_46 hg47) q439 q58 q528 q437 q438 pdX4_next ⟨rfl, rfl, Nat.le_of_ble_eq_true rfl, Nat.le_of_ble_eq_true rfl⟩ hK hZ hP hD hS hA [26, 27, 28, 29, 3, 4, 5, 6, 7, 8, 9, 10, 11, 12, 17, 18, 19, 20] [0, 1, 2, 13, 14, 15, 16, 21, 22, 23, 24, 25, 30, 31, 32, 33, 34, 35, 36, 37, 38] [0, 1, 2, 25, 26, 27, 28, 29, 30, 31, 32, 33, 34, 3, 4, 5, 6, 35, 36, 37, 38, 7, 8, 9, 10, 11, 21, 22, 23, 24, 12, 13, 14, 15, 16, 17, 18, 19, 20] rfl rfl rfl rfl rfl rfl rfl rfl rfl rfl hl.1 rfl (Nat.le_of_ble_eq_true rfl) dX7_read_75 rfl (fun H locs hP hD hS => ?_)
        refine lv_i2l (v := (r43.toInt64)) hx hb dX7_read_78 rfl ?_
        refine W.lcmp hx hb dX7_read_79 ?_
        refine lv_if_eq (tgt := 87) hx hb dX7_read_80 (by decide) (fun hc48 => ?_) (fun hc48 => ?_)
        · have hf := ip_el hc48 hf
          obtain ⟨v49, hv49, hf⟩ := lt_el hf
          refine lv_iinc (v := v49) (lv' := [(2, .int v49), (0, .ref (x 0)), (1, .int y1)]) hx hb dX7_read_87 hl (k := 2) rfl (by rw [hv49]; rfl) (by decide) rfl (fun ls hl => ?_)
          refine lv_goto (tgt := 43) hx hb dX7_read_90 (by decide) ?_
          exact hk43 y1 v49 Ma Sc_45 Tr_46 Us_44 _ _ _ hP hD hS (lv_sub hl [1, 2, 0] rfl) hf
        · have hf := in_el hc48 hf
          refine lv_iconst (v := 1) hx hb dX7_read_83 (by decide) ?_
          refine lv_iload_n hx hb dX7_read_84 rfl (lv_at hl 2 rfl) ?_
          refine lv_iadd hx hb dX7_read_85 ?_
          have he := Option.some.inj hf
          obtain ⟨e0, ht0⟩ := Prod.mk.inj he
          obtain ⟨e1, ht1⟩ := Prod.mk.inj ht0
          obtain ⟨e2, ht2⟩ := Prod.mk.inj ht1
          obtain ⟨e3, e4⟩ := Prod.mk.inj ht2
          exact hri _ _ _ rfl (congrArg (fun z => some (Value.int z)) e0.symm) dX7_read_86 _ _ _ (by rw [e1, e2, e3, e4]) hP hD hS
    have hf := in_el hc40 hf
    exact no_el hf
  have h43 : ∀ (n : Nat), ∀ (y1 : Int32) (y2 : Int32) (Ma : ST) (Sc : ST) (Tr : ST) (Us : ST) (H : Heap) (locs : List Loc) (ls : Array Slot), va_P D vwCl ((kX7 cs x (.ref (g 0)) (.ref (g2 0)) (.ref (g3 0)) (.ref (h 0)) (.ref (t 0)) (.ref (sa 0)) Ma) ++ (kX2 cs g (.ref (b 0)) (.ref (c 0)) (.ref (d 0)) (.ref (a 0)) ) ++ (kX1 cs b  Fo) ++ (kX3 cs c  Sc) ++ (kX4 cs a (.ref (b 0)) (.ref (c 0)) (.ref (d 0)) Se) ++ (kX4 cs d (.ref (b 0)) (.ref (c 0)) .null Tr) ++ (kX0 cs h (.ref (g 0)) (.ref (u 0)) Ch) ++ (kX4 cs u (.ref (b 0)) (.ref (c 0)) (.ref (d 0)) Us) ++ (kSA cs sa (e0 0) (e1 0) (e2 0) (e3 0)) ++ (kX5 cs e0 (.ref (n0 0)) G0) ++ (kJ40 cs n0 N0) ++ (kX5 cs e1 (.ref (n1 0)) G1) ++ (kJ40 cs n1 N1) ++ (kX5 cs e2 (.ref (n2 0)) G2) ++ (kJ40 cs n2 N2) ++ (kX5 cs e3 (.ref (n3 0)) G3) ++ (kJ40 cs n3 N3)) H → va_D A ((kX7 cs x (.ref (g 0)) (.ref (g2 0)) (.ref (g3 0)) (.ref (h 0)) (.ref (t 0)) (.ref (sa 0)) Ma) ++ (kX2 cs g (.ref (b 0)) (.ref (c 0)) (.ref (d 0)) (.ref (a 0)) ) ++ (kX1 cs b  Fo) ++ (kX3 cs c  Sc) ++ (kX4 cs a (.ref (b 0)) (.ref (c 0)) (.ref (d 0)) Se) ++ (kX4 cs d (.ref (b 0)) (.ref (c 0)) .null Tr) ++ (kX0 cs h (.ref (g 0)) (.ref (u 0)) Ch) ++ (kX4 cs u (.ref (b 0)) (.ref (c 0)) (.ref (d 0)) Us) ++ (kSA cs sa (e0 0) (e1 0) (e2 0) (e3 0)) ++ (kX5 cs e0 (.ref (n0 0)) G0) ++ (kJ40 cs n0 N0) ++ (kX5 cs e1 (.ref (n1 0)) G1) ++ (kJ40 cs n1 N1) ++ (kX5 cs e2 (.ref (n2 0)) G2) ++ (kJ40 cs n2 N2) ++ (kX5 cs e3 (.ref (n3 0)) G3) ++ (kJ40 cs n3 N3)) → va_S A s.heap H locs → lv_has ls 3 [(0, .ref (x 0)), (1, .int y1), (2, .int y2)] → fX7_read_43 Fo Se Ch G0 N0 G1 N1 G2 N2 G3 N3 n y1 y2 Ma Sc Tr Us = some (r0, Maz, Scz, Trz, Usz) → W p l e rmX7_read s m [.ref (x 0), .int x1].toArray below meth c H locs 0 0 Q (F0 m 43 ls []) := by
    intro n
    induction n with
    | zero => intro y1 y2 Ma Sc Tr Us H locs ls hP hD hS hl hf; exact no_el hf
    | succ n ih => intro y1 y2 Ma Sc Tr Us H locs ls hP hD hS hl hf; exact hs43 _ ih y1 y2 Ma Sc Tr Us _ _ _ hP hD hS hl hf
  have hl : lv_has ls0 3 [(0, .ref (x 0)), (1, .int x1)] := hl0
  have hP := hP0
  have hD := hD0
  have hS := hS0
  unfold fX7_read at hf
  refine lv_iload_n hx hb dX7_read_0 rfl (lv_at hl 1 rfl) ?_
  obtain ⟨r1, hg2, hf⟩ := b1_el hf
  refine cc_S0 (st1 := [.int r1]) [.int x1] hx hb hml hown hu (tX7_isSheet l D cs x1 r1 hg2) q844 q54 q842 q843 pdX7_isSheet ⟨rfl, rfl, Nat.le_of_ble_eq_true rfl, Nat.le_of_ble_eq_true rfl⟩ hK hZ hP hD hS hA rfl hl.1 rfl (Nat.le_of_ble_eq_true rfl) dX7_read_1 rfl (fun H locs hP hD hS => ?_)
  refine lv_if_ne (tgt := 14) hx hb dX7_read_4 (by decide) (fun hc3 => ?_) (fun hc3 => ?_)
  · have hf := in_el hc3 hf
    refine lv_aload_n hx hb dX7_read_14 rfl (lv_at hl 0 rfl) ?_
    refine va_get (D := D) (ci := 7) (v := .ref (sa 0)) (C := RX7) (T := TX7) (N := 8) hx hb hu inX7 hown hK.1 hP 0 rfl rfl 5 (by decide) (hu _ q305) (fun _ h9 => h9) rfl dX7_read_15 ?_
    refine lv_iload_n hx hb dX7_read_18 rfl (lv_at hl 1 rfl) ?_
    by_cases hc4 : x1 = 0
    · have hf := ip_el hc4 hf
      refine sa_lit (e := e0 0) hx hb hK hP 30 rfl (k := 0) (by rw [hc4]; decide) rfl dX7_read_19 ?_
      obtain ⟨r5, hg6, hf⟩ := b1_el hf
      refine cc_V (w' := ((kX7 cs x (.ref (g 0)) (.ref (g2 0)) (.ref (g3 0)) (.ref (h 0)) (.ref (t 0)) (.ref (sa 0)) Ma) ++ (kX2 cs g (.ref (b 0)) (.ref (c 0)) (.ref (d 0)) (.ref (a 0)) ) ++ (kX1 cs b  Fo) ++ (kX3 cs c  Sc) ++ (kX4 cs a (.ref (b 0)) (.ref (c 0)) (.ref (d 0)) Se) ++ (kX4 cs d (.ref (b 0)) (.ref (c 0)) .null Tr) ++ (kX0 cs h (.ref (g 0)) (.ref (u 0)) Ch) ++ (kX4 cs u (.ref (b 0)) (.ref (c 0)) (.ref (d 0)) Us) ++ (kSA cs sa (e0 0) (e1 0) (e2 0) (e3 0)) ++ (kX5 cs e0 (.ref (n0 0)) G0) ++ (kJ40 cs n0 N0) ++ (kX5 cs e1 (.ref (n1 0)) G1) ++ (kJ40 cs n1 N1) ++ (kX5 cs e2 (.ref (n2 0)) G2) ++ (kJ40 cs n2 N2) ++ (kX5 cs e3 (.ref (n3 0)) G3) ++ (kJ40 cs n3 N3))) (wr := ((kX7 cs x (.ref (g 0)) (.ref (g2 0)) (.ref (g3 0)) (.ref (h 0)) (.ref (t 0)) (.ref (sa 0)) Ma) ++ (kX2 cs g (.ref (b 0)) (.ref (c 0)) (.ref (d 0)) (.ref (a 0)) ) ++ (kX1 cs b  Fo) ++ (kX3 cs c  Sc) ++ (kX4 cs a (.ref (b 0)) (.ref (c 0)) (.ref (d 0)) Se) ++ (kX4 cs d (.ref (b 0)) (.ref (c 0)) .null Tr) ++ (kX0 cs h (.ref (g 0)) (.ref (u 0)) Ch) ++ (kX4 cs u (.ref (b 0)) (.ref (c 0)) (.ref (d 0)) Us) ++ (kSA cs sa (e0 0) (e1 0) (e2 0) (e3 0)) ++ (kJ40 cs n0 N0) ++ (kX5 cs e1 (.ref (n1 0)) G1) ++ (kJ40 cs n1 N1) ++ (kX5 cs e2 (.ref (n2 0)) G2) ++ (kJ40 cs n2 N2) ++ (kX5 cs e3 (.ref (n3 0)) G3) ++ (kJ40 cs n3 N3))) (st1 := [.int r5]) [] hx hb hml hown hu (tX5_isMissing l D cs e0 n0 G0 r5 hg6) q860 q61 q857 q858 q859 pdX5_isMissing ⟨rfl, rfl, Nat.le_of_ble_eq_true rfl, Nat.le_of_ble_eq_true rfl⟩ hK hZ hP hD hS hA [31] [0, 1, 2, 3, 4, 5, 6, 7, 8, 9, 10, 11, 12, 13, 14, 15, 16, 17, 18, 19, 20, 21, 22, 23, 24, 25, 26, 27, 28, 29, 30, 32, 33, 34, 35, 36, 37, 38] [0, 1, 2, 3, 4, 5, 6, 7, 8, 9, 10, 11, 12, 13, 14, 15, 16, 17, 18, 19, 20, 21, 22, 23, 24, 25, 26, 27, 28, 29, 30, 38, 31, 32, 33, 34, 35, 36, 37] rfl rfl rfl rfl rfl rfl rfl rfl rfl rfl hl.1 rfl (Nat.le_of_ble_eq_true rfl) dX7_read_20 rfl (fun H locs hP hD hS => ?_)
      refine lv_if_eq (tgt := 34) hx hb dX7_read_23 (by decide) (fun hc7 => ?_) (fun hc7 => ?_)
      · have hf := ip_el hc7 hf
        refine lv_aload_n hx hb dX7_read_34 rfl (lv_at hl 0 rfl) ?_
        refine va_get (D := D) (ci := 7) (v := .ref (h 0)) (C := RX7) (T := TX7) (N := 8) hx hb hu inX7 hown hK.1 hP 0 rfl rfl 3 (by decide) (hu _ q303) (fun _ h9 => h9) rfl dX7_read_35 ?_
        obtain ⟨Us_8, hg9, hf⟩ := b1_el hf
        refine cc_V (w' := ((kX7 cs x (.ref (g 0)) (.ref (g2 0)) (.ref (g3 0)) (.ref (h 0)) (.ref (t 0)) (.ref (sa 0)) Ma) ++ (kX2 cs g (.ref (b 0)) (.ref (c 0)) (.ref (d 0)) (.ref (a 0)) ) ++ (kX1 cs b  Fo) ++ (kX3 cs c  Sc) ++ (kX4 cs a (.ref (b 0)) (.ref (c 0)) (.ref (d 0)) Se) ++ (kX4 cs d (.ref (b 0)) (.ref (c 0)) .null Tr) ++ (kX0 cs h (.ref (g 0)) (.ref (u 0)) Ch) ++ (kX4 cs u (.ref (b 0)) (.ref (c 0)) (.ref (d 0)) Us_8) ++ (kSA cs sa (e0 0) (e1 0) (e2 0) (e3 0)) ++ (kX5 cs e0 (.ref (n0 0)) G0) ++ (kJ40 cs n0 N0) ++ (kX5 cs e1 (.ref (n1 0)) G1) ++ (kJ40 cs n1 N1) ++ (kX5 cs e2 (.ref (n2 0)) G2) ++ (kJ40 cs n2 N2) ++ (kX5 cs e3 (.ref (n3 0)) G3) ++ (kJ40 cs n3 N3))) (wr := ((kX7 cs x (.ref (g 0)) (.ref (g2 0)) (.ref (g3 0)) (.ref (h 0)) (.ref (t 0)) (.ref (sa 0)) Ma) ++ (kX1 cs b  Fo) ++ (kX3 cs c  Sc) ++ (kX4 cs d (.ref (b 0)) (.ref (c 0)) .null Tr) ++ (kSA cs sa (e0 0) (e1 0) (e2 0) (e3 0)) ++ (kX5 cs e0 (.ref (n0 0)) G0) ++ (kJ40 cs n0 N0) ++ (kX5 cs e1 (.ref (n1 0)) G1) ++ (kJ40 cs n1 N1) ++ (kX5 cs e2 (.ref (n2 0)) G2) ++ (kJ40 cs n2 N2) ++ (kX5 cs e3 (.ref (n3 0)) G3) ++ (kJ40 cs n3 N3))) (st1 := []) [] hx hb hml hown hu (tX0_start l D cs h g u b c d a Ch Se Us Us_8 hg9) q570 q59 q567 q568 q569 pdX0_start ⟨rfl, rfl, Nat.le_of_ble_eq_true rfl, Nat.le_of_ble_eq_true rfl⟩ hK hZ hP hD hS hA [21, 22, 23, 24, 25, 2, 13, 14, 15, 16, 26, 27, 28, 29] [0, 1, 3, 4, 5, 6, 7, 8, 9, 10, 11, 12, 17, 18, 19, 20, 30, 31, 32, 33, 34, 35, 36, 37, 38] [0, 1, 30, 2, 3, 4, 5, 6, 7, 8, 9, 10, 11, 31, 32, 33, 34, 12, 13, 14, 15, 25, 26, 27, 28, 29, 35, 36, 37, 38, 16, 17, 18, 19, 20, 21, 22, 23, 24] rfl rfl rfl rfl rfl rfl rfl rfl rfl rfl hl.1 rfl (Nat.le_of_ble_eq_true rfl) dX7_read_38 rfl (fun H locs hP hD hS => ?_)
        refine lv_iconst (v := 0) hx hb dX7_read_41 (by decide) ?_
        refine lv_istore_n (lv' := [(2, .int 0), (0, .ref (x 0)), (1, .int x1)]) hx hb dX7_read_42 rfl hl (by decide) rfl (fun ls hl => ?_)
        exact h43 400 x1 0 Ma Sc Tr Us_8 _ _ _ hP hD hS (lv_sub hl [1, 2, 0] rfl) hf
      · have hf := in_el hc7 hf
        refine lv_aload_n hx hb dX7_read_26 rfl (lv_at hl 0 rfl) ?_
        refine lv_ldcw (v := (-1000000006)) hx hb hown (hu _ q861) dX7_read_27 ?_
        obtain ⟨r50, Ma_51, hg52, hf⟩ := b2_el hf
        refine cc_V (w' := ((kX7 cs x (.ref (g 0)) (.ref (g2 0)) (.ref (g3 0)) (.ref (h 0)) (.ref (t 0)) (.ref (sa 0)) Ma_51) ++ (kX2 cs g (.ref (b 0)) (.ref (c 0)) (.ref (d 0)) (.ref (a 0)) ) ++ (kX1 cs b  Fo) ++ (kX3 cs c  Sc) ++ (kX4 cs a (.ref (b 0)) (.ref (c 0)) (.ref (d 0)) Se) ++ (kX4 cs d (.ref (b 0)) (.ref (c 0)) .null Tr) ++ (kX0 cs h (.ref (g 0)) (.ref (u 0)) Ch) ++ (kX4 cs u (.ref (b 0)) (.ref (c 0)) (.ref (d 0)) Us) ++ (kSA cs sa (e0 0) (e1 0) (e2 0) (e3 0)) ++ (kX5 cs e0 (.ref (n0 0)) G0) ++ (kJ40 cs n0 N0) ++ (kX5 cs e1 (.ref (n1 0)) G1) ++ (kJ40 cs n1 N1) ++ (kX5 cs e2 (.ref (n2 0)) G2) ++ (kJ40 cs n2 N2) ++ (kX5 cs e3 (.ref (n3 0)) G3) ++ (kJ40 cs n3 N3))) (wr := ((kX2 cs g (.ref (b 0)) (.ref (c 0)) (.ref (d 0)) (.ref (a 0)) ) ++ (kX1 cs b  Fo) ++ (kX3 cs c  Sc) ++ (kX4 cs a (.ref (b 0)) (.ref (c 0)) (.ref (d 0)) Se) ++ (kX4 cs d (.ref (b 0)) (.ref (c 0)) .null Tr) ++ (kX0 cs h (.ref (g 0)) (.ref (u 0)) Ch) ++ (kX4 cs u (.ref (b 0)) (.ref (c 0)) (.ref (d 0)) Us) ++ (kSA cs sa (e0 0) (e1 0) (e2 0) (e3 0)) ++ (kX5 cs e0 (.ref (n0 0)) G0) ++ (kJ40 cs n0 N0) ++ (kX5 cs e1 (.ref (n1 0)) G1) ++ (kJ40 cs n1 N1) ++ (kX5 cs e2 (.ref (n2 0)) G2) ++ (kJ40 cs n2 N2) ++ (kX5 cs e3 (.ref (n3 0)) G3) ++ (kJ40 cs n3 N3))) (st1 := [.int r50]) [.int (-1000000006)] hx hb hml hown hu (tX7_finding l D cs x g g2 g3 h t sa (-1000000006) Ma r50 Ma_51 hg52) q339 q54 q336 q338 q0 pdX7_finding ⟨rfl, rfl, Nat.le_of_ble_eq_true rfl, Nat.le_of_ble_eq_true rfl⟩ hK hZ hP hD hS hA [0, 1] [2, 3, 4, 5, 6, 7, 8, 9, 10, 11, 12, 13, 14, 15, 16, 17, 18, 19, 20, 21, 22, 23, 24, 25, 26, 27, 28, 29, 30, 31, 32, 33, 34, 35, 36, 37, 38] [37, 38, 0, 1, 2, 3, 4, 5, 6, 7, 8, 9, 10, 11, 12, 13, 14, 15, 16, 17, 18, 19, 20, 21, 22, 23, 24, 25, 26, 27, 28, 29, 30, 31, 32, 33, 34, 35, 36] rfl rfl rfl rfl rfl rfl rfl rfl rfl rfl hl.1 rfl (Nat.le_of_ble_eq_true rfl) dX7_read_30 rfl (fun H locs hP hD hS => ?_)
        have he := Option.some.inj hf
        obtain ⟨e0, ht0⟩ := Prod.mk.inj he
        obtain ⟨e1, ht1⟩ := Prod.mk.inj ht0
        obtain ⟨e2, ht2⟩ := Prod.mk.inj ht1
        obtain ⟨e3, e4⟩ := Prod.mk.inj ht2
        exact hri _ _ _ rfl (congrArg (fun z => some (Value.int z)) e0.symm) dX7_read_33 _ _ _ (by rw [e1, e2, e3, e4]) hP hD hS
    have hf := in_el hc4 hf
    by_cases hc53 : x1 = 1
    · have hf := ip_el hc53 hf
      refine sa_lit (e := e1 0) hx hb hK hP 30 rfl (k := 1) (by rw [hc53]; decide) rfl dX7_read_19 ?_
      obtain ⟨r54, hg55, hf⟩ := b1_el hf
      refine cc_V (w' := ((kX7 cs x (.ref (g 0)) (.ref (g2 0)) (.ref (g3 0)) (.ref (h 0)) (.ref (t 0)) (.ref (sa 0)) Ma) ++ (kX2 cs g (.ref (b 0)) (.ref (c 0)) (.ref (d 0)) (.ref (a 0)) ) ++ (kX1 cs b  Fo) ++ (kX3 cs c  Sc) ++ (kX4 cs a (.ref (b 0)) (.ref (c 0)) (.ref (d 0)) Se) ++ (kX4 cs d (.ref (b 0)) (.ref (c 0)) .null Tr) ++ (kX0 cs h (.ref (g 0)) (.ref (u 0)) Ch) ++ (kX4 cs u (.ref (b 0)) (.ref (c 0)) (.ref (d 0)) Us) ++ (kSA cs sa (e0 0) (e1 0) (e2 0) (e3 0)) ++ (kX5 cs e0 (.ref (n0 0)) G0) ++ (kJ40 cs n0 N0) ++ (kX5 cs e1 (.ref (n1 0)) G1) ++ (kJ40 cs n1 N1) ++ (kX5 cs e2 (.ref (n2 0)) G2) ++ (kJ40 cs n2 N2) ++ (kX5 cs e3 (.ref (n3 0)) G3) ++ (kJ40 cs n3 N3))) (wr := ((kX7 cs x (.ref (g 0)) (.ref (g2 0)) (.ref (g3 0)) (.ref (h 0)) (.ref (t 0)) (.ref (sa 0)) Ma) ++ (kX2 cs g (.ref (b 0)) (.ref (c 0)) (.ref (d 0)) (.ref (a 0)) ) ++ (kX1 cs b  Fo) ++ (kX3 cs c  Sc) ++ (kX4 cs a (.ref (b 0)) (.ref (c 0)) (.ref (d 0)) Se) ++ (kX4 cs d (.ref (b 0)) (.ref (c 0)) .null Tr) ++ (kX0 cs h (.ref (g 0)) (.ref (u 0)) Ch) ++ (kX4 cs u (.ref (b 0)) (.ref (c 0)) (.ref (d 0)) Us) ++ (kSA cs sa (e0 0) (e1 0) (e2 0) (e3 0)) ++ (kX5 cs e0 (.ref (n0 0)) G0) ++ (kJ40 cs n0 N0) ++ (kJ40 cs n1 N1) ++ (kX5 cs e2 (.ref (n2 0)) G2) ++ (kJ40 cs n2 N2) ++ (kX5 cs e3 (.ref (n3 0)) G3) ++ (kJ40 cs n3 N3))) (st1 := [.int r54]) [] hx hb hml hown hu (tX5_isMissing l D cs e1 n1 G1 r54 hg55) q860 q61 q857 q858 q859 pdX5_isMissing ⟨rfl, rfl, Nat.le_of_ble_eq_true rfl, Nat.le_of_ble_eq_true rfl⟩ hK hZ hP hD hS hA [33] [0, 1, 2, 3, 4, 5, 6, 7, 8, 9, 10, 11, 12, 13, 14, 15, 16, 17, 18, 19, 20, 21, 22, 23, 24, 25, 26, 27, 28, 29, 30, 31, 32, 34, 35, 36, 37, 38] [0, 1, 2, 3, 4, 5, 6, 7, 8, 9, 10, 11, 12, 13, 14, 15, 16, 17, 18, 19, 20, 21, 22, 23, 24, 25, 26, 27, 28, 29, 30, 31, 32, 38, 33, 34, 35, 36, 37] rfl rfl rfl rfl rfl rfl rfl rfl rfl rfl hl.1 rfl (Nat.le_of_ble_eq_true rfl) dX7_read_20 rfl (fun H locs hP hD hS => ?_)
      refine lv_if_eq (tgt := 34) hx hb dX7_read_23 (by decide) (fun hc56 => ?_) (fun hc56 => ?_)
      · have hf := ip_el hc56 hf
        refine lv_aload_n hx hb dX7_read_34 rfl (lv_at hl 0 rfl) ?_
        refine va_get (D := D) (ci := 7) (v := .ref (h 0)) (C := RX7) (T := TX7) (N := 8) hx hb hu inX7 hown hK.1 hP 0 rfl rfl 3 (by decide) (hu _ q303) (fun _ h9 => h9) rfl dX7_read_35 ?_
        obtain ⟨Us_57, hg58, hf⟩ := b1_el hf
        refine cc_V (w' := ((kX7 cs x (.ref (g 0)) (.ref (g2 0)) (.ref (g3 0)) (.ref (h 0)) (.ref (t 0)) (.ref (sa 0)) Ma) ++ (kX2 cs g (.ref (b 0)) (.ref (c 0)) (.ref (d 0)) (.ref (a 0)) ) ++ (kX1 cs b  Fo) ++ (kX3 cs c  Sc) ++ (kX4 cs a (.ref (b 0)) (.ref (c 0)) (.ref (d 0)) Se) ++ (kX4 cs d (.ref (b 0)) (.ref (c 0)) .null Tr) ++ (kX0 cs h (.ref (g 0)) (.ref (u 0)) Ch) ++ (kX4 cs u (.ref (b 0)) (.ref (c 0)) (.ref (d 0)) Us_57) ++ (kSA cs sa (e0 0) (e1 0) (e2 0) (e3 0)) ++ (kX5 cs e0 (.ref (n0 0)) G0) ++ (kJ40 cs n0 N0) ++ (kX5 cs e1 (.ref (n1 0)) G1) ++ (kJ40 cs n1 N1) ++ (kX5 cs e2 (.ref (n2 0)) G2) ++ (kJ40 cs n2 N2) ++ (kX5 cs e3 (.ref (n3 0)) G3) ++ (kJ40 cs n3 N3))) (wr := ((kX7 cs x (.ref (g 0)) (.ref (g2 0)) (.ref (g3 0)) (.ref (h 0)) (.ref (t 0)) (.ref (sa 0)) Ma) ++ (kX1 cs b  Fo) ++ (kX3 cs c  Sc) ++ (kX4 cs d (.ref (b 0)) (.ref (c 0)) .null Tr) ++ (kSA cs sa (e0 0) (e1 0) (e2 0) (e3 0)) ++ (kX5 cs e0 (.ref (n0 0)) G0) ++ (kJ40 cs n0 N0) ++ (kX5 cs e1 (.ref (n1 0)) G1) ++ (kJ40 cs n1 N1) ++ (kX5 cs e2 (.ref (n2 0)) G2) ++ (kJ40 cs n2 N2) ++ (kX5 cs e3 (.ref (n3 0)) G3) ++ (kJ40 cs n3 N3))) (st1 := []) [] hx hb hml hown hu (tX0_start l D cs h g u b c d a Ch Se Us Us_57 hg58) q570 q59 q567 q568 q569 pdX0_start ⟨rfl, rfl, Nat.le_of_ble_eq_true rfl, Nat.le_of_ble_eq_true rfl⟩ hK hZ hP hD hS hA [21, 22, 23, 24, 25, 2, 13, 14, 15, 16, 26, 27, 28, 29] [0, 1, 3, 4, 5, 6, 7, 8, 9, 10, 11, 12, 17, 18, 19, 20, 30, 31, 32, 33, 34, 35, 36, 37, 38] [0, 1, 30, 2, 3, 4, 5, 6, 7, 8, 9, 10, 11, 31, 32, 33, 34, 12, 13, 14, 15, 25, 26, 27, 28, 29, 35, 36, 37, 38, 16, 17, 18, 19, 20, 21, 22, 23, 24] rfl rfl rfl rfl rfl rfl rfl rfl rfl rfl hl.1 rfl (Nat.le_of_ble_eq_true rfl) dX7_read_38 rfl (fun H locs hP hD hS => ?_)
        refine lv_iconst (v := 0) hx hb dX7_read_41 (by decide) ?_
        refine lv_istore_n (lv' := [(2, .int 0), (0, .ref (x 0)), (1, .int x1)]) hx hb dX7_read_42 rfl hl (by decide) rfl (fun ls hl => ?_)
        exact h43 400 x1 0 Ma Sc Tr Us_57 _ _ _ hP hD hS (lv_sub hl [1, 2, 0] rfl) hf
      · have hf := in_el hc56 hf
        refine lv_aload_n hx hb dX7_read_26 rfl (lv_at hl 0 rfl) ?_
        refine lv_ldcw (v := (-1000000006)) hx hb hown (hu _ q861) dX7_read_27 ?_
        obtain ⟨r59, Ma_60, hg61, hf⟩ := b2_el hf
        refine cc_V (w' := ((kX7 cs x (.ref (g 0)) (.ref (g2 0)) (.ref (g3 0)) (.ref (h 0)) (.ref (t 0)) (.ref (sa 0)) Ma_60) ++ (kX2 cs g (.ref (b 0)) (.ref (c 0)) (.ref (d 0)) (.ref (a 0)) ) ++ (kX1 cs b  Fo) ++ (kX3 cs c  Sc) ++ (kX4 cs a (.ref (b 0)) (.ref (c 0)) (.ref (d 0)) Se) ++ (kX4 cs d (.ref (b 0)) (.ref (c 0)) .null Tr) ++ (kX0 cs h (.ref (g 0)) (.ref (u 0)) Ch) ++ (kX4 cs u (.ref (b 0)) (.ref (c 0)) (.ref (d 0)) Us) ++ (kSA cs sa (e0 0) (e1 0) (e2 0) (e3 0)) ++ (kX5 cs e0 (.ref (n0 0)) G0) ++ (kJ40 cs n0 N0) ++ (kX5 cs e1 (.ref (n1 0)) G1) ++ (kJ40 cs n1 N1) ++ (kX5 cs e2 (.ref (n2 0)) G2) ++ (kJ40 cs n2 N2) ++ (kX5 cs e3 (.ref (n3 0)) G3) ++ (kJ40 cs n3 N3))) (wr := ((kX2 cs g (.ref (b 0)) (.ref (c 0)) (.ref (d 0)) (.ref (a 0)) ) ++ (kX1 cs b  Fo) ++ (kX3 cs c  Sc) ++ (kX4 cs a (.ref (b 0)) (.ref (c 0)) (.ref (d 0)) Se) ++ (kX4 cs d (.ref (b 0)) (.ref (c 0)) .null Tr) ++ (kX0 cs h (.ref (g 0)) (.ref (u 0)) Ch) ++ (kX4 cs u (.ref (b 0)) (.ref (c 0)) (.ref (d 0)) Us) ++ (kSA cs sa (e0 0) (e1 0) (e2 0) (e3 0)) ++ (kX5 cs e0 (.ref (n0 0)) G0) ++ (kJ40 cs n0 N0) ++ (kX5 cs e1 (.ref (n1 0)) G1) ++ (kJ40 cs n1 N1) ++ (kX5 cs e2 (.ref (n2 0)) G2) ++ (kJ40 cs n2 N2) ++ (kX5 cs e3 (.ref (n3 0)) G3) ++ (kJ40 cs n3 N3))) (st1 := [.int r59]) [.int (-1000000006)] hx hb hml hown hu (tX7_finding l D cs x g g2 g3 h t sa (-1000000006) Ma r59 Ma_60 hg61) q339 q54 q336 q338 q0 pdX7_finding ⟨rfl, rfl, Nat.le_of_ble_eq_true rfl, Nat.le_of_ble_eq_true rfl⟩ hK hZ hP hD hS hA [0, 1] [2, 3, 4, 5, 6, 7, 8, 9, 10, 11, 12, 13, 14, 15, 16, 17, 18, 19, 20, 21, 22, 23, 24, 25, 26, 27, 28, 29, 30, 31, 32, 33, 34, 35, 36, 37, 38] [37, 38, 0, 1, 2, 3, 4, 5, 6, 7, 8, 9, 10, 11, 12, 13, 14, 15, 16, 17, 18, 19, 20, 21, 22, 23, 24, 25, 26, 27, 28, 29, 30, 31, 32, 33, 34, 35, 36] rfl rfl rfl rfl rfl rfl rfl rfl rfl rfl hl.1 rfl (Nat.le_of_ble_eq_true rfl) dX7_read_30 rfl (fun H locs hP hD hS => ?_)
        have he := Option.some.inj hf
        obtain ⟨e0, ht0⟩ := Prod.mk.inj he
        obtain ⟨e1, ht1⟩ := Prod.mk.inj ht0
        obtain ⟨e2, ht2⟩ := Prod.mk.inj ht1
        obtain ⟨e3, e4⟩ := Prod.mk.inj ht2
        exact hri _ _ _ rfl (congrArg (fun z => some (Value.int z)) e0.symm) dX7_read_33 _ _ _ (by rw [e1, e2, e3, e4]) hP hD hS
    have hf := in_el hc53 hf
    by_cases hc62 : x1 = 2
    · have hf := ip_el hc62 hf
      refine sa_lit (e := e2 0) hx hb hK hP 30 rfl (k := 2) (by rw [hc62]; decide) rfl dX7_read_19 ?_
      obtain ⟨r63, hg64, hf⟩ := b1_el hf
      refine cc_V (w' := ((kX7 cs x (.ref (g 0)) (.ref (g2 0)) (.ref (g3 0)) (.ref (h 0)) (.ref (t 0)) (.ref (sa 0)) Ma) ++ (kX2 cs g (.ref (b 0)) (.ref (c 0)) (.ref (d 0)) (.ref (a 0)) ) ++ (kX1 cs b  Fo) ++ (kX3 cs c  Sc) ++ (kX4 cs a (.ref (b 0)) (.ref (c 0)) (.ref (d 0)) Se) ++ (kX4 cs d (.ref (b 0)) (.ref (c 0)) .null Tr) ++ (kX0 cs h (.ref (g 0)) (.ref (u 0)) Ch) ++ (kX4 cs u (.ref (b 0)) (.ref (c 0)) (.ref (d 0)) Us) ++ (kSA cs sa (e0 0) (e1 0) (e2 0) (e3 0)) ++ (kX5 cs e0 (.ref (n0 0)) G0) ++ (kJ40 cs n0 N0) ++ (kX5 cs e1 (.ref (n1 0)) G1) ++ (kJ40 cs n1 N1) ++ (kX5 cs e2 (.ref (n2 0)) G2) ++ (kJ40 cs n2 N2) ++ (kX5 cs e3 (.ref (n3 0)) G3) ++ (kJ40 cs n3 N3))) (wr := ((kX7 cs x (.ref (g 0)) (.ref (g2 0)) (.ref (g3 0)) (.ref (h 0)) (.ref (t 0)) (.ref (sa 0)) Ma) ++ (kX2 cs g (.ref (b 0)) (.ref (c 0)) (.ref (d 0)) (.ref (a 0)) ) ++ (kX1 cs b  Fo) ++ (kX3 cs c  Sc) ++ (kX4 cs a (.ref (b 0)) (.ref (c 0)) (.ref (d 0)) Se) ++ (kX4 cs d (.ref (b 0)) (.ref (c 0)) .null Tr) ++ (kX0 cs h (.ref (g 0)) (.ref (u 0)) Ch) ++ (kX4 cs u (.ref (b 0)) (.ref (c 0)) (.ref (d 0)) Us) ++ (kSA cs sa (e0 0) (e1 0) (e2 0) (e3 0)) ++ (kX5 cs e0 (.ref (n0 0)) G0) ++ (kJ40 cs n0 N0) ++ (kX5 cs e1 (.ref (n1 0)) G1) ++ (kJ40 cs n1 N1) ++ (kJ40 cs n2 N2) ++ (kX5 cs e3 (.ref (n3 0)) G3) ++ (kJ40 cs n3 N3))) (st1 := [.int r63]) [] hx hb hml hown hu (tX5_isMissing l D cs e2 n2 G2 r63 hg64) q860 q61 q857 q858 q859 pdX5_isMissing ⟨rfl, rfl, Nat.le_of_ble_eq_true rfl, Nat.le_of_ble_eq_true rfl⟩ hK hZ hP hD hS hA [35] [0, 1, 2, 3, 4, 5, 6, 7, 8, 9, 10, 11, 12, 13, 14, 15, 16, 17, 18, 19, 20, 21, 22, 23, 24, 25, 26, 27, 28, 29, 30, 31, 32, 33, 34, 36, 37, 38] [0, 1, 2, 3, 4, 5, 6, 7, 8, 9, 10, 11, 12, 13, 14, 15, 16, 17, 18, 19, 20, 21, 22, 23, 24, 25, 26, 27, 28, 29, 30, 31, 32, 33, 34, 38, 35, 36, 37] rfl rfl rfl rfl rfl rfl rfl rfl rfl rfl hl.1 rfl (Nat.le_of_ble_eq_true rfl) dX7_read_20 rfl (fun H locs hP hD hS => ?_)
      refine lv_if_eq (tgt := 34) hx hb dX7_read_23 (by decide) (fun hc65 => ?_) (fun hc65 => ?_)
      · have hf := ip_el hc65 hf
        refine lv_aload_n hx hb dX7_read_34 rfl (lv_at hl 0 rfl) ?_
        refine va_get (D := D) (ci := 7) (v := .ref (h 0)) (C := RX7) (T := TX7) (N := 8) hx hb hu inX7 hown hK.1 hP 0 rfl rfl 3 (by decide) (hu _ q303) (fun _ h9 => h9) rfl dX7_read_35 ?_
        obtain ⟨Us_66, hg67, hf⟩ := b1_el hf
        refine cc_V (w' := ((kX7 cs x (.ref (g 0)) (.ref (g2 0)) (.ref (g3 0)) (.ref (h 0)) (.ref (t 0)) (.ref (sa 0)) Ma) ++ (kX2 cs g (.ref (b 0)) (.ref (c 0)) (.ref (d 0)) (.ref (a 0)) ) ++ (kX1 cs b  Fo) ++ (kX3 cs c  Sc) ++ (kX4 cs a (.ref (b 0)) (.ref (c 0)) (.ref (d 0)) Se) ++ (kX4 cs d (.ref (b 0)) (.ref (c 0)) .null Tr) ++ (kX0 cs h (.ref (g 0)) (.ref (u 0)) Ch) ++ (kX4 cs u (.ref (b 0)) (.ref (c 0)) (.ref (d 0)) Us_66) ++ (kSA cs sa (e0 0) (e1 0) (e2 0) (e3 0)) ++ (kX5 cs e0 (.ref (n0 0)) G0) ++ (kJ40 cs n0 N0) ++ (kX5 cs e1 (.ref (n1 0)) G1) ++ (kJ40 cs n1 N1) ++ (kX5 cs e2 (.ref (n2 0)) G2) ++ (kJ40 cs n2 N2) ++ (kX5 cs e3 (.ref (n3 0)) G3) ++ (kJ40 cs n3 N3))) (wr := ((kX7 cs x (.ref (g 0)) (.ref (g2 0)) (.ref (g3 0)) (.ref (h 0)) (.ref (t 0)) (.ref (sa 0)) Ma) ++ (kX1 cs b  Fo) ++ (kX3 cs c  Sc) ++ (kX4 cs d (.ref (b 0)) (.ref (c 0)) .null Tr) ++ (kSA cs sa (e0 0) (e1 0) (e2 0) (e3 0)) ++ (kX5 cs e0 (.ref (n0 0)) G0) ++ (kJ40 cs n0 N0) ++ (kX5 cs e1 (.ref (n1 0)) G1) ++ (kJ40 cs n1 N1) ++ (kX5 cs e2 (.ref (n2 0)) G2) ++ (kJ40 cs n2 N2) ++ (kX5 cs e3 (.ref (n3 0)) G3) ++ (kJ40 cs n3 N3))) (st1 := []) [] hx hb hml hown hu (tX0_start l D cs h g u b c d a Ch Se Us Us_66 hg67) q570 q59 q567 q568 q569 pdX0_start ⟨rfl, rfl, Nat.le_of_ble_eq_true rfl, Nat.le_of_ble_eq_true rfl⟩ hK hZ hP hD hS hA [21, 22, 23, 24, 25, 2, 13, 14, 15, 16, 26, 27, 28, 29] [0, 1, 3, 4, 5, 6, 7, 8, 9, 10, 11, 12, 17, 18, 19, 20, 30, 31, 32, 33, 34, 35, 36, 37, 38] [0, 1, 30, 2, 3, 4, 5, 6, 7, 8, 9, 10, 11, 31, 32, 33, 34, 12, 13, 14, 15, 25, 26, 27, 28, 29, 35, 36, 37, 38, 16, 17, 18, 19, 20, 21, 22, 23, 24] rfl rfl rfl rfl rfl rfl rfl rfl rfl rfl hl.1 rfl (Nat.le_of_ble_eq_true rfl) dX7_read_38 rfl (fun H locs hP hD hS => ?_)
        refine lv_iconst (v := 0) hx hb dX7_read_41 (by decide) ?_
        refine lv_istore_n (lv' := [(2, .int 0), (0, .ref (x 0)), (1, .int x1)]) hx hb dX7_read_42 rfl hl (by decide) rfl (fun ls hl => ?_)
        exact h43 400 x1 0 Ma Sc Tr Us_66 _ _ _ hP hD hS (lv_sub hl [1, 2, 0] rfl) hf
      · have hf := in_el hc65 hf
        refine lv_aload_n hx hb dX7_read_26 rfl (lv_at hl 0 rfl) ?_
        refine lv_ldcw (v := (-1000000006)) hx hb hown (hu _ q861) dX7_read_27 ?_
        obtain ⟨r68, Ma_69, hg70, hf⟩ := b2_el hf
        refine cc_V (w' := ((kX7 cs x (.ref (g 0)) (.ref (g2 0)) (.ref (g3 0)) (.ref (h 0)) (.ref (t 0)) (.ref (sa 0)) Ma_69) ++ (kX2 cs g (.ref (b 0)) (.ref (c 0)) (.ref (d 0)) (.ref (a 0)) ) ++ (kX1 cs b  Fo) ++ (kX3 cs c  Sc) ++ (kX4 cs a (.ref (b 0)) (.ref (c 0)) (.ref (d 0)) Se) ++ (kX4 cs d (.ref (b 0)) (.ref (c 0)) .null Tr) ++ (kX0 cs h (.ref (g 0)) (.ref (u 0)) Ch) ++ (kX4 cs u (.ref (b 0)) (.ref (c 0)) (.ref (d 0)) Us) ++ (kSA cs sa (e0 0) (e1 0) (e2 0) (e3 0)) ++ (kX5 cs e0 (.ref (n0 0)) G0) ++ (kJ40 cs n0 N0) ++ (kX5 cs e1 (.ref (n1 0)) G1) ++ (kJ40 cs n1 N1) ++ (kX5 cs e2 (.ref (n2 0)) G2) ++ (kJ40 cs n2 N2) ++ (kX5 cs e3 (.ref (n3 0)) G3) ++ (kJ40 cs n3 N3))) (wr := ((kX2 cs g (.ref (b 0)) (.ref (c 0)) (.ref (d 0)) (.ref (a 0)) ) ++ (kX1 cs b  Fo) ++ (kX3 cs c  Sc) ++ (kX4 cs a (.ref (b 0)) (.ref (c 0)) (.ref (d 0)) Se) ++ (kX4 cs d (.ref (b 0)) (.ref (c 0)) .null Tr) ++ (kX0 cs h (.ref (g 0)) (.ref (u 0)) Ch) ++ (kX4 cs u (.ref (b 0)) (.ref (c 0)) (.ref (d 0)) Us) ++ (kSA cs sa (e0 0) (e1 0) (e2 0) (e3 0)) ++ (kX5 cs e0 (.ref (n0 0)) G0) ++ (kJ40 cs n0 N0) ++ (kX5 cs e1 (.ref (n1 0)) G1) ++ (kJ40 cs n1 N1) ++ (kX5 cs e2 (.ref (n2 0)) G2) ++ (kJ40 cs n2 N2) ++ (kX5 cs e3 (.ref (n3 0)) G3) ++ (kJ40 cs n3 N3))) (st1 := [.int r68]) [.int (-1000000006)] hx hb hml hown hu (tX7_finding l D cs x g g2 g3 h t sa (-1000000006) Ma r68 Ma_69 hg70) q339 q54 q336 q338 q0 pdX7_finding ⟨rfl, rfl, Nat.le_of_ble_eq_true rfl, Nat.le_of_ble_eq_true rfl⟩ hK hZ hP hD hS hA [0, 1] [2, 3, 4, 5, 6, 7, 8, 9, 10, 11, 12, 13, 14, 15, 16, 17, 18, 19, 20, 21, 22, 23, 24, 25, 26, 27, 28, 29, 30, 31, 32, 33, 34, 35, 36, 37, 38] [37, 38, 0, 1, 2, 3, 4, 5, 6, 7, 8, 9, 10, 11, 12, 13, 14, 15, 16, 17, 18, 19, 20, 21, 22, 23, 24, 25, 26, 27, 28, 29, 30, 31, 32, 33, 34, 35, 36] rfl rfl rfl rfl rfl rfl rfl rfl rfl rfl hl.1 rfl (Nat.le_of_ble_eq_true rfl) dX7_read_30 rfl (fun H locs hP hD hS => ?_)
        have he := Option.some.inj hf
        obtain ⟨e0, ht0⟩ := Prod.mk.inj he
        obtain ⟨e1, ht1⟩ := Prod.mk.inj ht0
        obtain ⟨e2, ht2⟩ := Prod.mk.inj ht1
        obtain ⟨e3, e4⟩ := Prod.mk.inj ht2
        exact hri _ _ _ rfl (congrArg (fun z => some (Value.int z)) e0.symm) dX7_read_33 _ _ _ (by rw [e1, e2, e3, e4]) hP hD hS
    have hf := in_el hc62 hf
    by_cases hc71 : x1 = 3
    · have hf := ip_el hc71 hf
      refine sa_lit (e := e3 0) hx hb hK hP 30 rfl (k := 3) (by rw [hc71]; decide) rfl dX7_read_19 ?_
      obtain ⟨r72, hg73, hf⟩ := b1_el hf
      refine cc_V (w' := ((kX7 cs x (.ref (g 0)) (.ref (g2 0)) (.ref (g3 0)) (.ref (h 0)) (.ref (t 0)) (.ref (sa 0)) Ma) ++ (kX2 cs g (.ref (b 0)) (.ref (c 0)) (.ref (d 0)) (.ref (a 0)) ) ++ (kX1 cs b  Fo) ++ (kX3 cs c  Sc) ++ (kX4 cs a (.ref (b 0)) (.ref (c 0)) (.ref (d 0)) Se) ++ (kX4 cs d (.ref (b 0)) (.ref (c 0)) .null Tr) ++ (kX0 cs h (.ref (g 0)) (.ref (u 0)) Ch) ++ (kX4 cs u (.ref (b 0)) (.ref (c 0)) (.ref (d 0)) Us) ++ (kSA cs sa (e0 0) (e1 0) (e2 0) (e3 0)) ++ (kX5 cs e0 (.ref (n0 0)) G0) ++ (kJ40 cs n0 N0) ++ (kX5 cs e1 (.ref (n1 0)) G1) ++ (kJ40 cs n1 N1) ++ (kX5 cs e2 (.ref (n2 0)) G2) ++ (kJ40 cs n2 N2) ++ (kX5 cs e3 (.ref (n3 0)) G3) ++ (kJ40 cs n3 N3))) (wr := ((kX7 cs x (.ref (g 0)) (.ref (g2 0)) (.ref (g3 0)) (.ref (h 0)) (.ref (t 0)) (.ref (sa 0)) Ma) ++ (kX2 cs g (.ref (b 0)) (.ref (c 0)) (.ref (d 0)) (.ref (a 0)) ) ++ (kX1 cs b  Fo) ++ (kX3 cs c  Sc) ++ (kX4 cs a (.ref (b 0)) (.ref (c 0)) (.ref (d 0)) Se) ++ (kX4 cs d (.ref (b 0)) (.ref (c 0)) .null Tr) ++ (kX0 cs h (.ref (g 0)) (.ref (u 0)) Ch) ++ (kX4 cs u (.ref (b 0)) (.ref (c 0)) (.ref (d 0)) Us) ++ (kSA cs sa (e0 0) (e1 0) (e2 0) (e3 0)) ++ (kX5 cs e0 (.ref (n0 0)) G0) ++ (kJ40 cs n0 N0) ++ (kX5 cs e1 (.ref (n1 0)) G1) ++ (kJ40 cs n1 N1) ++ (kX5 cs e2 (.ref (n2 0)) G2) ++ (kJ40 cs n2 N2) ++ (kJ40 cs n3 N3))) (st1 := [.int r72]) [] hx hb hml hown hu (tX5_isMissing l D cs e3 n3 G3 r72 hg73) q860 q61 q857 q858 q859 pdX5_isMissing ⟨rfl, rfl, Nat.le_of_ble_eq_true rfl, Nat.le_of_ble_eq_true rfl⟩ hK hZ hP hD hS hA [37] [0, 1, 2, 3, 4, 5, 6, 7, 8, 9, 10, 11, 12, 13, 14, 15, 16, 17, 18, 19, 20, 21, 22, 23, 24, 25, 26, 27, 28, 29, 30, 31, 32, 33, 34, 35, 36, 38] [0, 1, 2, 3, 4, 5, 6, 7, 8, 9, 10, 11, 12, 13, 14, 15, 16, 17, 18, 19, 20, 21, 22, 23, 24, 25, 26, 27, 28, 29, 30, 31, 32, 33, 34, 35, 36, 38, 37] rfl rfl rfl rfl rfl rfl rfl rfl rfl rfl hl.1 rfl (Nat.le_of_ble_eq_true rfl) dX7_read_20 rfl (fun H locs hP hD hS => ?_)
      refine lv_if_eq (tgt := 34) hx hb dX7_read_23 (by decide) (fun hc74 => ?_) (fun hc74 => ?_)
      · have hf := ip_el hc74 hf
        refine lv_aload_n hx hb dX7_read_34 rfl (lv_at hl 0 rfl) ?_
        refine va_get (D := D) (ci := 7) (v := .ref (h 0)) (C := RX7) (T := TX7) (N := 8) hx hb hu inX7 hown hK.1 hP 0 rfl rfl 3 (by decide) (hu _ q303) (fun _ h9 => h9) rfl dX7_read_35 ?_
        obtain ⟨Us_75, hg76, hf⟩ := b1_el hf
        refine cc_V (w' := ((kX7 cs x (.ref (g 0)) (.ref (g2 0)) (.ref (g3 0)) (.ref (h 0)) (.ref (t 0)) (.ref (sa 0)) Ma) ++ (kX2 cs g (.ref (b 0)) (.ref (c 0)) (.ref (d 0)) (.ref (a 0)) ) ++ (kX1 cs b  Fo) ++ (kX3 cs c  Sc) ++ (kX4 cs a (.ref (b 0)) (.ref (c 0)) (.ref (d 0)) Se) ++ (kX4 cs d (.ref (b 0)) (.ref (c 0)) .null Tr) ++ (kX0 cs h (.ref (g 0)) (.ref (u 0)) Ch) ++ (kX4 cs u (.ref (b 0)) (.ref (c 0)) (.ref (d 0)) Us_75) ++ (kSA cs sa (e0 0) (e1 0) (e2 0) (e3 0)) ++ (kX5 cs e0 (.ref (n0 0)) G0) ++ (kJ40 cs n0 N0) ++ (kX5 cs e1 (.ref (n1 0)) G1) ++ (kJ40 cs n1 N1) ++ (kX5 cs e2 (.ref (n2 0)) G2) ++ (kJ40 cs n2 N2) ++ (kX5 cs e3 (.ref (n3 0)) G3) ++ (kJ40 cs n3 N3))) (wr := ((kX7 cs x (.ref (g 0)) (.ref (g2 0)) (.ref (g3 0)) (.ref (h 0)) (.ref (t 0)) (.ref (sa 0)) Ma) ++ (kX1 cs b  Fo) ++ (kX3 cs c  Sc) ++ (kX4 cs d (.ref (b 0)) (.ref (c 0)) .null Tr) ++ (kSA cs sa (e0 0) (e1 0) (e2 0) (e3 0)) ++ (kX5 cs e0 (.ref (n0 0)) G0) ++ (kJ40 cs n0 N0) ++ (kX5 cs e1 (.ref (n1 0)) G1) ++ (kJ40 cs n1 N1) ++ (kX5 cs e2 (.ref (n2 0)) G2) ++ (kJ40 cs n2 N2) ++ (kX5 cs e3 (.ref (n3 0)) G3) ++ (kJ40 cs n3 N3))) (st1 := []) [] hx hb hml hown hu (tX0_start l D cs h g u b c d a Ch Se Us Us_75 hg76) q570 q59 q567 q568 q569 pdX0_start ⟨rfl, rfl, Nat.le_of_ble_eq_true rfl, Nat.le_of_ble_eq_true rfl⟩ hK hZ hP hD hS hA [21, 22, 23, 24, 25, 2, 13, 14, 15, 16, 26, 27, 28, 29] [0, 1, 3, 4, 5, 6, 7, 8, 9, 10, 11, 12, 17, 18, 19, 20, 30, 31, 32, 33, 34, 35, 36, 37, 38] [0, 1, 30, 2, 3, 4, 5, 6, 7, 8, 9, 10, 11, 31, 32, 33, 34, 12, 13, 14, 15, 25, 26, 27, 28, 29, 35, 36, 37, 38, 16, 17, 18, 19, 20, 21, 22, 23, 24] rfl rfl rfl rfl rfl rfl rfl rfl rfl rfl hl.1 rfl (Nat.le_of_ble_eq_true rfl) dX7_read_38 rfl (fun H locs hP hD hS => ?_)
        refine lv_iconst (v := 0) hx hb dX7_read_41 (by decide) ?_
        refine lv_istore_n (lv' := [(2, .int 0), (0, .ref (x 0)), (1, .int x1)]) hx hb dX7_read_42 rfl hl (by decide) rfl (fun ls hl => ?_)
        exact h43 400 x1 0 Ma Sc Tr Us_75 _ _ _ hP hD hS (lv_sub hl [1, 2, 0] rfl) hf
      · have hf := in_el hc74 hf
        refine lv_aload_n hx hb dX7_read_26 rfl (lv_at hl 0 rfl) ?_
        refine lv_ldcw (v := (-1000000006)) hx hb hown (hu _ q861) dX7_read_27 ?_
        obtain ⟨r77, Ma_78, hg79, hf⟩ := b2_el hf
        refine cc_V (w' := ((kX7 cs x (.ref (g 0)) (.ref (g2 0)) (.ref (g3 0)) (.ref (h 0)) (.ref (t 0)) (.ref (sa 0)) Ma_78) ++ (kX2 cs g (.ref (b 0)) (.ref (c 0)) (.ref (d 0)) (.ref (a 0)) ) ++ (kX1 cs b  Fo) ++ (kX3 cs c  Sc) ++ (kX4 cs a (.ref (b 0)) (.ref (c 0)) (.ref (d 0)) Se) ++ (kX4 cs d (.ref (b 0)) (.ref (c 0)) .null Tr) ++ (kX0 cs h (.ref (g 0)) (.ref (u 0)) Ch) ++ (kX4 cs u (.ref (b 0)) (.ref (c 0)) (.ref (d 0)) Us) ++ (kSA cs sa (e0 0) (e1 0) (e2 0) (e3 0)) ++ (kX5 cs e0 (.ref (n0 0)) G0) ++ (kJ40 cs n0 N0) ++ (kX5 cs e1 (.ref (n1 0)) G1) ++ (kJ40 cs n1 N1) ++ (kX5 cs e2 (.ref (n2 0)) G2) ++ (kJ40 cs n2 N2) ++ (kX5 cs e3 (.ref (n3 0)) G3) ++ (kJ40 cs n3 N3))) (wr := ((kX2 cs g (.ref (b 0)) (.ref (c 0)) (.ref (d 0)) (.ref (a 0)) ) ++ (kX1 cs b  Fo) ++ (kX3 cs c  Sc) ++ (kX4 cs a (.ref (b 0)) (.ref (c 0)) (.ref (d 0)) Se) ++ (kX4 cs d (.ref (b 0)) (.ref (c 0)) .null Tr) ++ (kX0 cs h (.ref (g 0)) (.ref (u 0)) Ch) ++ (kX4 cs u (.ref (b 0)) (.ref (c 0)) (.ref (d 0)) Us) ++ (kSA cs sa (e0 0) (e1 0) (e2 0) (e3 0)) ++ (kX5 cs e0 (.ref (n0 0)) G0) ++ (kJ40 cs n0 N0) ++ (kX5 cs e1 (.ref (n1 0)) G1) ++ (kJ40 cs n1 N1) ++ (kX5 cs e2 (.ref (n2 0)) G2) ++ (kJ40 cs n2 N2) ++ (kX5 cs e3 (.ref (n3 0)) G3) ++ (kJ40 cs n3 N3))) (st1 := [.int r77]) [.int (-1000000006)] hx hb hml hown hu (tX7_finding l D cs x g g2 g3 h t sa (-1000000006) Ma r77 Ma_78 hg79) q339 q54 q336 q338 q0 pdX7_finding ⟨rfl, rfl, Nat.le_of_ble_eq_true rfl, Nat.le_of_ble_eq_true rfl⟩ hK hZ hP hD hS hA [0, 1] [2, 3, 4, 5, 6, 7, 8, 9, 10, 11, 12, 13, 14, 15, 16, 17, 18, 19, 20, 21, 22, 23, 24, 25, 26, 27, 28, 29, 30, 31, 32, 33, 34, 35, 36, 37, 38] [37, 38, 0, 1, 2, 3, 4, 5, 6, 7, 8, 9, 10, 11, 12, 13, 14, 15, 16, 17, 18, 19, 20, 21, 22, 23, 24, 25, 26, 27, 28, 29, 30, 31, 32, 33, 34, 35, 36] rfl rfl rfl rfl rfl rfl rfl rfl rfl rfl hl.1 rfl (Nat.le_of_ble_eq_true rfl) dX7_read_30 rfl (fun H locs hP hD hS => ?_)
        have he := Option.some.inj hf
        obtain ⟨e0, ht0⟩ := Prod.mk.inj he
        obtain ⟨e1, ht1⟩ := Prod.mk.inj ht0
        obtain ⟨e2, ht2⟩ := Prod.mk.inj ht1
        obtain ⟨e3, e4⟩ := Prod.mk.inj ht2
        exact hri _ _ _ rfl (congrArg (fun z => some (Value.int z)) e0.symm) dX7_read_33 _ _ _ (by rw [e1, e2, e3, e4]) hP hD hS
    have hf := in_el hc71 hf
    exact no_el hf
  · have hf := ip_el hc3 hf
    refine lv_aload_n hx hb dX7_read_7 rfl (lv_at hl 0 rfl) ?_
    refine lv_ldc (v := (-1000000001)) hx hb hown (hu _ q335) dX7_read_8 ?_
    obtain ⟨r80, Ma_81, hg82, hf⟩ := b2_el hf
    refine cc_V (w' := ((kX7 cs x (.ref (g 0)) (.ref (g2 0)) (.ref (g3 0)) (.ref (h 0)) (.ref (t 0)) (.ref (sa 0)) Ma_81) ++ (kX2 cs g (.ref (b 0)) (.ref (c 0)) (.ref (d 0)) (.ref (a 0)) ) ++ (kX1 cs b  Fo) ++ (kX3 cs c  Sc) ++ (kX4 cs a (.ref (b 0)) (.ref (c 0)) (.ref (d 0)) Se) ++ (kX4 cs d (.ref (b 0)) (.ref (c 0)) .null Tr) ++ (kX0 cs h (.ref (g 0)) (.ref (u 0)) Ch) ++ (kX4 cs u (.ref (b 0)) (.ref (c 0)) (.ref (d 0)) Us) ++ (kSA cs sa (e0 0) (e1 0) (e2 0) (e3 0)) ++ (kX5 cs e0 (.ref (n0 0)) G0) ++ (kJ40 cs n0 N0) ++ (kX5 cs e1 (.ref (n1 0)) G1) ++ (kJ40 cs n1 N1) ++ (kX5 cs e2 (.ref (n2 0)) G2) ++ (kJ40 cs n2 N2) ++ (kX5 cs e3 (.ref (n3 0)) G3) ++ (kJ40 cs n3 N3))) (wr := ((kX2 cs g (.ref (b 0)) (.ref (c 0)) (.ref (d 0)) (.ref (a 0)) ) ++ (kX1 cs b  Fo) ++ (kX3 cs c  Sc) ++ (kX4 cs a (.ref (b 0)) (.ref (c 0)) (.ref (d 0)) Se) ++ (kX4 cs d (.ref (b 0)) (.ref (c 0)) .null Tr) ++ (kX0 cs h (.ref (g 0)) (.ref (u 0)) Ch) ++ (kX4 cs u (.ref (b 0)) (.ref (c 0)) (.ref (d 0)) Us) ++ (kSA cs sa (e0 0) (e1 0) (e2 0) (e3 0)) ++ (kX5 cs e0 (.ref (n0 0)) G0) ++ (kJ40 cs n0 N0) ++ (kX5 cs e1 (.ref (n1 0)) G1) ++ (kJ40 cs n1 N1) ++ (kX5 cs e2 (.ref (n2 0)) G2) ++ (kJ40 cs n2 N2) ++ (kX5 cs e3 (.ref (n3 0)) G3) ++ (kJ40 cs n3 N3))) (st1 := [.int r80]) [.int (-1000000001)] hx hb hml hown hu (tX7_finding l D cs x g g2 g3 h t sa (-1000000001) Ma r80 Ma_81 hg82) q339 q54 q336 q338 q0 pdX7_finding ⟨rfl, rfl, Nat.le_of_ble_eq_true rfl, Nat.le_of_ble_eq_true rfl⟩ hK hZ hP hD hS hA [0, 1] [2, 3, 4, 5, 6, 7, 8, 9, 10, 11, 12, 13, 14, 15, 16, 17, 18, 19, 20, 21, 22, 23, 24, 25, 26, 27, 28, 29, 30, 31, 32, 33, 34, 35, 36, 37, 38] [37, 38, 0, 1, 2, 3, 4, 5, 6, 7, 8, 9, 10, 11, 12, 13, 14, 15, 16, 17, 18, 19, 20, 21, 22, 23, 24, 25, 26, 27, 28, 29, 30, 31, 32, 33, 34, 35, 36] rfl rfl rfl rfl rfl rfl rfl rfl rfl rfl hl.1 rfl (Nat.le_of_ble_eq_true rfl) dX7_read_10 rfl (fun H locs hP hD hS => ?_)
    have he := Option.some.inj hf
    obtain ⟨e0, ht0⟩ := Prod.mk.inj he
    obtain ⟨e1, ht1⟩ := Prod.mk.inj ht0
    obtain ⟨e2, ht2⟩ := Prod.mk.inj ht1
    obtain ⟨e3, e4⟩ := Prod.mk.inj ht2
    exact hri _ _ _ rfl (congrArg (fun z => some (Value.int z)) e0.symm) dX7_read_13 _ _ _ (by rw [e1, e2, e3, e4]) hP hD hS

def fX7_image (Ma : ST) (Fo : ST) (Sc : ST) (Se : ST) (Fo2 : ST) (Sc2 : ST) (Se2 : ST) : Option (Int32 × ST × ST × ST × ST) :=
  dc_b3 (fX2_takeFrom Fo2 Sc2 Se2 Fo Sc Se) (fun Fo2_1 Sc2_2 Se2_3 => dc_lt (sti Ma 0 7 1) (fun Ma_5 => some (1, Ma_5, Fo2_1, Sc2_2, Se2_3)))
abbrev rmX7_image : Room := { frames := 3, cells := 0, slots := 0, locals := 82 }
set_option maxRecDepth 100000 in
set_option maxHeartbeats 4000000 in
theorem tX7_image (l : Launch) (D : va_G) (cs : Nat → ClassId) (x : Nat → Nat) (g : Nat → Nat) (g2 : Nat → Nat) (g3 : Nat → Nat) (h : Nat → Nat) (t : Nat → Nat) (sa : Nat → Nat) (b : Nat → Nat) (c : Nat → Nat) (d : Nat → Nat) (a : Nat → Nat) (b2 : Nat → Nat) (c2 : Nat → Nat) (d2 : Nat → Nat) (a2 : Nat → Nat) (Ma : ST) (Fo : ST) (Sc : ST) (Se : ST) (Fo2 : ST) (Sc2 : ST) (Se2 : ST) (r0 : Int32) (Maz : ST) (Fo2z : ST) (Sc2z : ST) (Se2z : ST) (hf : fX7_image Ma Fo Sc Se Fo2 Sc2 Se2 = some (r0, Maz, Fo2z, Sc2z, Se2z)) : CG l yX7_image (wsm yX7_image cX7_image 1 (some .int)) rmX7_image D cs [.ref (x 0)] (some (.int r0)) ((kX7 cs x (.ref (g 0)) (.ref (g2 0)) (.ref (g3 0)) (.ref (h 0)) (.ref (t 0)) (.ref (sa 0)) Ma) ++ (kX2 cs g (.ref (b 0)) (.ref (c 0)) (.ref (d 0)) (.ref (a 0)) ) ++ (kX1 cs b  Fo) ++ (kX3 cs c  Sc) ++ (kX4 cs a (.ref (b 0)) (.ref (c 0)) (.ref (d 0)) Se) ++ (kX2 cs g2 (.ref (b2 0)) (.ref (c2 0)) (.ref (d2 0)) (.ref (a2 0)) ) ++ (kX1 cs b2  Fo2) ++ (kX3 cs c2  Sc2) ++ (kX4 cs a2 (.ref (b2 0)) (.ref (c2 0)) (.ref (d2 0)) Se2)) ((kX7 cs x (.ref (g 0)) (.ref (g2 0)) (.ref (g3 0)) (.ref (h 0)) (.ref (t 0)) (.ref (sa 0)) Maz) ++ (kX2 cs g (.ref (b 0)) (.ref (c 0)) (.ref (d 0)) (.ref (a 0)) ) ++ (kX1 cs b  Fo) ++ (kX3 cs c  Sc) ++ (kX4 cs a (.ref (b 0)) (.ref (c 0)) (.ref (d 0)) Se) ++ (kX2 cs g2 (.ref (b2 0)) (.ref (c2 0)) (.ref (d2 0)) (.ref (a2 0)) ) ++ (kX1 cs b2  Fo2z) ++ (kX3 cs c2  Sc2z) ++ (kX4 cs a2 (.ref (b2 0)) (.ref (c2 0)) (.ref (d2 0)) Se2z)) := by
  refine CG.intro (by decide) (Nat.le_of_ble_eq_true rfl) ?_
  intro p e s m below meth c A Q hx hb hml hown hu hK hZ hP0 hD0 hS0 hA hri hrz hrl hrv hra ls0 hl0
  have hl : lv_has ls0 1 [(0, .ref (x 0))] := hl0
  have hP := hP0
  have hD := hD0
  have hS := hS0
  unfold fX7_image at hf
  refine lv_aload_n hx hb dX7_image_0 rfl (lv_at hl 0 rfl) ?_
  refine va_get (D := D) (ci := 7) (v := .ref (g2 0)) (C := RX7) (T := TX7) (N := 8) hx hb hu inX7 hown hK.1 hP 0 rfl rfl 1 (by decide) (hu _ q301) (fun _ h9 => h9) rfl dX7_image_1 ?_
  refine lv_aload_n hx hb dX7_image_4 rfl (lv_at hl 0 rfl) ?_
  refine va_get (D := D) (ci := 7) (v := .ref (g 0)) (C := RX7) (T := TX7) (N := 8) hx hb hu inX7 hown hK.1 hP 0 rfl rfl 0 (by decide) (hu _ q300) (fun _ h9 => h9) rfl dX7_image_5 ?_
  obtain ⟨Fo2_1, Sc2_2, Se2_3, hg4, hf⟩ := b3_el hf
  refine cc_V (w' := ((kX7 cs x (.ref (g 0)) (.ref (g2 0)) (.ref (g3 0)) (.ref (h 0)) (.ref (t 0)) (.ref (sa 0)) Ma) ++ (kX2 cs g (.ref (b 0)) (.ref (c 0)) (.ref (d 0)) (.ref (a 0)) ) ++ (kX1 cs b  Fo) ++ (kX3 cs c  Sc) ++ (kX4 cs a (.ref (b 0)) (.ref (c 0)) (.ref (d 0)) Se) ++ (kX2 cs g2 (.ref (b2 0)) (.ref (c2 0)) (.ref (d2 0)) (.ref (a2 0)) ) ++ (kX1 cs b2  Fo2_1) ++ (kX3 cs c2  Sc2_2) ++ (kX4 cs a2 (.ref (b2 0)) (.ref (c2 0)) (.ref (d2 0)) Se2_3))) (wr := (kX7 cs x (.ref (g 0)) (.ref (g2 0)) (.ref (g3 0)) (.ref (h 0)) (.ref (t 0)) (.ref (sa 0)) Ma)) (st1 := []) [.ref (g 0)] hx hb hml hown hu (tX2_takeFrom l D cs g2 b2 c2 (.ref (d2 0)) a2 (.ref (b2 0)) (.ref (c2 0)) (.ref (d2 0)) g b c (.ref (d 0)) a (.ref (b 0)) (.ref (c 0)) (.ref (d 0)) Fo2 Sc2 Se2 Fo Sc Se Fo2_1 Sc2_2 Se2_3 hg4) q658 q55 q655 q656 q657 pdX2_takeFrom ⟨rfl, rfl, Nat.le_of_ble_eq_true rfl, Nat.le_of_ble_eq_true rfl⟩ hK hZ hP hD hS hA [17, 18, 19, 20, 21, 22, 23, 24, 25, 26, 27, 28, 29, 30, 31, 2, 3, 4, 5, 6, 7, 8, 9, 10, 11, 12, 13, 14, 15, 16] [0, 1] [0, 1, 17, 18, 19, 20, 21, 22, 23, 24, 25, 26, 27, 28, 29, 30, 31, 2, 3, 4, 5, 6, 7, 8, 9, 10, 11, 12, 13, 14, 15, 16] rfl rfl rfl rfl rfl rfl rfl rfl rfl rfl hl.1 rfl (Nat.le_of_ble_eq_true rfl) dX7_image_8 rfl (fun H locs hP hD hS => ?_)
  refine lv_aload_n hx hb dX7_image_11 rfl (lv_at hl 0 rfl) ?_
  refine lv_iconst (v := 1) hx hb dX7_image_12 (by decide) ?_
  obtain ⟨Ma_5, hMa_5, hf⟩ := lt_el hf
  refine va_put (D := D) (ci := 7) (v := .int 1) (ty := .boolean) (C := RX7) (T := TX7) (N := 8) hx hb hu inX7 tyX7 tyX7_ok nmX7 hown hK.1 hP hD hS 0 rfl rfl 7 (by decide) (hu _ q307) (fun _ h9 => h9) rfl (by decide +kernel) rfl rfl (Nat.le_of_ble_eq_true rfl) dX7_image_13 (fun H locs hP hD hS => ?_)
  have hP : va_P D vwCl ((kX7 cs x (.ref (g 0)) (.ref (g2 0)) (.ref (g3 0)) (.ref (h 0)) (.ref (t 0)) (.ref (sa 0)) Ma_5) ++ (kX2 cs g (.ref (b 0)) (.ref (c 0)) (.ref (d 0)) (.ref (a 0)) ) ++ (kX1 cs b  Fo) ++ (kX3 cs c  Sc) ++ (kX4 cs a (.ref (b 0)) (.ref (c 0)) (.ref (d 0)) Se) ++ (kX2 cs g2 (.ref (b2 0)) (.ref (c2 0)) (.ref (d2 0)) (.ref (a2 0)) ) ++ (kX1 cs b2  Fo2_1) ++ (kX3 cs c2  Sc2_2) ++ (kX4 cs a2 (.ref (b2 0)) (.ref (c2 0)) (.ref (d2 0)) Se2_3)) H := by rw [hMa_5]; exact hP
  have hD : va_D A ((kX7 cs x (.ref (g 0)) (.ref (g2 0)) (.ref (g3 0)) (.ref (h 0)) (.ref (t 0)) (.ref (sa 0)) Ma_5) ++ (kX2 cs g (.ref (b 0)) (.ref (c 0)) (.ref (d 0)) (.ref (a 0)) ) ++ (kX1 cs b  Fo) ++ (kX3 cs c  Sc) ++ (kX4 cs a (.ref (b 0)) (.ref (c 0)) (.ref (d 0)) Se) ++ (kX2 cs g2 (.ref (b2 0)) (.ref (c2 0)) (.ref (d2 0)) (.ref (a2 0)) ) ++ (kX1 cs b2  Fo2_1) ++ (kX3 cs c2  Sc2_2) ++ (kX4 cs a2 (.ref (b2 0)) (.ref (c2 0)) (.ref (d2 0)) Se2_3)) := by rw [hMa_5]; exact hD
  refine lv_iconst (v := 1) hx hb dX7_image_16 (by decide) ?_
  have he := Option.some.inj hf
  obtain ⟨e0, ht0⟩ := Prod.mk.inj he
  obtain ⟨e1, ht1⟩ := Prod.mk.inj ht0
  obtain ⟨e2, ht2⟩ := Prod.mk.inj ht1
  obtain ⟨e3, e4⟩ := Prod.mk.inj ht2
  exact hri _ _ _ rfl (congrArg (fun z => some (Value.int z)) e0.symm) dX7_image_17 _ _ _ (by rw [e1, e2, e3, e4]) hP hD hS

def fX7_undo (Ma : ST) (Fo : ST) (Sc : ST) (Se : ST) (Fo2 : ST) (Sc2 : ST) (Se2 : ST) : Option (Int32 × ST × ST × ST × ST) :=
  (if (Ma 0 7) = 0 then dc_b2 (fX7_finding (-1000000004) Ma) (fun r6 Ma_7 => some (r6, Ma_7, Fo, Sc, Se)) else dc_b3 (fX2_takeFrom Fo Sc Se Fo2 Sc2 Se2) (fun Fo_2 Sc_3 Se_4 => some ((Fo_2 0 0), Ma, Fo_2, Sc_3, Se_4)))
abbrev rmX7_undo : Room := { frames := 3, cells := 0, slots := 0, locals := 82 }
set_option maxRecDepth 100000 in
set_option maxHeartbeats 4000000 in
theorem tX7_undo (l : Launch) (D : va_G) (cs : Nat → ClassId) (x : Nat → Nat) (g : Nat → Nat) (g2 : Nat → Nat) (g3 : Nat → Nat) (h : Nat → Nat) (t : Nat → Nat) (sa : Nat → Nat) (b : Nat → Nat) (c : Nat → Nat) (d : Nat → Nat) (a : Nat → Nat) (b2 : Nat → Nat) (c2 : Nat → Nat) (d2 : Nat → Nat) (a2 : Nat → Nat) (Ma : ST) (Fo : ST) (Sc : ST) (Se : ST) (Fo2 : ST) (Sc2 : ST) (Se2 : ST) (r0 : Int32) (Maz : ST) (Foz : ST) (Scz : ST) (Sez : ST) (hf : fX7_undo Ma Fo Sc Se Fo2 Sc2 Se2 = some (r0, Maz, Foz, Scz, Sez)) : CG l yX7_undo (wsm yX7_undo cX7_undo 1 (some .int)) rmX7_undo D cs [.ref (x 0)] (some (.int r0)) ((kX7 cs x (.ref (g 0)) (.ref (g2 0)) (.ref (g3 0)) (.ref (h 0)) (.ref (t 0)) (.ref (sa 0)) Ma) ++ (kX2 cs g (.ref (b 0)) (.ref (c 0)) (.ref (d 0)) (.ref (a 0)) ) ++ (kX1 cs b  Fo) ++ (kX3 cs c  Sc) ++ (kX4 cs a (.ref (b 0)) (.ref (c 0)) (.ref (d 0)) Se) ++ (kX2 cs g2 (.ref (b2 0)) (.ref (c2 0)) (.ref (d2 0)) (.ref (a2 0)) ) ++ (kX1 cs b2  Fo2) ++ (kX3 cs c2  Sc2) ++ (kX4 cs a2 (.ref (b2 0)) (.ref (c2 0)) (.ref (d2 0)) Se2)) ((kX7 cs x (.ref (g 0)) (.ref (g2 0)) (.ref (g3 0)) (.ref (h 0)) (.ref (t 0)) (.ref (sa 0)) Maz) ++ (kX2 cs g (.ref (b 0)) (.ref (c 0)) (.ref (d 0)) (.ref (a 0)) ) ++ (kX1 cs b  Foz) ++ (kX3 cs c  Scz) ++ (kX4 cs a (.ref (b 0)) (.ref (c 0)) (.ref (d 0)) Sez) ++ (kX2 cs g2 (.ref (b2 0)) (.ref (c2 0)) (.ref (d2 0)) (.ref (a2 0)) ) ++ (kX1 cs b2  Fo2) ++ (kX3 cs c2  Sc2) ++ (kX4 cs a2 (.ref (b2 0)) (.ref (c2 0)) (.ref (d2 0)) Se2)) := by
  refine CG.intro (by decide) (Nat.le_of_ble_eq_true rfl) ?_
  intro p e s m below meth c A Q hx hb hml hown hu hK hZ hP0 hD0 hS0 hA hri hrz hrl hrv hra ls0 hl0
  have hl : lv_has ls0 1 [(0, .ref (x 0))] := hl0
  have hP := hP0
  have hD := hD0
  have hS := hS0
  unfold fX7_undo at hf
  refine lv_aload_n hx hb dX7_undo_0 rfl (lv_at hl 0 rfl) ?_
  refine va_get (D := D) (ci := 7) (v := .int (Ma 0 7)) (C := RX7) (T := TX7) (N := 8) hx hb hu inX7 hown hK.1 hP 0 rfl rfl 7 (by decide) (hu _ q307) (fun _ h9 => h9) rfl dX7_undo_1 ?_
  refine lv_if_ne (tgt := 14) hx hb dX7_undo_4 (by decide) (fun hc1 => ?_) (fun hc1 => ?_)
  · have hf := in_el hc1 hf
    refine lv_aload_n hx hb dX7_undo_14 rfl (lv_at hl 0 rfl) ?_
    refine va_get (D := D) (ci := 7) (v := .ref (g 0)) (C := RX7) (T := TX7) (N := 8) hx hb hu inX7 hown hK.1 hP 0 rfl rfl 0 (by decide) (hu _ q300) (fun _ h9 => h9) rfl dX7_undo_15 ?_
    refine lv_aload_n hx hb dX7_undo_18 rfl (lv_at hl 0 rfl) ?_
    refine va_get (D := D) (ci := 7) (v := .ref (g2 0)) (C := RX7) (T := TX7) (N := 8) hx hb hu inX7 hown hK.1 hP 0 rfl rfl 1 (by decide) (hu _ q301) (fun _ h9 => h9) rfl dX7_undo_19 ?_
    obtain ⟨Fo_2, Sc_3, Se_4, hg5, hf⟩ := b3_el hf
    refine cc_V (w' := ((kX7 cs x (.ref (g 0)) (.ref (g2 0)) (.ref (g3 0)) (.ref (h 0)) (.ref (t 0)) (.ref (sa 0)) Ma) ++ (kX2 cs g (.ref (b 0)) (.ref (c 0)) (.ref (d 0)) (.ref (a 0)) ) ++ (kX1 cs b  Fo_2) ++ (kX3 cs c  Sc_3) ++ (kX4 cs a (.ref (b 0)) (.ref (c 0)) (.ref (d 0)) Se_4) ++ (kX2 cs g2 (.ref (b2 0)) (.ref (c2 0)) (.ref (d2 0)) (.ref (a2 0)) ) ++ (kX1 cs b2  Fo2) ++ (kX3 cs c2  Sc2) ++ (kX4 cs a2 (.ref (b2 0)) (.ref (c2 0)) (.ref (d2 0)) Se2))) (wr := (kX7 cs x (.ref (g 0)) (.ref (g2 0)) (.ref (g3 0)) (.ref (h 0)) (.ref (t 0)) (.ref (sa 0)) Ma)) (st1 := []) [.ref (g2 0)] hx hb hml hown hu (tX2_takeFrom l D cs g b c (.ref (d 0)) a (.ref (b 0)) (.ref (c 0)) (.ref (d 0)) g2 b2 c2 (.ref (d2 0)) a2 (.ref (b2 0)) (.ref (c2 0)) (.ref (d2 0)) Fo Sc Se Fo2 Sc2 Se2 Fo_2 Sc_3 Se_4 hg5) q658 q55 q655 q656 q657 pdX2_takeFrom ⟨rfl, rfl, Nat.le_of_ble_eq_true rfl, Nat.le_of_ble_eq_true rfl⟩ hK hZ hP hD hS hA [2, 3, 4, 5, 6, 7, 8, 9, 10, 11, 12, 13, 14, 15, 16, 17, 18, 19, 20, 21, 22, 23, 24, 25, 26, 27, 28, 29, 30, 31] [0, 1] [0, 1, 2, 3, 4, 5, 6, 7, 8, 9, 10, 11, 12, 13, 14, 15, 16, 17, 18, 19, 20, 21, 22, 23, 24, 25, 26, 27, 28, 29, 30, 31] rfl rfl rfl rfl rfl rfl rfl rfl rfl rfl hl.1 rfl (Nat.le_of_ble_eq_true rfl) dX7_undo_22 rfl (fun H locs hP hD hS => ?_)
    refine lv_aload_n hx hb dX7_undo_25 rfl (lv_at hl 0 rfl) ?_
    refine va_get (D := D) (ci := 7) (v := .ref (g 0)) (C := RX7) (T := TX7) (N := 8) hx hb hu inX7 hown hK.1 hP 0 rfl rfl 0 (by decide) (hu _ q300) (fun _ h9 => h9) rfl dX7_undo_26 ?_
    refine va_get (D := D) (ci := 2) (v := .ref (b 0)) (C := RX2) (T := TX2) (N := 4) hx hb hu inX2 hown hK.1 hP 2 rfl rfl 0 (by decide) (hu _ q196) (fun _ h9 => h9) rfl dX7_undo_29 ?_
    refine va_get (D := D) (ci := 1) (v := .int (Fo_2 0 0)) (C := RX1) (T := TX1) (N := 9) hx hb hu inX1 hown hK.1 hP 3 rfl rfl 0 (by decide) (hu _ q93) (fun _ h9 => h9) rfl dX7_undo_32 ?_
    have he := Option.some.inj hf
    obtain ⟨e0, ht0⟩ := Prod.mk.inj he
    obtain ⟨e1, ht1⟩ := Prod.mk.inj ht0
    obtain ⟨e2, ht2⟩ := Prod.mk.inj ht1
    obtain ⟨e3, e4⟩ := Prod.mk.inj ht2
    exact hri _ _ _ rfl (congrArg (fun z => some (Value.int z)) e0.symm) dX7_undo_35 _ _ _ (by rw [e1, e2, e3, e4]) hP hD hS
  · have hf := ip_el hc1 hf
    refine lv_aload_n hx hb dX7_undo_7 rfl (lv_at hl 0 rfl) ?_
    refine lv_ldc (v := (-1000000004)) hx hb hown (hu _ q586) dX7_undo_8 ?_
    obtain ⟨r6, Ma_7, hg8, hf⟩ := b2_el hf
    refine cc_V (w' := ((kX7 cs x (.ref (g 0)) (.ref (g2 0)) (.ref (g3 0)) (.ref (h 0)) (.ref (t 0)) (.ref (sa 0)) Ma_7) ++ (kX2 cs g (.ref (b 0)) (.ref (c 0)) (.ref (d 0)) (.ref (a 0)) ) ++ (kX1 cs b  Fo) ++ (kX3 cs c  Sc) ++ (kX4 cs a (.ref (b 0)) (.ref (c 0)) (.ref (d 0)) Se) ++ (kX2 cs g2 (.ref (b2 0)) (.ref (c2 0)) (.ref (d2 0)) (.ref (a2 0)) ) ++ (kX1 cs b2  Fo2) ++ (kX3 cs c2  Sc2) ++ (kX4 cs a2 (.ref (b2 0)) (.ref (c2 0)) (.ref (d2 0)) Se2))) (wr := ((kX2 cs g (.ref (b 0)) (.ref (c 0)) (.ref (d 0)) (.ref (a 0)) ) ++ (kX1 cs b  Fo) ++ (kX3 cs c  Sc) ++ (kX4 cs a (.ref (b 0)) (.ref (c 0)) (.ref (d 0)) Se) ++ (kX2 cs g2 (.ref (b2 0)) (.ref (c2 0)) (.ref (d2 0)) (.ref (a2 0)) ) ++ (kX1 cs b2  Fo2) ++ (kX3 cs c2  Sc2) ++ (kX4 cs a2 (.ref (b2 0)) (.ref (c2 0)) (.ref (d2 0)) Se2))) (st1 := [.int r6]) [.int (-1000000004)] hx hb hml hown hu (tX7_finding l D cs x g g2 g3 h t sa (-1000000004) Ma r6 Ma_7 hg8) q339 q54 q336 q338 q0 pdX7_finding ⟨rfl, rfl, Nat.le_of_ble_eq_true rfl, Nat.le_of_ble_eq_true rfl⟩ hK hZ hP hD hS hA [0, 1] [2, 3, 4, 5, 6, 7, 8, 9, 10, 11, 12, 13, 14, 15, 16, 17, 18, 19, 20, 21, 22, 23, 24, 25, 26, 27, 28, 29, 30, 31] [30, 31, 0, 1, 2, 3, 4, 5, 6, 7, 8, 9, 10, 11, 12, 13, 14, 15, 16, 17, 18, 19, 20, 21, 22, 23, 24, 25, 26, 27, 28, 29] rfl rfl rfl rfl rfl rfl rfl rfl rfl rfl hl.1 rfl (Nat.le_of_ble_eq_true rfl) dX7_undo_10 rfl (fun H locs hP hD hS => ?_)
    have he := Option.some.inj hf
    obtain ⟨e0, ht0⟩ := Prod.mk.inj he
    obtain ⟨e1, ht1⟩ := Prod.mk.inj ht0
    obtain ⟨e2, ht2⟩ := Prod.mk.inj ht1
    obtain ⟨e3, e4⟩ := Prod.mk.inj ht2
    exact hri _ _ _ rfl (congrArg (fun z => some (Value.int z)) e0.symm) dX7_undo_13 _ _ _ (by rw [e1, e2, e3, e4]) hP hD hS

def fX7_tear (Ma : ST) : Option (Int32 × ST) :=
  (if (Ma 0 7) = 0 then dc_lt (sti Ma 0 7 0) (fun Ma_2 => some (0, Ma_2)) else dc_lt (sti Ma 0 7 0) (fun Ma_3 => some (1, Ma_3)))
abbrev rmX7_tear : Room := { frames := 0, cells := 0, slots := 0, locals := 0 }
set_option maxRecDepth 100000 in
set_option maxHeartbeats 4000000 in
theorem tX7_tear (l : Launch) (D : va_G) (cs : Nat → ClassId) (x : Nat → Nat) (g : Nat → Nat) (g2 : Nat → Nat) (g3 : Nat → Nat) (h : Nat → Nat) (t : Nat → Nat) (sa : Nat → Nat) (Ma : ST) (r0 : Int32) (Maz : ST) (hf : fX7_tear Ma = some (r0, Maz)) : CG l yX7_tear (wsm yX7_tear cX7_tear 2 (some .int)) rmX7_tear D cs [.ref (x 0)] (some (.int r0)) (kX7 cs x (.ref (g 0)) (.ref (g2 0)) (.ref (g3 0)) (.ref (h 0)) (.ref (t 0)) (.ref (sa 0)) Ma) (kX7 cs x (.ref (g 0)) (.ref (g2 0)) (.ref (g3 0)) (.ref (h 0)) (.ref (t 0)) (.ref (sa 0)) Maz) := by
  refine CG.intro (by decide) (Nat.le_of_ble_eq_true rfl) ?_
  intro p e s m below meth c A Q hx hb hml hown hu hK hZ hP0 hD0 hS0 hA hri hrz hrl hrv hra ls0 hl0
  have hl : lv_has ls0 2 [(0, .ref (x 0))] := hl0
  have hP := hP0
  have hD := hD0
  have hS := hS0
  unfold fX7_tear at hf
  refine lv_aload_n hx hb dX7_tear_0 rfl (lv_at hl 0 rfl) ?_
  refine va_get (D := D) (ci := 7) (v := .int (Ma 0 7)) (C := RX7) (T := TX7) (N := 8) hx hb hu inX7 hown hK.1 hP 0 rfl rfl 7 (by decide) (hu _ q307) (fun _ h9 => h9) rfl dX7_tear_1 ?_
  refine lv_if_eq (tgt := 11) hx hb dX7_tear_4 (by decide) (fun hc1 => ?_) (fun hc1 => ?_)
  · have hf := ip_el hc1 hf
    refine lv_iconst (v := 0) hx hb dX7_tear_11 (by decide) ?_
    refine lv_istore_n (lv' := [(1, .int 0), (0, .ref (x 0))]) hx hb dX7_tear_12 rfl hl (by decide) rfl (fun ls hl => ?_)
    refine lv_aload_n hx hb dX7_tear_13 rfl (lv_at hl 1 rfl) ?_
    refine lv_iconst (v := 0) hx hb dX7_tear_14 (by decide) ?_
    obtain ⟨Ma_2, hMa_2, hf⟩ := lt_el hf
    refine va_put (D := D) (ci := 7) (v := .int 0) (ty := .boolean) (C := RX7) (T := TX7) (N := 8) hx hb hu inX7 tyX7 tyX7_ok nmX7 hown hK.1 hP hD hS 0 rfl rfl 7 (by decide) (hu _ q307) (fun _ h9 => h9) rfl (by decide +kernel) rfl rfl (Nat.le_of_ble_eq_true rfl) dX7_tear_15 (fun H locs hP hD hS => ?_)
    have hP : va_P D vwCl (kX7 cs x (.ref (g 0)) (.ref (g2 0)) (.ref (g3 0)) (.ref (h 0)) (.ref (t 0)) (.ref (sa 0)) Ma_2) H := by rw [hMa_2]; exact hP
    have hD : va_D A (kX7 cs x (.ref (g 0)) (.ref (g2 0)) (.ref (g3 0)) (.ref (h 0)) (.ref (t 0)) (.ref (sa 0)) Ma_2) := by rw [hMa_2]; exact hD
    refine lv_iload_n hx hb dX7_tear_18 rfl (lv_at hl 0 rfl) ?_
    have he := Option.some.inj hf
    obtain ⟨e0, e1⟩ := Prod.mk.inj he
    exact hri _ _ _ rfl (congrArg (fun z => some (Value.int z)) e0.symm) dX7_tear_19 _ _ _ (by rw [e1]) hP hD hS
  · have hf := in_el hc1 hf
    refine lv_iconst (v := 1) hx hb dX7_tear_7 (by decide) ?_
    refine lv_goto (tgt := 12) hx hb dX7_tear_8 (by decide) ?_
    refine lv_istore_n (lv' := [(1, .int 1), (0, .ref (x 0))]) hx hb dX7_tear_12 rfl hl (by decide) rfl (fun ls hl => ?_)
    refine lv_aload_n hx hb dX7_tear_13 rfl (lv_at hl 1 rfl) ?_
    refine lv_iconst (v := 0) hx hb dX7_tear_14 (by decide) ?_
    obtain ⟨Ma_3, hMa_3, hf⟩ := lt_el hf
    refine va_put (D := D) (ci := 7) (v := .int 0) (ty := .boolean) (C := RX7) (T := TX7) (N := 8) hx hb hu inX7 tyX7 tyX7_ok nmX7 hown hK.1 hP hD hS 0 rfl rfl 7 (by decide) (hu _ q307) (fun _ h9 => h9) rfl (by decide +kernel) rfl rfl (Nat.le_of_ble_eq_true rfl) dX7_tear_15 (fun H locs hP hD hS => ?_)
    have hP : va_P D vwCl (kX7 cs x (.ref (g 0)) (.ref (g2 0)) (.ref (g3 0)) (.ref (h 0)) (.ref (t 0)) (.ref (sa 0)) Ma_3) H := by rw [hMa_3]; exact hP
    have hD : va_D A (kX7 cs x (.ref (g 0)) (.ref (g2 0)) (.ref (g3 0)) (.ref (h 0)) (.ref (t 0)) (.ref (sa 0)) Ma_3) := by rw [hMa_3]; exact hD
    refine lv_iload_n hx hb dX7_tear_18 rfl (lv_at hl 0 rfl) ?_
    have he := Option.some.inj hf
    obtain ⟨e0, e1⟩ := Prod.mk.inj he
    exact hri _ _ _ rfl (congrArg (fun z => some (Value.int z)) e0.symm) dX7_tear_19 _ _ _ (by rw [e1]) hP hD hS

def fX7_count (x1 : Int32) (Ma : ST) (Fo : ST) (Se : ST) (Ta : ST) : Option (Int32 × ST) :=
  (if x1 = 0 then some ((Fo 0 0), Ma) else if x1 = 1 then dc_b1 (fX1_alive Fo) (fun r3 => dc_b1 (fJ6_bitCount_0f7a4 r3) (fun r5 => some (r5, Ma))) else if x1 = 2 then dc_b1 (fX4_named Se) (fun r8 => dc_b1 (fJ6_bitCount_0f7a4 r8) (fun r10 => some (r10, Ma))) else if x1 = 3 then dc_b1 (fX4_ruledByAll Se Fo) (fun r13 => some (r13, Ma)) else if x1 = 4 then some ((Ta 0 2), Ma) else if x1 = 5 then some ((Fo 0 8), Ma) else dc_b2 (fX7_finding (-1000000001) Ma) (fun r17 Ma_18 => some (r17, Ma_18)))
abbrev rmX7_count : Room := { frames := 1, cells := 0, slots := 0, locals := 22 }
set_option maxRecDepth 100000 in
set_option maxHeartbeats 4000000 in
theorem tX7_count (l : Launch) (D : va_G) (cs : Nat → ClassId) (x : Nat → Nat) (g : Nat → Nat) (g2 : Nat → Nat) (g3 : Nat → Nat) (h : Nat → Nat) (t : Nat → Nat) (sa : Nat → Nat) (b : Nat → Nat) (c : Nat → Nat) (d : Nat → Nat) (a : Nat → Nat) (dr : Nat → Nat) (x1 : Int32) (Ma : ST) (Fo : ST) (Se : ST) (Ta : ST) (r0 : Int32) (Maz : ST) (hf : fX7_count x1 Ma Fo Se Ta = some (r0, Maz)) : CG l yX7_count (wsm yX7_count cX7_count 2 (some .int)) rmX7_count D cs [.ref (x 0), .int x1] (some (.int r0)) ((kX7 cs x (.ref (g 0)) (.ref (g2 0)) (.ref (g3 0)) (.ref (h 0)) (.ref (t 0)) (.ref (sa 0)) Ma) ++ (kX2 cs g (.ref (b 0)) (.ref (c 0)) (.ref (d 0)) (.ref (a 0)) ) ++ (kX1 cs b  Fo) ++ (kX4 cs a (.ref (b 0)) (.ref (c 0)) (.ref (d 0)) Se) ++ (kX6 cs t (.ref (dr 0)) Ta)) ((kX7 cs x (.ref (g 0)) (.ref (g2 0)) (.ref (g3 0)) (.ref (h 0)) (.ref (t 0)) (.ref (sa 0)) Maz) ++ (kX2 cs g (.ref (b 0)) (.ref (c 0)) (.ref (d 0)) (.ref (a 0)) ) ++ (kX1 cs b  Fo) ++ (kX4 cs a (.ref (b 0)) (.ref (c 0)) (.ref (d 0)) Se) ++ (kX6 cs t (.ref (dr 0)) Ta)) := by
  refine CG.intro (by decide) (Nat.le_of_ble_eq_true rfl) ?_
  intro p e s m below meth c A Q hx hb hml hown hu hK hZ hP0 hD0 hS0 hA hri hrz hrl hrv hra ls0 hl0
  have hl : lv_has ls0 2 [(0, .ref (x 0)), (1, .int x1)] := hl0
  have hP := hP0
  have hD := hD0
  have hS := hS0
  unfold fX7_count at hf
  refine lv_iload_n hx hb dX7_count_0 rfl (lv_at hl 1 rfl) ?_
  by_cases hc1 : x1 = 0
  · have hf := ip_el hc1 hf
    refine lv_tableIn (off := 39) (tgt := 40) hx hb dX7_count_1 (by rw [hc1]; decide) (by rw [hc1]; decide) (by rw [hc1]; decide) (by decide) ?_
    refine lv_aload_n hx hb dX7_count_40 rfl (lv_at hl 0 rfl) ?_
    refine va_get (D := D) (ci := 7) (v := .ref (g 0)) (C := RX7) (T := TX7) (N := 8) hx hb hu inX7 hown hK.1 hP 0 rfl rfl 0 (by decide) (hu _ q300) (fun _ h9 => h9) rfl dX7_count_41 ?_
    refine va_get (D := D) (ci := 2) (v := .ref (b 0)) (C := RX2) (T := TX2) (N := 4) hx hb hu inX2 hown hK.1 hP 2 rfl rfl 0 (by decide) (hu _ q196) (fun _ h9 => h9) rfl dX7_count_44 ?_
    refine va_get (D := D) (ci := 1) (v := .int (Fo 0 0)) (C := RX1) (T := TX1) (N := 9) hx hb hu inX1 hown hK.1 hP 3 rfl rfl 0 (by decide) (hu _ q93) (fun _ h9 => h9) rfl dX7_count_47 ?_
    have he := Option.some.inj hf
    obtain ⟨e0, e1⟩ := Prod.mk.inj he
    exact hri _ _ _ rfl (congrArg (fun z => some (Value.int z)) e0.symm) dX7_count_50 _ _ _ (by rw [e1]) hP hD hS
  have hf := in_el hc1 hf
  by_cases hc2 : x1 = 1
  · have hf := ip_el hc2 hf
    refine lv_tableIn (off := 50) (tgt := 51) hx hb dX7_count_1 (by rw [hc2]; decide) (by rw [hc2]; decide) (by rw [hc2]; decide) (by decide) ?_
    refine lv_aload_n hx hb dX7_count_51 rfl (lv_at hl 0 rfl) ?_
    refine va_get (D := D) (ci := 7) (v := .ref (g 0)) (C := RX7) (T := TX7) (N := 8) hx hb hu inX7 hown hK.1 hP 0 rfl rfl 0 (by decide) (hu _ q300) (fun _ h9 => h9) rfl dX7_count_52 ?_
    refine va_get (D := D) (ci := 2) (v := .ref (b 0)) (C := RX2) (T := TX2) (N := 4) hx hb hu inX2 hown hK.1 hP 2 rfl rfl 0 (by decide) (hu _ q196) (fun _ h9 => h9) rfl dX7_count_55 ?_
    obtain ⟨r3, hg4, hf⟩ := b1_el hf
    refine cc_V (w' := ((kX7 cs x (.ref (g 0)) (.ref (g2 0)) (.ref (g3 0)) (.ref (h 0)) (.ref (t 0)) (.ref (sa 0)) Ma) ++ (kX2 cs g (.ref (b 0)) (.ref (c 0)) (.ref (d 0)) (.ref (a 0)) ) ++ (kX1 cs b  Fo) ++ (kX4 cs a (.ref (b 0)) (.ref (c 0)) (.ref (d 0)) Se) ++ (kX6 cs t (.ref (dr 0)) Ta))) (wr := ((kX7 cs x (.ref (g 0)) (.ref (g2 0)) (.ref (g3 0)) (.ref (h 0)) (.ref (t 0)) (.ref (sa 0)) Ma) ++ (kX2 cs g (.ref (b 0)) (.ref (c 0)) (.ref (d 0)) (.ref (a 0)) ) ++ (kX4 cs a (.ref (b 0)) (.ref (c 0)) (.ref (d 0)) Se) ++ (kX6 cs t (.ref (dr 0)) Ta))) (st1 := [.int r3]) [] hx hb hml hown hu (tX1_alive l D cs b Fo r3 hg4) q360 q56 q644 q358 q359 pdX1_alive ⟨rfl, rfl, Nat.le_of_ble_eq_true rfl, Nat.le_of_ble_eq_true rfl⟩ hK hZ hP hD hS hA [3, 4, 5, 6, 7, 8, 9] [0, 1, 2, 10, 11, 12, 13, 14, 15] [0, 1, 2, 9, 10, 11, 12, 13, 14, 15, 3, 4, 5, 6, 7, 8] rfl rfl rfl rfl rfl rfl rfl rfl rfl rfl hl.1 rfl (Nat.le_of_ble_eq_true rfl) dX7_count_58 rfl (fun H locs hP hD hS => ?_)
    obtain ⟨r5, hg6, hf⟩ := b1_el hf
    refine cc_S0 (st1 := [.int r5]) [.int r3] hx hb hml hown hu (tJ6_bitCount_0f7a4 l D cs r3 r5 hg6) q647 q65 q645 q646 pdJ6_bitCount_0f7a4 ⟨rfl, rfl, Nat.le_of_ble_eq_true rfl, Nat.le_of_ble_eq_true rfl⟩ hK hZ hP hD hS hA rfl hl.1 rfl (Nat.le_of_ble_eq_true rfl) dX7_count_61 rfl (fun H locs hP hD hS => ?_)
    have he := Option.some.inj hf
    obtain ⟨e0, e1⟩ := Prod.mk.inj he
    exact hri _ _ _ rfl (congrArg (fun z => some (Value.int z)) e0.symm) dX7_count_64 _ _ _ (by rw [e1]) hP hD hS
  have hf := in_el hc2 hf
  by_cases hc7 : x1 = 2
  · have hf := ip_el hc7 hf
    refine lv_tableIn (off := 64) (tgt := 65) hx hb dX7_count_1 (by rw [hc7]; decide) (by rw [hc7]; decide) (by rw [hc7]; decide) (by decide) ?_
    refine lv_aload_n hx hb dX7_count_65 rfl (lv_at hl 0 rfl) ?_
    refine va_get (D := D) (ci := 7) (v := .ref (g 0)) (C := RX7) (T := TX7) (N := 8) hx hb hu inX7 hown hK.1 hP 0 rfl rfl 0 (by decide) (hu _ q300) (fun _ h9 => h9) rfl dX7_count_66 ?_
    refine va_get (D := D) (ci := 2) (v := .ref (a 0)) (C := RX2) (T := TX2) (N := 4) hx hb hu inX2 hown hK.1 hP 2 rfl rfl 3 (by decide) (hu _ q204) (fun _ h9 => h9) rfl dX7_count_69 ?_
    obtain ⟨r8, hg9, hf⟩ := b1_el hf
    refine cc_V (w' := ((kX7 cs x (.ref (g 0)) (.ref (g2 0)) (.ref (g3 0)) (.ref (h 0)) (.ref (t 0)) (.ref (sa 0)) Ma) ++ (kX2 cs g (.ref (b 0)) (.ref (c 0)) (.ref (d 0)) (.ref (a 0)) ) ++ (kX1 cs b  Fo) ++ (kX4 cs a (.ref (b 0)) (.ref (c 0)) (.ref (d 0)) Se) ++ (kX6 cs t (.ref (dr 0)) Ta))) (wr := ((kX7 cs x (.ref (g 0)) (.ref (g2 0)) (.ref (g3 0)) (.ref (h 0)) (.ref (t 0)) (.ref (sa 0)) Ma) ++ (kX2 cs g (.ref (b 0)) (.ref (c 0)) (.ref (d 0)) (.ref (a 0)) ) ++ (kX1 cs b  Fo) ++ (kX6 cs t (.ref (dr 0)) Ta))) (st1 := [.int r8]) [] hx hb hml hown hu (tX4_named l D cs a (.ref (b 0)) (.ref (c 0)) (.ref (d 0)) Se r8 hg9) q380 q58 q902 q378 q379 pdX4_named ⟨rfl, rfl, Nat.le_of_ble_eq_true rfl, Nat.le_of_ble_eq_true rfl⟩ hK hZ hP hD hS hA [10, 11, 12, 13] [0, 1, 2, 3, 4, 5, 6, 7, 8, 9, 14, 15] [0, 1, 2, 3, 4, 5, 6, 7, 8, 9, 12, 13, 14, 15, 10, 11] rfl rfl rfl rfl rfl rfl rfl rfl rfl rfl hl.1 rfl (Nat.le_of_ble_eq_true rfl) dX7_count_72 rfl (fun H locs hP hD hS => ?_)
    obtain ⟨r10, hg11, hf⟩ := b1_el hf
    refine cc_S0 (st1 := [.int r10]) [.int r8] hx hb hml hown hu (tJ6_bitCount_0f7a4 l D cs r8 r10 hg11) q647 q65 q645 q646 pdJ6_bitCount_0f7a4 ⟨rfl, rfl, Nat.le_of_ble_eq_true rfl, Nat.le_of_ble_eq_true rfl⟩ hK hZ hP hD hS hA rfl hl.1 rfl (Nat.le_of_ble_eq_true rfl) dX7_count_75 rfl (fun H locs hP hD hS => ?_)
    have he := Option.some.inj hf
    obtain ⟨e0, e1⟩ := Prod.mk.inj he
    exact hri _ _ _ rfl (congrArg (fun z => some (Value.int z)) e0.symm) dX7_count_78 _ _ _ (by rw [e1]) hP hD hS
  have hf := in_el hc7 hf
  by_cases hc12 : x1 = 3
  · have hf := ip_el hc12 hf
    refine lv_tableIn (off := 78) (tgt := 79) hx hb dX7_count_1 (by rw [hc12]; decide) (by rw [hc12]; decide) (by rw [hc12]; decide) (by decide) ?_
    refine lv_aload_n hx hb dX7_count_79 rfl (lv_at hl 0 rfl) ?_
    refine va_get (D := D) (ci := 7) (v := .ref (g 0)) (C := RX7) (T := TX7) (N := 8) hx hb hu inX7 hown hK.1 hP 0 rfl rfl 0 (by decide) (hu _ q300) (fun _ h9 => h9) rfl dX7_count_80 ?_
    refine va_get (D := D) (ci := 2) (v := .ref (a 0)) (C := RX2) (T := TX2) (N := 4) hx hb hu inX2 hown hK.1 hP 2 rfl rfl 3 (by decide) (hu _ q204) (fun _ h9 => h9) rfl dX7_count_83 ?_
    obtain ⟨r13, hg14, hf⟩ := b1_el hf
    refine cc_V (w' := ((kX7 cs x (.ref (g 0)) (.ref (g2 0)) (.ref (g3 0)) (.ref (h 0)) (.ref (t 0)) (.ref (sa 0)) Ma) ++ (kX2 cs g (.ref (b 0)) (.ref (c 0)) (.ref (d 0)) (.ref (a 0)) ) ++ (kX1 cs b  Fo) ++ (kX4 cs a (.ref (b 0)) (.ref (c 0)) (.ref (d 0)) Se) ++ (kX6 cs t (.ref (dr 0)) Ta))) (wr := ((kX7 cs x (.ref (g 0)) (.ref (g2 0)) (.ref (g3 0)) (.ref (h 0)) (.ref (t 0)) (.ref (sa 0)) Ma) ++ (kX2 cs g (.ref (b 0)) (.ref (c 0)) (.ref (d 0)) (.ref (a 0)) ) ++ (kX6 cs t (.ref (dr 0)) Ta))) (st1 := [.int r13]) [] hx hb hml hown hu (tX4_ruledByAll l D cs a b c (.ref (d 0)) Se Fo r13 hg14) q906 q58 q903 q904 q905 pdX4_ruledByAll ⟨rfl, rfl, Nat.le_of_ble_eq_true rfl, Nat.le_of_ble_eq_true rfl⟩ hK hZ hP hD hS hA [10, 11, 12, 13, 3, 4, 5, 6, 7, 8, 9] [0, 1, 2, 14, 15] [0, 1, 2, 9, 10, 11, 12, 13, 14, 15, 5, 6, 7, 8, 3, 4] rfl rfl rfl rfl rfl rfl rfl rfl rfl rfl hl.1 rfl (Nat.le_of_ble_eq_true rfl) dX7_count_86 rfl (fun H locs hP hD hS => ?_)
    have he := Option.some.inj hf
    obtain ⟨e0, e1⟩ := Prod.mk.inj he
    exact hri _ _ _ rfl (congrArg (fun z => some (Value.int z)) e0.symm) dX7_count_89 _ _ _ (by rw [e1]) hP hD hS
  have hf := in_el hc12 hf
  by_cases hc15 : x1 = 4
  · have hf := ip_el hc15 hf
    refine lv_tableIn (off := 89) (tgt := 90) hx hb dX7_count_1 (by rw [hc15]; decide) (by rw [hc15]; decide) (by rw [hc15]; decide) (by decide) ?_
    refine lv_aload_n hx hb dX7_count_90 rfl (lv_at hl 0 rfl) ?_
    refine va_get (D := D) (ci := 7) (v := .ref (t 0)) (C := RX7) (T := TX7) (N := 8) hx hb hu inX7 hown hK.1 hP 0 rfl rfl 4 (by decide) (hu _ q304) (fun _ h9 => h9) rfl dX7_count_91 ?_
    refine va_get (D := D) (ci := 6) (v := .int (Ta 0 2)) (C := RX6) (T := TX6) (N := 5) hx hb hu inX6 hown hK.1 hP 14 rfl rfl 2 (by decide) (hu _ q263) (fun _ h9 => h9) rfl dX7_count_94 ?_
    have he := Option.some.inj hf
    obtain ⟨e0, e1⟩ := Prod.mk.inj he
    exact hri _ _ _ rfl (congrArg (fun z => some (Value.int z)) e0.symm) dX7_count_97 _ _ _ (by rw [e1]) hP hD hS
  have hf := in_el hc15 hf
  by_cases hc16 : x1 = 5
  · have hf := ip_el hc16 hf
    refine lv_tableIn (off := 97) (tgt := 98) hx hb dX7_count_1 (by rw [hc16]; decide) (by rw [hc16]; decide) (by rw [hc16]; decide) (by decide) ?_
    refine lv_aload_n hx hb dX7_count_98 rfl (lv_at hl 0 rfl) ?_
    refine va_get (D := D) (ci := 7) (v := .ref (g 0)) (C := RX7) (T := TX7) (N := 8) hx hb hu inX7 hown hK.1 hP 0 rfl rfl 0 (by decide) (hu _ q300) (fun _ h9 => h9) rfl dX7_count_99 ?_
    refine va_get (D := D) (ci := 2) (v := .ref (b 0)) (C := RX2) (T := TX2) (N := 4) hx hb hu inX2 hown hK.1 hP 2 rfl rfl 0 (by decide) (hu _ q196) (fun _ h9 => h9) rfl dX7_count_102 ?_
    refine va_get (D := D) (ci := 1) (v := .int (Fo 0 8)) (C := RX1) (T := TX1) (N := 9) hx hb hu inX1 hown hK.1 hP 3 rfl rfl 8 (by decide) (hu _ q113) (fun _ h9 => h9) rfl dX7_count_105 ?_
    have he := Option.some.inj hf
    obtain ⟨e0, e1⟩ := Prod.mk.inj he
    exact hri _ _ _ rfl (congrArg (fun z => some (Value.int z)) e0.symm) dX7_count_108 _ _ _ (by rw [e1]) hP hD hS
  have hf := in_el hc16 hf
  have nhc1 := sw_ne (a := 0) hc1 (by decide)
  have nhc2 := sw_ne (a := 1) hc2 (by decide)
  have nhc7 := sw_ne (a := 2) hc7 (by decide)
  have nhc12 := sw_ne (a := 3) hc12 (by decide)
  have nhc15 := sw_ne (a := 4) hc15 (by decide)
  have nhc16 := sw_ne (a := 5) hc16 (by decide)
  refine lv_tableOut (tgt := 109) hx hb dX7_count_1 (by omega) (by decide) ?_
  refine lv_aload_n hx hb dX7_count_109 rfl (lv_at hl 0 rfl) ?_
  refine lv_ldc (v := (-1000000001)) hx hb hown (hu _ q335) dX7_count_110 ?_
  obtain ⟨r17, Ma_18, hg19, hf⟩ := b2_el hf
  refine cc_V (w' := ((kX7 cs x (.ref (g 0)) (.ref (g2 0)) (.ref (g3 0)) (.ref (h 0)) (.ref (t 0)) (.ref (sa 0)) Ma_18) ++ (kX2 cs g (.ref (b 0)) (.ref (c 0)) (.ref (d 0)) (.ref (a 0)) ) ++ (kX1 cs b  Fo) ++ (kX4 cs a (.ref (b 0)) (.ref (c 0)) (.ref (d 0)) Se) ++ (kX6 cs t (.ref (dr 0)) Ta))) (wr := ((kX2 cs g (.ref (b 0)) (.ref (c 0)) (.ref (d 0)) (.ref (a 0)) ) ++ (kX1 cs b  Fo) ++ (kX4 cs a (.ref (b 0)) (.ref (c 0)) (.ref (d 0)) Se) ++ (kX6 cs t (.ref (dr 0)) Ta))) (st1 := [.int r17]) [.int (-1000000001)] hx hb hml hown hu (tX7_finding l D cs x g g2 g3 h t sa (-1000000001) Ma r17 Ma_18 hg19) q339 q54 q336 q338 q0 pdX7_finding ⟨rfl, rfl, Nat.le_of_ble_eq_true rfl, Nat.le_of_ble_eq_true rfl⟩ hK hZ hP hD hS hA [0, 1] [2, 3, 4, 5, 6, 7, 8, 9, 10, 11, 12, 13, 14, 15] [14, 15, 0, 1, 2, 3, 4, 5, 6, 7, 8, 9, 10, 11, 12, 13] rfl rfl rfl rfl rfl rfl rfl rfl rfl rfl hl.1 rfl (Nat.le_of_ble_eq_true rfl) dX7_count_112 rfl (fun H locs hP hD hS => ?_)
  have he := Option.some.inj hf
  obtain ⟨e0, e1⟩ := Prod.mk.inj he
  exact hri _ _ _ rfl (congrArg (fun z => some (Value.int z)) e0.symm) dX7_count_115 _ _ _ (by rw [e1]) hP hD hS

def fX7_status_32_s (k32 : Int32 → Int32 → ST → Option (Int32 × ST)) (y2 : Int32) (y3 : Int32) (Ma : ST) : Option (Int32 × ST) :=
  (if 7 ≤ y3 then some (y2, Ma) else dc_ck y3 7 (dc_lt (y2 + (Ma 7 (Int32.toNatClampNeg y3))) (fun v7 => dc_lt (y3 + 1) (fun v8 => k32 v7 v8 Ma))))
def fX7_status_32 : Nat → Int32 → Int32 → ST → Option (Int32 × ST)
  | 0 => fun _ _ _ => none
  | n + 1 => fX7_status_32_s (fX7_status_32 n)
def fX7_status (x1 : Int32) (Ma : ST) : Option (Int32 × ST) :=
  dc_b1 (fX7_within x1 (-1) 6) (fun r1 => (if r1 = 0 then dc_b2 (fX7_finding (-1000000001) Ma) (fun r10 Ma_11 => some (r10, Ma_11)) else (if x1 < 0 then fX7_status_32 400 0 0 Ma else dc_ck x1 7 (some ((Ma 7 (Int32.toNatClampNeg x1)), Ma)))))
abbrev rmX7_status : Room := { frames := 1, cells := 0, slots := 0, locals := 22 }
set_option maxRecDepth 100000 in
set_option maxHeartbeats 4000000 in
theorem tX7_status (l : Launch) (D : va_G) (cs : Nat → ClassId) (x : Nat → Nat) (g : Nat → Nat) (g2 : Nat → Nat) (g3 : Nat → Nat) (h : Nat → Nat) (t : Nat → Nat) (sa : Nat → Nat) (x1 : Int32) (Ma : ST) (r0 : Int32) (Maz : ST) (hf : fX7_status x1 Ma = some (r0, Maz)) : CG l yX7_status (wsm yX7_status cX7_status 4 (some .int)) rmX7_status D cs [.ref (x 0), .int x1] (some (.int r0)) (kX7 cs x (.ref (g 0)) (.ref (g2 0)) (.ref (g3 0)) (.ref (h 0)) (.ref (t 0)) (.ref (sa 0)) Ma) (kX7 cs x (.ref (g 0)) (.ref (g2 0)) (.ref (g3 0)) (.ref (h 0)) (.ref (t 0)) (.ref (sa 0)) Maz) := by
  refine CG.intro (by decide) (Nat.le_of_ble_eq_true rfl) ?_
  intro p e s m below meth c A Q hx hb hml hown hu hK hZ hP0 hD0 hS0 hA hri hrz hrl hrv hra ls0 hl0
  have hs32 : ∀ (k32 : Int32 → Int32 → ST → Option (Int32 × ST)), (∀ (y2 : Int32) (y3 : Int32) (Ma : ST) (H : Heap) (locs : List Loc) (ls : Array Slot), va_P D vwCl (kX7 cs x (.ref (g 0)) (.ref (g2 0)) (.ref (g3 0)) (.ref (h 0)) (.ref (t 0)) (.ref (sa 0)) Ma) H → va_D A (kX7 cs x (.ref (g 0)) (.ref (g2 0)) (.ref (g3 0)) (.ref (h 0)) (.ref (t 0)) (.ref (sa 0)) Ma) → va_S A s.heap H locs → lv_has ls 4 [(0, .ref (x 0)), (2, .int y2), (3, .int y3)] → k32 y2 y3 Ma = some (r0, Maz) → W p l e rmX7_status s m [.ref (x 0), .int x1].toArray below meth c H locs 0 0 Q (F0 m 32 ls [])) → ∀ (y2 : Int32) (y3 : Int32) (Ma : ST) (H : Heap) (locs : List Loc) (ls : Array Slot), va_P D vwCl (kX7 cs x (.ref (g 0)) (.ref (g2 0)) (.ref (g3 0)) (.ref (h 0)) (.ref (t 0)) (.ref (sa 0)) Ma) H → va_D A (kX7 cs x (.ref (g 0)) (.ref (g2 0)) (.ref (g3 0)) (.ref (h 0)) (.ref (t 0)) (.ref (sa 0)) Ma) → va_S A s.heap H locs → lv_has ls 4 [(0, .ref (x 0)), (2, .int y2), (3, .int y3)] → fX7_status_32_s k32 y2 y3 Ma = some (r0, Maz) → W p l e rmX7_status s m [.ref (x 0), .int x1].toArray below meth c H locs 0 0 Q (F0 m 32 ls []) := by
    intro k32 hk32 y2 y3 Ma H locs ls hP hD hS hl hf
    unfold fX7_status_32_s at hf
    refine lv_iload_n hx hb dX7_status_32 rfl (lv_at hl 2 rfl) ?_
    refine lv_bipush (v := 7) hx hb dX7_status_33 (by decide) ?_
    refine lv_icmp_ge (tgt := 53) hx hb dX7_status_35 (by decide) (fun hc5 => ?_) (fun hc5 => ?_)
    · have hf := ip_el hc5 hf
      refine lv_iload_n hx hb dX7_status_53 rfl (lv_at hl 1 rfl) ?_
      have he := Option.some.inj hf
      obtain ⟨e0, e1⟩ := Prod.mk.inj he
      exact hri _ _ _ rfl (congrArg (fun z => some (Value.int z)) e0.symm) dX7_status_54 _ _ _ (by rw [e1]) hP hD hS
    · have hf := in_el hc5 hf
      refine lv_iload_n hx hb dX7_status_38 rfl (lv_at hl 1 rfl) ?_
      refine lv_aload_n hx hb dX7_status_39 rfl (lv_at hl 0 rfl) ?_
      refine va_get (D := D) (ci := 7) (v := .ref (x 7)) (C := RX7) (T := TX7) (N := 8) hx hb hu inX7 hown hK.1 hP 0 rfl rfl 6 (by decide) (hu _ q306) (fun _ h9 => h9) rfl dX7_status_40 ?_
      refine lv_iload_n hx hb dX7_status_43 rfl (lv_at hl 2 rfl) ?_
      obtain ⟨hi6, hf⟩ := ck_el hf
      refine va_iald hx hb hK.1 hP 1 0 rfl rfl hi6 dX7_status_44 ?_
      refine lv_iadd hx hb dX7_status_45 ?_
      obtain ⟨v7, hv7, hf⟩ := lt_el hf
      refine lv_tope hv7 ?_
      refine lv_istore_n (lv' := [(2, .int v7), (0, .ref (x 0)), (3, .int y3)]) hx hb dX7_status_46 rfl hl (by decide) rfl (fun ls hl => ?_)
      obtain ⟨v8, hv8, hf⟩ := lt_el hf
      refine lv_iinc (v := v8) (lv' := [(3, .int v8), (2, .int v7), (0, .ref (x 0))]) hx hb dX7_status_47 hl (k := 2) rfl (by rw [hv8]; rfl) (by decide) rfl (fun ls hl => ?_)
      refine lv_goto (tgt := 32) hx hb dX7_status_50 (by decide) ?_
      exact hk32 v7 v8 Ma _ _ _ hP hD hS (lv_sub hl [2, 1, 0] rfl) hf
  have h32 : ∀ (n : Nat), ∀ (y2 : Int32) (y3 : Int32) (Ma : ST) (H : Heap) (locs : List Loc) (ls : Array Slot), va_P D vwCl (kX7 cs x (.ref (g 0)) (.ref (g2 0)) (.ref (g3 0)) (.ref (h 0)) (.ref (t 0)) (.ref (sa 0)) Ma) H → va_D A (kX7 cs x (.ref (g 0)) (.ref (g2 0)) (.ref (g3 0)) (.ref (h 0)) (.ref (t 0)) (.ref (sa 0)) Ma) → va_S A s.heap H locs → lv_has ls 4 [(0, .ref (x 0)), (2, .int y2), (3, .int y3)] → fX7_status_32 n y2 y3 Ma = some (r0, Maz) → W p l e rmX7_status s m [.ref (x 0), .int x1].toArray below meth c H locs 0 0 Q (F0 m 32 ls []) := by
    intro n
    induction n with
    | zero => intro y2 y3 Ma H locs ls hP hD hS hl hf; exact no_el hf
    | succ n ih => intro y2 y3 Ma H locs ls hP hD hS hl hf; exact hs32 _ ih y2 y3 Ma _ _ _ hP hD hS hl hf
  have hl : lv_has ls0 4 [(0, .ref (x 0)), (1, .int x1)] := hl0
  have hP := hP0
  have hD := hD0
  have hS := hS0
  unfold fX7_status at hf
  refine lv_iload_n hx hb dX7_status_0 rfl (lv_at hl 1 rfl) ?_
  refine lv_iconst (v := (-1)) hx hb dX7_status_1 (by decide) ?_
  refine lv_bipush (v := 6) hx hb dX7_status_2 (by decide) ?_
  obtain ⟨r1, hg2, hf⟩ := b1_el hf
  refine cc_S0 (st1 := [.int r1]) [.int x1, .int (-1), .int 6] hx hb hml hown hu (tX7_within l D cs x1 (-1) 6 r1 hg2) q331 q54 q329 q330 pdX7_within ⟨rfl, rfl, Nat.le_of_ble_eq_true rfl, Nat.le_of_ble_eq_true rfl⟩ hK hZ hP hD hS hA rfl hl.1 rfl (Nat.le_of_ble_eq_true rfl) dX7_status_4 rfl (fun H locs hP hD hS => ?_)
  refine lv_if_ne (tgt := 17) hx hb dX7_status_7 (by decide) (fun hc3 => ?_) (fun hc3 => ?_)
  · have hf := in_el hc3 hf
    refine lv_iload_n hx hb dX7_status_17 rfl (lv_at hl 1 rfl) ?_
    refine lv_if_lt (tgt := 28) hx hb dX7_status_18 (by decide) (fun hc4 => ?_) (fun hc4 => ?_)
    · have hf := ip_el hc4 hf
      refine lv_iconst (v := 0) hx hb dX7_status_28 (by decide) ?_
      refine lv_istore_n (lv' := [(2, .int 0), (0, .ref (x 0)), (1, .int x1)]) hx hb dX7_status_29 rfl hl (by decide) rfl (fun ls hl => ?_)
      refine lv_iconst (v := 0) hx hb dX7_status_30 (by decide) ?_
      refine lv_istore_n (lv' := [(3, .int 0), (2, .int 0), (0, .ref (x 0)), (1, .int x1)]) hx hb dX7_status_31 rfl hl (by decide) rfl (fun ls hl => ?_)
      exact h32 400 0 0 Ma _ _ _ hP hD hS (lv_sub hl [2, 1, 0] rfl) hf
    · have hf := in_el hc4 hf
      refine lv_aload_n hx hb dX7_status_21 rfl (lv_at hl 0 rfl) ?_
      refine va_get (D := D) (ci := 7) (v := .ref (x 7)) (C := RX7) (T := TX7) (N := 8) hx hb hu inX7 hown hK.1 hP 0 rfl rfl 6 (by decide) (hu _ q306) (fun _ h9 => h9) rfl dX7_status_22 ?_
      refine lv_iload_n hx hb dX7_status_25 rfl (lv_at hl 1 rfl) ?_
      obtain ⟨hi9, hf⟩ := ck_el hf
      refine va_iald hx hb hK.1 hP 1 0 rfl rfl hi9 dX7_status_26 ?_
      have he := Option.some.inj hf
      obtain ⟨e0, e1⟩ := Prod.mk.inj he
      exact hri _ _ _ rfl (congrArg (fun z => some (Value.int z)) e0.symm) dX7_status_27 _ _ _ (by rw [e1]) hP hD hS
  · have hf := ip_el hc3 hf
    refine lv_aload_n hx hb dX7_status_10 rfl (lv_at hl 0 rfl) ?_
    refine lv_ldc (v := (-1000000001)) hx hb hown (hu _ q335) dX7_status_11 ?_
    obtain ⟨r10, Ma_11, hg12, hf⟩ := b2_el hf
    refine cc_V1 (w' := (kX7 cs x (.ref (g 0)) (.ref (g2 0)) (.ref (g3 0)) (.ref (h 0)) (.ref (t 0)) (.ref (sa 0)) Ma_11)) (st1 := [.int r10]) [.int (-1000000001)] hx hb hml hown hu (tX7_finding l D cs x g g2 g3 h t sa (-1000000001) Ma r10 Ma_11 hg12) q339 q54 q336 q338 q0 pdX7_finding ⟨rfl, rfl, Nat.le_of_ble_eq_true rfl, Nat.le_of_ble_eq_true rfl⟩ hK hZ hP hD hS hA rfl rfl rfl rfl hl.1 rfl (Nat.le_of_ble_eq_true rfl) dX7_status_13 rfl (fun H locs hP hD hS => ?_)
    have he := Option.some.inj hf
    obtain ⟨e0, e1⟩ := Prod.mk.inj he
    exact hri _ _ _ rfl (congrArg (fun z => some (Value.int z)) e0.symm) dX7_status_16 _ _ _ (by rw [e1]) hP hD hS
