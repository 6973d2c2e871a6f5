def fX7_finding (x1 : Int32) (Ma : ST) : Option (Int32 × ST) :=
  dc_lt ((-1000000001) - x1) (fun v1 => (if v1 < 0 then some (x1, Ma) else (if 7 ≤ v1 then some (x1, Ma) else dc_ck v1 7 (dc_ck v1 7 (dc_lt (sti Ma 7 (Int32.toNatClampNeg v1) ((Ma 7 (Int32.toNatClampNeg v1)) + 1)) (fun Ma_6 => some (x1, Ma_6)))))))
abbrev rmX7_finding : Room := { frames := 0, cells := 0, slots := 0, locals := 0 }
set_option maxRecDepth 100000 in
set_option maxHeartbeats 4000000 in
theorem tX7_finding (l : Launch) (D : va_G) (cs : Nat → ClassId) (ama : Nat → Nat) (are : Nat → Nat) (are2 : Nat → Nat) (are3 : Nat → Nat) (ach : Nat → Nat) (ata : Nat → Nat) (asa : Nat → Nat) (x1 : Int32) (Ma : ST) (r0 : Int32) (Maz : ST) (hf : fX7_finding x1 Ma = some (r0, Maz)) : CG l yX7_finding (wsm yX7_finding cX7_finding 3 (some .int)) rmX7_finding D cs [.ref (ama 0), .int x1] (some (.int r0)) (kX7 cs ama (.ref (are 0)) (.ref (are2 0)) (.ref (are3 0)) (.ref (ach 0)) (.ref (ata 0)) (.ref (asa 0)) Ma) (kX7 cs ama (.ref (are 0)) (.ref (are2 0)) (.ref (are3 0)) (.ref (ach 0)) (.ref (ata 0)) (.ref (asa 0)) Maz) := by
  refine CG.intro (by decide) (Nat.le_of_ble_eq_true rfl) ?_
  intro p e s m below meth c A Q hx hb hml hown hu hK hZ hP0 hD0 hS0 hA hri hrz hrl hrv hra ls0 hl0
  have hl : lv_has ls0 3 [(0, .ref (ama 0)), (1, .int x1)] := hl0
  have hP := hP0
  have hD := hD0
  have hS := hS0
  unfold fX7_finding at hf
  refine lv_ldc (v := (-1000000001)) hx hb hown (hu _ q335) dX7_finding_0 ?_
  refine lv_iload_n hx hb dX7_finding_2 rfl (lv_at hl 1 rfl) ?_
  refine lv_isub hx hb dX7_finding_3 ?_
  obtain ⟨v1, hv1, hf⟩ := lt_el hf
  refine lv_tope hv1 ?_
  refine lv_istore_n (lv' := [(2, .int v1), (0, .ref (ama 0)), (1, .int x1)]) hx hb dX7_finding_4 rfl hl (by decide) rfl (fun ls hl => ?_)
  refine lv_iload_n hx hb dX7_finding_5 rfl (lv_at hl 0 rfl) ?_
  refine lv_if_lt (tgt := 25) hx hb dX7_finding_6 (by decide) (fun hc2 => ?_) (fun hc2 => ?_)
  · have hf := ip_el hc2 hf
    refine lv_iload_n hx hb dX7_finding_25 rfl (lv_at hl 2 rfl) ?_
    have he := Option.some.inj hf
    obtain ⟨e0, e1⟩ := Prod.mk.inj he
    exact hri _ _ _ rfl (congrArg (fun z => some (Value.int z)) e0.symm) dX7_finding_26 _ _ _ (by rw [e1]) hP hD hS
  · have hf := in_el hc2 hf
    refine lv_iload_n hx hb dX7_finding_9 rfl (lv_at hl 0 rfl) ?_
    refine lv_bipush (v := 7) hx hb dX7_finding_10 (by decide) ?_
    refine lv_icmp_ge (tgt := 25) hx hb dX7_finding_12 (by decide) (fun hc3 => ?_) (fun hc3 => ?_)
    · have hf := ip_el hc3 hf
      refine lv_iload_n hx hb dX7_finding_25 rfl (lv_at hl 2 rfl) ?_
      have he := Option.some.inj hf
      obtain ⟨e0, e1⟩ := Prod.mk.inj he
      exact hri _ _ _ rfl (congrArg (fun z => some (Value.int z)) e0.symm) dX7_finding_26 _ _ _ (by rw [e1]) hP hD hS
    · have hf := in_el hc3 hf
      refine lv_aload_n hx hb dX7_finding_15 rfl (lv_at hl 1 rfl) ?_
      refine va_get (D := D) (ci := 7) (v := .ref (ama 7)) (C := RX7) (T := TX7) (N := 8) hx hb hu inX7 hown hK.1 hP 0 rfl rfl 6 (by decide) (hu _ q306) (fun _ h9 => h9) rfl dX7_finding_16 ?_
      refine lv_iload_n hx hb dX7_finding_19 rfl (lv_at hl 0 rfl) ?_
      refine lv_dup2_11 hx hb dX7_finding_20 rfl rfl ?_
      obtain ⟨hi4, hf⟩ := ck_el hf
      refine va_iald hx hb hK.1 hP 1 0 rfl rfl hi4 dX7_finding_21 ?_
      refine lv_iconst (v := 1) hx hb dX7_finding_22 (by decide) ?_
      refine lv_iadd hx hb dX7_finding_23 ?_
      obtain ⟨hi5, hf⟩ := ck_el hf
      obtain ⟨Ma_6, hMa_6, hf⟩ := lt_el hf
      refine va_iast hx hb hK.1 hP hD hS 1 0 rfl rfl hi5 dX7_finding_24 (fun H locs hP hD hS => ?_)
      have hP : va_P D vwCl (kX7 cs ama (.ref (are 0)) (.ref (are2 0)) (.ref (are3 0)) (.ref (ach 0)) (.ref (ata 0)) (.ref (asa 0)) Ma_6) H := by rw [hMa_6]; exact hP
      have hD : va_D A (kX7 cs ama (.ref (are 0)) (.ref (are2 0)) (.ref (are3 0)) (.ref (ach 0)) (.ref (ata 0)) (.ref (asa 0)) Ma_6) := by rw [hMa_6]; exact hD
      refine lv_iload_n hx hb dX7_finding_25 rfl (lv_at hl 2 rfl) ?_
      have he := Option.some.inj hf
      obtain ⟨e0, e1⟩ := Prod.mk.inj he
      exact hri _ _ _ rfl (congrArg (fun z => some (Value.int z)) e0.symm) dX7_finding_26 _ _ _ (by rw [e1]) hP hD hS

def fX7_isOne (x1 : Int32) (Ma : ST) (Fo : ST) : Option Int32 :=
  dc_b1 (fX7_within x1 0 ((Fo 0 0) - 1)) (fun r1 => dc_bl r1 (some r1))
abbrev rmX7_isOne : Room := { frames := 1, cells := 0, slots := 0, locals := 22 }
set_option maxRecDepth 100000 in
set_option maxHeartbeats 4000000 in
theorem tX7_isOne (l : Launch) (D : va_G) (cs : Nat → ClassId) (ama : Nat → Nat) (are : Nat → Nat) (are2 : Nat → Nat) (are3 : Nat → Nat) (ach : Nat → Nat) (ata : Nat → Nat) (asa : Nat → Nat) (af : Nat → Nat) (ac : Nat → Nat) (atr : Nat → Nat) (ase : Nat → Nat) (x1 : Int32) (Ma : ST) (Fo : ST) (r0 : Int32) (hf : fX7_isOne x1 Ma Fo = some r0) : CG l yX7_isOne (wsm yX7_isOne cX7_isOne 2 (some .boolean)) rmX7_isOne D cs [.ref (ama 0), .int x1] (some (.int r0)) ((kX7 cs ama (.ref (are 0)) (.ref (are2 0)) (.ref (are3 0)) (.ref (ach 0)) (.ref (ata 0)) (.ref (asa 0)) Ma) ++ ((kX2 cs are (.ref (af 0)) (.ref (ac 0)) (.ref (atr 0)) (.ref (ase 0)) ) ++ ((kX1 cs af  Fo)))) ((kX7 cs ama (.ref (are 0)) (.ref (are2 0)) (.ref (are3 0)) (.ref (ach 0)) (.ref (ata 0)) (.ref (asa 0)) Ma) ++ ((kX2 cs are (.ref (af 0)) (.ref (ac 0)) (.ref (atr 0)) (.ref (ase 0)) ) ++ ((kX1 cs af  Fo)))) := by
  refine CG.intro (by decide) (Nat.le_of_ble_eq_true rfl) ?_
  intro p e s m below meth c A Q hx hb hml hown hu hK hZ hP0 hD0 hS0 hA hri hrz hrl hrv hra ls0 hl0
  have hl : lv_has ls0 2 [(0, .ref (ama 0)), (1, .int x1)] := hl0
  have hP := hP0
  have hD := hD0
  have hS := hS0
  unfold fX7_isOne at hf
  refine lv_iload_n hx hb dX7_isOne_0 rfl (lv_at hl 1 rfl) ?_
  refine lv_iconst (v := 0) hx hb dX7_isOne_1 (by decide) ?_
  refine lv_aload_n hx hb dX7_isOne_2 rfl (lv_at hl 0 rfl) ?_
  refine va_get (D := D) (ci := 7) (v := .ref (are 0)) (C := RX7) (T := TX7) (N := 8) hx hb hu inX7 hown hK.1 hP 0 rfl rfl 0 (by decide) (hu _ q300) (fun _ h9 => h9) rfl dX7_isOne_3 ?_
  refine va_get (D := D) (ci := 2) (v := .ref (af 0)) (C := RX2) (T := TX2) (N := 4) hx hb hu inX2 hown hK.1 hP 2 rfl rfl 0 (by decide) (hu _ q196) (fun _ h9 => h9) rfl dX7_isOne_6 ?_
  refine va_get (D := D) (ci := 1) (v := .int (Fo 0 0)) (C := RX1) (T := TX1) (N := 9) hx hb hu inX1 hown hK.1 hP 3 rfl rfl 0 (by decide) (hu _ q93) (fun _ h9 => h9) rfl dX7_isOne_9 ?_
  refine lv_iconst (v := 1) hx hb dX7_isOne_12 (by decide) ?_
  refine lv_isub hx hb dX7_isOne_13 ?_
  obtain ⟨r1, hg2, hf⟩ := b1_el hf
  refine cc_S0 (st1 := [.int r1]) [.int x1, .int 0, .int ((Fo 0 0) - 1)] hx hb hml hown hu (tX7_within l D cs x1 0 ((Fo 0 0) - 1) r1 hg2) q331 q54 q329 q330 pdX7_within ⟨rfl, rfl, Nat.le_of_ble_eq_true rfl, Nat.le_of_ble_eq_true rfl⟩ hK hZ hP hD hS hA rfl hl.1 rfl (Nat.le_of_ble_eq_true rfl) dX7_isOne_14 rfl (fun H locs hP hD hS => ?_)
  obtain ⟨hbl, hf⟩ := bl_el hf
  have he := Option.some.inj hf
  have e0 := he
  exact hrz _ _ _ .boolean rfl (bl_nar hbl) (congrArg (fun z => some (Value.int z)) e0.symm) dX7_isOne_17 _ _ _ rfl hP hD hS

def fX7_areTwo (x1 : Int32) (x2 : Int32) (Ma : ST) (Fo : ST) : Option Int32 :=
  dc_b1 (fX7_isOne x1 Ma Fo) (fun r1 => (if r1 = 0 then some 0 else dc_b1 (fX7_isOne x2 Ma Fo) (fun r4 => (if r4 = 0 then some 0 else (if x1 = x2 then some 0 else some 1)))))
abbrev rmX7_areTwo : Room := { frames := 2, cells := 0, slots := 0, locals := 43 }
set_option maxRecDepth 100000 in
set_option maxHeartbeats 4000000 in
theorem tX7_areTwo (l : Launch) (D : va_G) (cs : Nat → ClassId) (ama : Nat → Nat) (are : Nat → Nat) (are2 : Nat → Nat) (are3 : Nat → Nat) (ach : Nat → Nat) (ata : Nat → Nat) (asa : Nat → Nat) (af : Nat → Nat) (ac : Nat → Nat) (atr : Nat → Nat) (ase : Nat → Nat) (x1 : Int32) (x2 : Int32) (Ma : ST) (Fo : ST) (r0 : Int32) (hf : fX7_areTwo x1 x2 Ma Fo = some r0) : CG l yX7_areTwo (wsm yX7_areTwo cX7_areTwo 3 (some .boolean)) rmX7_areTwo D cs [.ref (ama 0), .int x1, .int x2] (some (.int r0)) ((kX7 cs ama (.ref (are 0)) (.ref (are2 0)) (.ref (are3 0)) (.ref (ach 0)) (.ref (ata 0)) (.ref (asa 0)) Ma) ++ ((kX2 cs are (.ref (af 0)) (.ref (ac 0)) (.ref (atr 0)) (.ref (ase 0)) ) ++ ((kX1 cs af  Fo)))) ((kX7 cs ama (.ref (are 0)) (.ref (are2 0)) (.ref (are3 0)) (.ref (ach 0)) (.ref (ata 0)) (.ref (asa 0)) Ma) ++ ((kX2 cs are (.ref (af 0)) (.ref (ac 0)) (.ref (atr 0)) (.ref (ase 0)) ) ++ ((kX1 cs af  Fo)))) := by
  refine CG.intro (by decide) (Nat.le_of_ble_eq_true rfl) ?_
  intro p e s m below meth c A Q hx hb hml hown hu hK hZ hP0 hD0 hS0 hA hri hrz hrl hrv hra ls0 hl0
  have hl : lv_has ls0 3 [(0, .ref (ama 0)), (1, .int x1), (2, .int x2)] := hl0
  have hP := hP0
  have hD := hD0
  have hS := hS0
  unfold fX7_areTwo at hf
  refine lv_aload_n hx hb dX7_areTwo_0 rfl (lv_at hl 0 rfl) ?_
  refine lv_iload_n hx hb dX7_areTwo_1 rfl (lv_at hl 1 rfl) ?_
  obtain ⟨r1, hg2, hf⟩ := b1_el hf
  refine cc_V1 (w' := ((kX7 cs ama (.ref (are 0)) (.ref (are2 0)) (.ref (are3 0)) (.ref (ach 0)) (.ref (ata 0)) (.ref (asa 0)) Ma) ++ ((kX2 cs are (.ref (af 0)) (.ref (ac 0)) (.ref (atr 0)) (.ref (ase 0)) ) ++ ((kX1 cs af  Fo))))) (st1 := [.int r1]) [.int x1] hx hb hml hown hu (tX7_isOne l D cs ama are are2 are3 ach ata asa af ac atr ase x1 Ma Fo r1 hg2) q352 q54 q349 q351 q1 pdX7_isOne ⟨rfl, rfl, Nat.le_of_ble_eq_true rfl, Nat.le_of_ble_eq_true rfl⟩ hK hZ hP hD hS hA rfl rfl rfl rfl hl.1 rfl (Nat.le_of_ble_eq_true rfl) dX7_areTwo_2 rfl (fun H locs hP hD hS => ?_)
  refine lv_if_eq (tgt := 25) hx hb dX7_areTwo_5 (by decide) (fun hc3 => ?_) (fun hc3 => ?_)
  · have hf := ip_el hc3 hf
    refine lv_iconst (v := 0) hx hb dX7_areTwo_25 (by decide) ?_
    have he := Option.some.inj hf
    have e0 := he
    exact hrz _ _ _ .boolean rfl rfl (congrArg (fun z => some (Value.int z)) e0.symm) dX7_areTwo_26 _ _ _ rfl hP hD hS
  · have hf := in_el hc3 hf
    refine lv_aload_n hx hb dX7_areTwo_8 rfl (lv_at hl 0 rfl) ?_
    refine lv_iload_n hx hb dX7_areTwo_9 rfl (lv_at hl 2 rfl) ?_
    obtain ⟨r4, hg5, hf⟩ := b1_el hf
    refine cc_V1 (w' := ((kX7 cs ama (.ref (are 0)) (.ref (are2 0)) (.ref (are3 0)) (.ref (ach 0)) (.ref (ata 0)) (.ref (asa 0)) Ma) ++ ((kX2 cs are (.ref (af 0)) (.ref (ac 0)) (.ref (atr 0)) (.ref (ase 0)) ) ++ ((kX1 cs af  Fo))))) (st1 := [.int r4]) [.int x2] hx hb hml hown hu (tX7_isOne l D cs ama are are2 are3 ach ata asa af ac atr ase x2 Ma Fo r4 hg5) q352 q54 q349 q351 q1 pdX7_isOne ⟨rfl, rfl, Nat.le_of_ble_eq_true rfl, Nat.le_of_ble_eq_true rfl⟩ hK hZ hP hD hS hA rfl rfl rfl rfl hl.1 rfl (Nat.le_of_ble_eq_true rfl) dX7_areTwo_10 rfl (fun H locs hP hD hS => ?_)
    refine lv_if_eq (tgt := 25) hx hb dX7_areTwo_13 (by decide) (fun hc6 => ?_) (fun hc6 => ?_)
    · have hf := ip_el hc6 hf
      refine lv_iconst (v := 0) hx hb dX7_areTwo_25 (by decide) ?_
      have he := Option.some.inj hf
      have e0 := he
      exact hrz _ _ _ .boolean rfl rfl (congrArg (fun z => some (Value.int z)) e0.symm) dX7_areTwo_26 _ _ _ rfl hP hD hS
    · have hf := in_el hc6 hf
      refine lv_iload_n hx hb dX7_areTwo_16 rfl (lv_at hl 1 rfl) ?_
      refine lv_iload_n hx hb dX7_areTwo_17 rfl (lv_at hl 2 rfl) ?_
      refine lv_icmp_eq (tgt := 25) hx hb dX7_areTwo_18 (by decide) (fun hc7 => ?_) (fun hc7 => ?_)
      · have hf := ip_el hc7 hf
        refine lv_iconst (v := 0) hx hb dX7_areTwo_25 (by decide) ?_
        have he := Option.some.inj hf
        have e0 := he
        exact hrz _ _ _ .boolean rfl rfl (congrArg (fun z => some (Value.int z)) e0.symm) dX7_areTwo_26 _ _ _ rfl hP hD hS
      · have hf := in_el hc7 hf
        refine lv_iconst (v := 1) hx hb dX7_areTwo_21 (by decide) ?_
        refine lv_goto (tgt := 26) hx hb dX7_areTwo_22 (by decide) ?_
        have he := Option.some.inj hf
        have e0 := he
        exact hrz _ _ _ .boolean rfl rfl (congrArg (fun z => some (Value.int z)) e0.symm) dX7_areTwo_26 _ _ _ rfl hP hD hS

def fX7_isPlace (x1 : Int32) (Ma : ST) (Se : ST) : Option Int32 :=
  dc_b1 (fX7_within x1 0 ((Se 4 0) - 1)) (fun r1 => dc_bl r1 (some r1))
abbrev rmX7_isPlace : Room := { frames := 1, cells := 0, slots := 0, locals := 22 }
set_option maxRecDepth 100000 in
set_option maxHeartbeats 4000000 in
theorem tX7_isPlace (l : Launch) (D : va_G) (cs : Nat → ClassId) (ama : Nat → Nat) (are : Nat → Nat) (are2 : Nat → Nat) (are3 : Nat → Nat) (ach : Nat → Nat) (ata : Nat → Nat) (asa : Nat → Nat) (af : Nat → Nat) (ac : Nat → Nat) (atr : Nat → Nat) (ase : Nat → Nat) (x1 : Int32) (Ma : ST) (Se : ST) (r0 : Int32) (hf : fX7_isPlace x1 Ma Se = some r0) : CG l yX7_isPlace (wsm yX7_isPlace cX7_isPlace 2 (some .boolean)) rmX7_isPlace D cs [.ref (ama 0), .int x1] (some (.int r0)) ((kX7 cs ama (.ref (are 0)) (.ref (are2 0)) (.ref (are3 0)) (.ref (ach 0)) (.ref (ata 0)) (.ref (asa 0)) Ma) ++ ((kX2 cs are (.ref (af 0)) (.ref (ac 0)) (.ref (atr 0)) (.ref (ase 0)) ) ++ ((kX4 cs ase (.ref (af 0)) (.ref (ac 0)) (.ref (atr 0)) Se)))) ((kX7 cs ama (.ref (are 0)) (.ref (are2 0)) (.ref (are3 0)) (.ref (ach 0)) (.ref (ata 0)) (.ref (asa 0)) Ma) ++ ((kX2 cs are (.ref (af 0)) (.ref (ac 0)) (.ref (atr 0)) (.ref (ase 0)) ) ++ ((kX4 cs ase (.ref (af 0)) (.ref (ac 0)) (.ref (atr 0)) Se)))) := by
  refine CG.intro (by decide) (Nat.le_of_ble_eq_true rfl) ?_
  intro p e s m below meth c A Q hx hb hml hown hu hK hZ hP0 hD0 hS0 hA hri hrz hrl hrv hra ls0 hl0
  have hl : lv_has ls0 2 [(0, .ref (ama 0)), (1, .int x1)] := hl0
  have hP := hP0
  have hD := hD0
  have hS := hS0
  unfold fX7_isPlace at hf
  refine lv_iload_n hx hb dX7_isPlace_0 rfl (lv_at hl 1 rfl) ?_
  refine lv_iconst (v := 0) hx hb dX7_isPlace_1 (by decide) ?_
  refine lv_aload_n hx hb dX7_isPlace_2 rfl (lv_at hl 0 rfl) ?_
  refine va_get (D := D) (ci := 7) (v := .ref (are 0)) (C := RX7) (T := TX7) (N := 8) hx hb hu inX7 hown hK.1 hP 0 rfl rfl 0 (by decide) (hu _ q300) (fun _ h9 => h9) rfl dX7_isPlace_3 ?_
  refine va_get (D := D) (ci := 2) (v := .ref (ase 0)) (C := RX2) (T := TX2) (N := 4) hx hb hu inX2 hown hK.1 hP 2 rfl rfl 3 (by decide) (hu _ q204) (fun _ h9 => h9) rfl dX7_isPlace_6 ?_
  refine va_get (D := D) (ci := 4) (v := .ref (ase 4)) (C := RX4) (T := TX4) (N := 10) hx hb hu inX4 hown hK.1 hP 3 rfl rfl 3 (by decide) (hu _ q162) (fun _ h9 => h9) rfl dX7_isPlace_9 ?_
  refine lv_iconst (v := 0) hx hb dX7_isPlace_12 (by decide) ?_
  refine ia_lit hx hb hK hP 4 0 rfl (by decide) dX7_isPlace_13 ?_
  refine lv_iconst (v := 1) hx hb dX7_isPlace_14 (by decide) ?_
  refine lv_isub hx hb dX7_isPlace_15 ?_
  obtain ⟨r1, hg2, hf⟩ := b1_el hf
  refine cc_S0 (st1 := [.int r1]) [.int x1, .int 0, .int ((Se 4 0) - 1)] hx hb hml hown hu (tX7_within l D cs x1 0 ((Se 4 0) - 1) r1 hg2) q331 q54 q329 q330 pdX7_within ⟨rfl, rfl, Nat.le_of_ble_eq_true rfl, Nat.le_of_ble_eq_true rfl⟩ hK hZ hP hD hS hA rfl hl.1 rfl (Nat.le_of_ble_eq_true rfl) dX7_isPlace_16 rfl (fun H locs hP hD hS => ?_)
  obtain ⟨hbl, hf⟩ := bl_el hf
  have he := Option.some.inj hf
  have e0 := he
  exact hrz _ _ _ .boolean rfl (bl_nar hbl) (congrArg (fun z => some (Value.int z)) e0.symm) dX7_isPlace_19 _ _ _ rfl hP hD hS

def fX7_mayStandInLine_34 (Ma : ST) (Fo : ST) (Se : ST) (y1 : Int32) (s0 : Int32) : Option Int32 :=
  dc_b1 (fX1_isAlive y1 Fo) (fun r2 => (if r2 = 0 then some 0 else dc_b1 (fX4_placeOf y1 Se) (fun r5 => (if 0 ≤ r5 then some 0 else (if s0 = 0 then some 1 else some 0)))))
def fX7_mayStandInLine (x1 : Int32) (Ma : ST) (Fo : ST) (Se : ST) : Option Int32 :=
  (if x1 = (Se 0 6) then (if (Se 4 2) = 0 then fX7_mayStandInLine_34 Ma Fo Se x1 1 else fX7_mayStandInLine_34 Ma Fo Se x1 0) else fX7_mayStandInLine_34 Ma Fo Se x1 0)
abbrev rmX7_mayStandInLine : Room := { frames := 2, cells := 0, slots := 0, locals := 42 }
set_option maxRecDepth 100000 in
set_option maxHeartbeats 4000000 in
theorem tX7_mayStandInLine (l : Launch) (D : va_G) (cs : Nat → ClassId) (ama : Nat → Nat) (are : Nat → Nat) (are2 : Nat → Nat) (are3 : Nat → Nat) (ach : Nat → Nat) (ata : Nat → Nat) (asa : Nat → Nat) (af : Nat → Nat) (ac : Nat → Nat) (atr : Nat → Nat) (ase : Nat → Nat) (x1 : Int32) (Ma : ST) (Fo : ST) (Se : ST) (r0 : Int32) (hf : fX7_mayStandInLine x1 Ma Fo Se = some r0) : CG l yX7_mayStandInLine (wsm yX7_mayStandInLine cX7_mayStandInLine 3 (some .boolean)) rmX7_mayStandInLine D cs [.ref (ama 0), .int x1] (some (.int r0)) ((kX7 cs ama (.ref (are 0)) (.ref (are2 0)) (.ref (are3 0)) (.ref (ach 0)) (.ref (ata 0)) (.ref (asa 0)) Ma) ++ ((kX2 cs are (.ref (af 0)) (.ref (ac 0)) (.ref (atr 0)) (.ref (ase 0)) ) ++ ((kX1 cs af  Fo) ++ ((kX4 cs ase (.ref (af 0)) (.ref (ac 0)) (.ref (atr 0)) Se))))) ((kX7 cs ama (.ref (are 0)) (.ref (are2 0)) (.ref (are3 0)) (.ref (ach 0)) (.ref (ata 0)) (.ref (asa 0)) Ma) ++ ((kX2 cs are (.ref (af 0)) (.ref (ac 0)) (.ref (atr 0)) (.ref (ase 0)) ) ++ ((kX1 cs af  Fo) ++ ((kX4 cs ase (.ref (af 0)) (.ref (ac 0)) (.ref (atr 0)) Se))))) := by
  refine CG.intro (by decide) (Nat.le_of_ble_eq_true rfl) ?_
  intro p e s m below meth c A Q hx hb hml hown hu hK hZ hP0 hD0 hS0 hA hri hrz hrl hrv hra ls0 hl0
  have h34 : ∀ (y1 : Int32) (s0 : Int32) (H : Heap) (locs : List Loc) (ls : Array Slot), va_P D vwCl ((kX7 cs ama (.ref (are 0)) (.ref (are2 0)) (.ref (are3 0)) (.ref (ach 0)) (.ref (ata 0)) (.ref (asa 0)) Ma) ++ ((kX2 cs are (.ref (af 0)) (.ref (ac 0)) (.ref (atr 0)) (.ref (ase 0)) ) ++ ((kX1 cs af  Fo) ++ ((kX4 cs ase (.ref (af 0)) (.ref (ac 0)) (.ref (atr 0)) Se))))) H → va_D A ((kX7 cs ama (.ref (are 0)) (.ref (are2 0)) (.ref (are3 0)) (.ref (ach 0)) (.ref (ata 0)) (.ref (asa 0)) Ma) ++ ((kX2 cs are (.ref (af 0)) (.ref (ac 0)) (.ref (atr 0)) (.ref (ase 0)) ) ++ ((kX1 cs af  Fo) ++ ((kX4 cs ase (.ref (af 0)) (.ref (ac 0)) (.ref (atr 0)) Se))))) → va_S A s.heap H locs → lv_has ls 3 [(0, .ref (ama 0)), (1, .int y1)] → fX7_mayStandInLine_34 Ma Fo Se y1 s0 = some r0 → W p l e rmX7_mayStandInLine s m [.ref (ama 0), .int x1].toArray below meth c H locs 0 0 Q (F0 m 34 ls [.int s0]) := by
    intro y1 s0 H locs ls hP hD hS hl hf
    unfold fX7_mayStandInLine_34 at hf
    refine lv_istore_n (lv' := [(2, .int s0), (0, .ref (ama 0)), (1, .int y1)]) hx hb dX7_mayStandInLine_34 rfl hl (by decide) rfl (fun ls hl => ?_)
    refine lv_aload_n hx hb dX7_mayStandInLine_35 rfl (lv_at hl 1 rfl) ?_
    refine va_get (D := D) (ci := 7) (v := .ref (are 0)) (C := RX7) (T := TX7) (N := 8) hx hb hu inX7 hown hK.1 hP 0 rfl rfl 0 (by decide) (hu _ q300) (fun _ h9 => h9) rfl dX7_mayStandInLine_36 ?_
    refine va_get (D := D) (ci := 2) (v := .ref (af 0)) (C := RX2) (T := TX2) (N := 4) hx hb hu inX2 hown hK.1 hP 2 rfl rfl 0 (by decide) (hu _ q196) (fun _ h9 => h9) rfl dX7_mayStandInLine_39 ?_
    refine lv_iload_n hx hb dX7_mayStandInLine_42 rfl (lv_at hl 2 rfl) ?_
    obtain ⟨r2, hg3, hf⟩ := b1_el hf
    refine cc_V (w' := ((kX7 cs ama (.ref (are 0)) (.ref (are2 0)) (.ref (are3 0)) (.ref (ach 0)) (.ref (ata 0)) (.ref (asa 0)) Ma) ++ ((kX2 cs are (.ref (af 0)) (.ref (ac 0)) (.ref (atr 0)) (.ref (ase 0)) ) ++ ((kX1 cs af  Fo) ++ ((kX4 cs ase (.ref (af 0)) (.ref (ac 0)) (.ref (atr 0)) Se)))))) (wr := ((kX7 cs ama (.ref (are 0)) (.ref (are2 0)) (.ref (are3 0)) (.ref (ach 0)) (.ref (ata 0)) (.ref (asa 0)) Ma) ++ ((kX2 cs are (.ref (af 0)) (.ref (ac 0)) (.ref (atr 0)) (.ref (ase 0)) ) ++ ((kX4 cs ase (.ref (af 0)) (.ref (ac 0)) (.ref (atr 0)) Se))))) (st1 := [.int r2]) [.int y1] hx hb hml hown hu (tX1_isAlive l D cs af y1 Fo r2 hg3) q356 q56 q353 q354 q355 pdX1_isAlive ⟨rfl, rfl, Nat.le_of_ble_eq_true rfl, Nat.le_of_ble_eq_true rfl⟩ hK hZ hP hD hS hA [3, 4, 5, 6, 7, 8, 9] [0, 1, 2, 10, 11, 12, 13] [0, 1, 2, 7, 8, 9, 10, 11, 12, 13, 3, 4, 5, 6] rfl rfl rfl rfl rfl rfl rfl rfl rfl rfl hl.1 rfl (Nat.le_of_ble_eq_true rfl) dX7_mayStandInLine_43 rfl (fun H locs hP hD hS => ?_)
    refine lv_if_eq (tgt := 71) hx hb dX7_mayStandInLine_46 (by decide) (fun hc4 => ?_) (fun hc4 => ?_)
    · have hf := ip_el hc4 hf
      refine lv_iconst (v := 0) hx hb dX7_mayStandInLine_71 (by decide) ?_
      have he := Option.some.inj hf
      have e0 := he
      exact hrz _ _ _ .boolean rfl rfl (congrArg (fun z => some (Value.int z)) e0.symm) dX7_mayStandInLine_72 _ _ _ rfl hP hD hS
    · have hf := in_el hc4 hf
      refine lv_aload_n hx hb dX7_mayStandInLine_49 rfl (lv_at hl 1 rfl) ?_
      refine va_get (D := D) (ci := 7) (v := .ref (are 0)) (C := RX7) (T := TX7) (N := 8) hx hb hu inX7 hown hK.1 hP 0 rfl rfl 0 (by decide) (hu _ q300) (fun _ h9 => h9) rfl dX7_mayStandInLine_50 ?_
      refine va_get (D := D) (ci := 2) (v := .ref (ase 0)) (C := RX2) (T := TX2) (N := 4) hx hb hu inX2 hown hK.1 hP 2 rfl rfl 3 (by decide) (hu _ q204) (fun _ h9 => h9) rfl dX7_mayStandInLine_53 ?_
      refine lv_iload_n hx hb dX7_mayStandInLine_56 rfl (lv_at hl 2 rfl) ?_
      obtain ⟨r5, hg6, hf⟩ := b1_el hf
      refine cc_V (w' := ((kX7 cs ama (.ref (are 0)) (.ref (are2 0)) (.ref (are3 0)) (.ref (ach 0)) (.ref (ata 0)) (.ref (asa 0)) Ma) ++ ((kX2 cs are (.ref (af 0)) (.ref (ac 0)) (.ref (atr 0)) (.ref (ase 0)) ) ++ ((kX1 cs af  Fo) ++ ((kX4 cs ase (.ref (af 0)) (.ref (ac 0)) (.ref (atr 0)) Se)))))) (wr := ((kX7 cs ama (.ref (are 0)) (.ref (are2 0)) (.ref (are3 0)) (.ref (ach 0)) (.ref (ata 0)) (.ref (asa 0)) Ma) ++ ((kX2 cs are (.ref (af 0)) (.ref (ac 0)) (.ref (atr 0)) (.ref (ase 0)) ) ++ ((kX1 cs af  Fo))))) (st1 := [.int r5]) [.int y1] hx hb hml hown hu (tX4_placeOf l D cs ase (.ref (af 0)) (.ref (ac 0)) (.ref (atr 0)) y1 Se r5 hg6) q367 q58 q364 q365 q366 pdX4_placeOf ⟨rfl, rfl, Nat.le_of_ble_eq_true rfl, Nat.le_of_ble_eq_true rfl⟩ hK hZ hP hD hS hA [10, 11, 12, 13] [0, 1, 2, 3, 4, 5, 6, 7, 8, 9] [0, 1, 2, 3, 4, 5, 6, 7, 8, 9, 10, 11, 12, 13] rfl rfl rfl rfl rfl rfl rfl rfl rfl rfl hl.1 rfl (Nat.le_of_ble_eq_true rfl) dX7_mayStandInLine_57 rfl (fun H locs hP hD hS => ?_)
      refine lv_if_ge (tgt := 71) hx hb dX7_mayStandInLine_60 (by decide) (fun hc7 => ?_) (fun hc7 => ?_)
      · have hf := ip_el hc7 hf
        refine lv_iconst (v := 0) hx hb dX7_mayStandInLine_71 (by decide) ?_
        have he := Option.some.inj hf
        have e0 := he
        exact hrz _ _ _ .boolean rfl rfl (congrArg (fun z => some (Value.int z)) e0.symm) dX7_mayStandInLine_72 _ _ _ rfl hP hD hS
      · have hf := in_el hc7 hf
        refine lv_iload_n hx hb dX7_mayStandInLine_63 rfl (lv_at hl 0 rfl) ?_
        refine lv_if_ne (tgt := 71) hx hb dX7_mayStandInLine_64 (by decide) (fun hc8 => ?_) (fun hc8 => ?_)
        · have hf := in_el hc8 hf
          refine lv_iconst (v := 0) hx hb dX7_mayStandInLine_71 (by decide) ?_
          have he := Option.some.inj hf
          have e0 := he
          exact hrz _ _ _ .boolean rfl rfl (congrArg (fun z => some (Value.int z)) e0.symm) dX7_mayStandInLine_72 _ _ _ rfl hP hD hS
        · have hf := ip_el hc8 hf
          refine lv_iconst (v := 1) hx hb dX7_mayStandInLine_67 (by decide) ?_
          refine lv_goto (tgt := 72) hx hb dX7_mayStandInLine_68 (by decide) ?_
          have he := Option.some.inj hf
          have e0 := he
          exact hrz _ _ _ .boolean rfl rfl (congrArg (fun z => some (Value.int z)) e0.symm) dX7_mayStandInLine_72 _ _ _ rfl hP hD hS
  have hl : lv_has ls0 3 [(0, .ref (ama 0)), (1, .int x1)] := hl0
  have hP := hP0
  have hD := hD0
  have hS := hS0
  unfold fX7_mayStandInLine at hf
  refine lv_iload_n hx hb dX7_mayStandInLine_0 rfl (lv_at hl 1 rfl) ?_
  refine lv_aload_n hx hb dX7_mayStandInLine_1 rfl (lv_at hl 0 rfl) ?_
  refine va_get (D := D) (ci := 7) (v := .ref (are 0)) (C := RX7) (T := TX7) (N := 8) hx hb hu inX7 hown hK.1 hP 0 rfl rfl 0 (by decide) (hu _ q300) (fun _ h9 => h9) rfl dX7_mayStandInLine_2 ?_
  refine va_get (D := D) (ci := 2) (v := .ref (ase 0)) (C := RX2) (T := TX2) (N := 4) hx hb hu inX2 hown hK.1 hP 2 rfl rfl 3 (by decide) (hu _ q204) (fun _ h9 => h9) rfl dX7_mayStandInLine_5 ?_
  refine va_get (D := D) (ci := 4) (v := .int (Se 0 6)) (C := RX4) (T := TX4) (N := 10) hx hb hu inX4 hown hK.1 hP 10 rfl rfl 6 (by decide) (hu _ q168) (fun _ h9 => h9) rfl dX7_mayStandInLine_8 ?_
  refine lv_icmp_ne (tgt := 33) hx hb dX7_mayStandInLine_11 (by decide) (fun hc1 => ?_) (fun hc1 => ?_)
  · have hf := in_el hc1 hf
    refine lv_iconst (v := 0) hx hb dX7_mayStandInLine_33 (by decide) ?_
    exact h34 x1 0 _ _ _ hP hD hS (lv_sub hl [0, 1] rfl) hf
  · have hf := ip_el hc1 hf
    refine lv_aload_n hx hb dX7_mayStandInLine_14 rfl (lv_at hl 0 rfl) ?_
    refine va_get (D := D) (ci := 7) (v := .ref (are 0)) (C := RX7) (T := TX7) (N := 8) hx hb hu inX7 hown hK.1 hP 0 rfl rfl 0 (by decide) (hu _ q300) (fun _ h9 => h9) rfl dX7_mayStandInLine_15 ?_
    refine va_get (D := D) (ci := 2) (v := .ref (ase 0)) (C := RX2) (T := TX2) (N := 4) hx hb hu inX2 hown hK.1 hP 2 rfl rfl 3 (by decide) (hu _ q204) (fun _ h9 => h9) rfl dX7_mayStandInLine_18 ?_
    refine va_get (D := D) (ci := 4) (v := .ref (ase 4)) (C := RX4) (T := TX4) (N := 10) hx hb hu inX4 hown hK.1 hP 10 rfl rfl 3 (by decide) (hu _ q162) (fun _ h9 => h9) rfl dX7_mayStandInLine_21 ?_
    refine lv_iconst (v := 2) hx hb dX7_mayStandInLine_24 (by decide) ?_
    refine ia_lit hx hb hK hP 11 2 rfl (by decide) dX7_mayStandInLine_25 ?_
    refine lv_if_ne (tgt := 33) hx hb dX7_mayStandInLine_26 (by decide) (fun hc9 => ?_) (fun hc9 => ?_)
    · have hf := in_el hc9 hf
      refine lv_iconst (v := 0) hx hb dX7_mayStandInLine_33 (by decide) ?_
      exact h34 x1 0 _ _ _ hP hD hS (lv_sub hl [0, 1] rfl) hf
    · have hf := ip_el hc9 hf
      refine lv_iconst (v := 1) hx hb dX7_mayStandInLine_29 (by decide) ?_
      refine lv_goto (tgt := 34) hx hb dX7_mayStandInLine_30 (by decide) ?_
      exact h34 x1 1 _ _ _ hP hD hS (lv_sub hl [0, 1] rfl) hf

def fX7_person_28 (Ma : ST) (Fo : ST) : Option (Int32 × ST × ST) :=
  dc_b2 (fX7_finding (-1000000001) Ma) (fun r4 Ma_5 => some (r4, Ma_5, Fo))
def fX7_person (x1 : Int32) (x2 : Int32) (x3 : Int32) (Ma : ST) (Fo : ST) : Option (Int32 × ST × ST) :=
  dc_b1 (fX7_within x1 0 6) (fun r1 => (if r1 = 0 then fX7_person_28 Ma Fo else dc_b1 (fX7_within x2 20 99) (fun r7 => (if r7 = 0 then fX7_person_28 Ma Fo else dc_b1 (fX7_isSort x3) (fun r10 => (if r10 = 0 then fX7_person_28 Ma Fo else (if (Fo 0 0) < 10 then dc_b2 (fX1_join x1 x2 x3 Fo) (fun r14 Fo_15 => some (r14, Ma, Fo_15)) else dc_b2 (fX7_finding (-1000000002) Ma) (fun r17 Ma_18 => some (r17, Ma_18, Fo)))))))))
abbrev rmX7_person : Room := { frames := 2, cells := 0, slots := 0, locals := 42 }
set_option maxRecDepth 100000 in
set_option maxHeartbeats 4000000 in
theorem tX7_person (l : Launch) (D : va_G) (cs : Nat → ClassId) (ama : Nat → Nat) (are : Nat → Nat) (are2 : Nat → Nat) (are3 : Nat → Nat) (ach : Nat → Nat) (ata : Nat → Nat) (asa : Nat → Nat) (af : Nat → Nat) (ac : Nat → Nat) (atr : Nat → Nat) (ase : Nat → Nat) (x1 : Int32) (x2 : Int32) (x3 : Int32) (Ma : ST) (Fo : ST) (r0 : Int32) (Maz : ST) (Foz : ST) (hf : fX7_person x1 x2 x3 Ma Fo = some (r0, Maz, Foz)) : CG l yX7_person (wsm yX7_person cX7_person 4 (some .int)) rmX7_person D cs [.ref (ama 0), .int x1, .int x2, .int x3] (some (.int r0)) ((kX7 cs ama (.ref (are 0)) (.ref (are2 0)) (.ref (are3 0)) (.ref (ach 0)) (.ref (ata 0)) (.ref (asa 0)) Ma) ++ ((kX2 cs are (.ref (af 0)) (.ref (ac 0)) (.ref (atr 0)) (.ref (ase 0)) ) ++ ((kX1 cs af  Fo)))) ((kX7 cs ama (.ref (are 0)) (.ref (are2 0)) (.ref (are3 0)) (.ref (ach 0)) (.ref (ata 0)) (.ref (asa 0)) Maz) ++ ((kX2 cs are (.ref (af 0)) (.ref (ac 0)) (.ref (atr 0)) (.ref (ase 0)) ) ++ ((kX1 cs af  Foz)))) := by
  refine CG.intro (by decide) (Nat.le_of_ble_eq_true rfl) ?_
  intro p e s m below meth c A Q hx hb hml hown hu hK hZ hP0 hD0 hS0 hA hri hrz hrl hrv hra ls0 hl0
  have h28 : ∀ (Ma : ST) (Fo : ST) (H : Heap) (locs : List Loc) (ls : Array Slot), va_P D vwCl ((kX7 cs ama (.ref (are 0)) (.ref (are2 0)) (.ref (are3 0)) (.ref (ach 0)) (.ref (ata 0)) (.ref (asa 0)) Ma) ++ ((kX2 cs are (.ref (af 0)) (.ref (ac 0)) (.ref (atr 0)) (.ref (ase 0)) ) ++ ((kX1 cs af  Fo)))) H → va_D A ((kX7 cs ama (.ref (are 0)) (.ref (are2 0)) (.ref (are3 0)) (.ref (ach 0)) (.ref (ata 0)) (.ref (asa 0)) Ma) ++ ((kX2 cs are (.ref (af 0)) (.ref (ac 0)) (.ref (atr 0)) (.ref (ase 0)) ) ++ ((kX1 cs af  Fo)))) → va_S A s.heap H locs → lv_has ls 4 [(0, .ref (ama 0))] → fX7_person_28 Ma Fo = some (r0, Maz, Foz) → W p l e rmX7_person s m [.ref (ama 0), .int x1, .int x2, .int x3].toArray below meth c H locs 0 0 Q (F0 m 28 ls []) := by
    intro Ma Fo H locs ls hP hD hS hl hf
    unfold fX7_person_28 at hf
    refine lv_aload_n hx hb dX7_person_28 rfl (lv_at hl 0 rfl) ?_
    refine lv_ldc (v := (-1000000001)) hx hb hown (hu _ q335) dX7_person_29 ?_
    obtain ⟨r4, Ma_5, hg6, hf⟩ := b2_el hf
    refine cc_V (w' := ((kX7 cs ama (.ref (are 0)) (.ref (are2 0)) (.ref (are3 0)) (.ref (ach 0)) (.ref (ata 0)) (.ref (asa 0)) Ma_5) ++ ((kX2 cs are (.ref (af 0)) (.ref (ac 0)) (.ref (atr 0)) (.ref (ase 0)) ) ++ ((kX1 cs af  Fo))))) (wr := ((kX2 cs are (.ref (af 0)) (.ref (ac 0)) (.ref (atr 0)) (.ref (ase 0)) ) ++ ((kX1 cs af  Fo)))) (st1 := [.int r4]) [.int (-1000000001)] hx hb hml hown hu (tX7_finding l D cs ama are are2 are3 ach ata asa (-1000000001) Ma r4 Ma_5 hg6) q339 q54 q336 q338 q0 pdX7_finding ⟨rfl, rfl, Nat.le_of_ble_eq_true rfl, Nat.le_of_ble_eq_true rfl⟩ hK hZ hP hD hS hA [0, 1] [2, 3, 4, 5, 6, 7, 8, 9] [8, 9, 0, 1, 2, 3, 4, 5, 6, 7] rfl rfl rfl rfl rfl rfl rfl rfl rfl rfl hl.1 rfl (Nat.le_of_ble_eq_true rfl) dX7_person_31 rfl (fun H locs hP hD hS => ?_)
    have he := Option.some.inj hf
    obtain ⟨e0, ht0⟩ := Prod.mk.inj he
    obtain ⟨e1, e2⟩ := Prod.mk.inj ht0
    exact hri _ _ _ rfl (congrArg (fun z => some (Value.int z)) e0.symm) dX7_person_34 _ _ _ (by rw [e1, e2]) hP hD hS
  have hl : lv_has ls0 4 [(0, .ref (ama 0)), (1, .int x1), (2, .int x2), (3, .int x3)] := hl0
  have hP := hP0
  have hD := hD0
  have hS := hS0
  unfold fX7_person at hf
  refine lv_iload_n hx hb dX7_person_0 rfl (lv_at hl 1 rfl) ?_
  refine lv_iconst (v := 0) hx hb dX7_person_1 (by decide) ?_
  refine lv_bipush (v := 6) hx hb dX7_person_2 (by decide) ?_
  obtain ⟨r1, hg2, hf⟩ := b1_el hf
  refine cc_S0 (st1 := [.int r1]) [.int x1, .int 0, .int 6] hx hb hml hown hu (tX7_within l D cs x1 0 6 r1 hg2) q331 q54 q329 q330 pdX7_within ⟨rfl, rfl, Nat.le_of_ble_eq_true rfl, Nat.le_of_ble_eq_true rfl⟩ hK hZ hP hD hS hA rfl hl.1 rfl (Nat.le_of_ble_eq_true rfl) dX7_person_4 rfl (fun H locs hP hD hS => ?_)
  refine lv_if_eq (tgt := 28) hx hb dX7_person_7 (by decide) (fun hc3 => ?_) (fun hc3 => ?_)
  · have hf := ip_el hc3 hf
    exact h28 Ma Fo _ _ _ hP hD hS (lv_sub hl [0] rfl) hf
  · have hf := in_el hc3 hf
    refine lv_iload_n hx hb dX7_person_10 rfl (lv_at hl 2 rfl) ?_
    refine lv_bipush (v := 20) hx hb dX7_person_11 (by decide) ?_
    refine lv_bipush (v := 99) hx hb dX7_person_13 (by decide) ?_
    obtain ⟨r7, hg8, hf⟩ := b1_el hf
    refine cc_S0 (st1 := [.int r7]) [.int x2, .int 20, .int 99] hx hb hml hown hu (tX7_within l D cs x2 20 99 r7 hg8) q331 q54 q329 q330 pdX7_within ⟨rfl, rfl, Nat.le_of_ble_eq_true rfl, Nat.le_of_ble_eq_true rfl⟩ hK hZ hP hD hS hA rfl hl.1 rfl (Nat.le_of_ble_eq_true rfl) dX7_person_15 rfl (fun H locs hP hD hS => ?_)
    refine lv_if_eq (tgt := 28) hx hb dX7_person_18 (by decide) (fun hc9 => ?_) (fun hc9 => ?_)
    · have hf := ip_el hc9 hf
      exact h28 Ma Fo _ _ _ hP hD hS (lv_sub hl [0] rfl) hf
    · have hf := in_el hc9 hf
      refine lv_iload_n hx hb dX7_person_21 rfl (lv_at hl 3 rfl) ?_
      obtain ⟨r10, hg11, hf⟩ := b1_el hf
      refine cc_S0 (st1 := [.int r10]) [.int x3] hx hb hml hown hu (tX7_isSort l D cs x3 r10 hg11) q334 q54 q332 q333 pdX7_isSort ⟨rfl, rfl, Nat.le_of_ble_eq_true rfl, Nat.le_of_ble_eq_true rfl⟩ hK hZ hP hD hS hA rfl hl.1 rfl (Nat.le_of_ble_eq_true rfl) dX7_person_22 rfl (fun H locs hP hD hS => ?_)
      refine lv_if_ne (tgt := 35) hx hb dX7_person_25 (by decide) (fun hc12 => ?_) (fun hc12 => ?_)
      · have hf := in_el hc12 hf
        refine lv_aload_n hx hb dX7_person_35 rfl (lv_at hl 0 rfl) ?_
        refine va_get (D := D) (ci := 7) (v := .ref (are 0)) (C := RX7) (T := TX7) (N := 8) hx hb hu inX7 hown hK.1 hP 0 rfl rfl 0 (by decide) (hu _ q300) (fun _ h9 => h9) rfl dX7_person_36 ?_
        refine va_get (D := D) (ci := 2) (v := .ref (af 0)) (C := RX2) (T := TX2) (N := 4) hx hb hu inX2 hown hK.1 hP 2 rfl rfl 0 (by decide) (hu _ q196) (fun _ h9 => h9) rfl dX7_person_39 ?_
        refine va_get (D := D) (ci := 1) (v := .int (Fo 0 0)) (C := RX1) (T := TX1) (N := 9) hx hb hu inX1 hown hK.1 hP 3 rfl rfl 0 (by decide) (hu _ q93) (fun _ h9 => h9) rfl dX7_person_42 ?_
        refine lv_bipush (v := 10) hx hb dX7_person_45 (by decide) ?_
        refine lv_icmp_lt (tgt := 57) hx hb dX7_person_47 (by decide) (fun hc13 => ?_) (fun hc13 => ?_)
        · have hf := ip_el hc13 hf
          refine lv_aload_n hx hb dX7_person_57 rfl (lv_at hl 0 rfl) ?_
          refine va_get (D := D) (ci := 7) (v := .ref (are 0)) (C := RX7) (T := TX7) (N := 8) hx hb hu inX7 hown hK.1 hP 0 rfl rfl 0 (by decide) (hu _ q300) (fun _ h9 => h9) rfl dX7_person_58 ?_
          refine va_get (D := D) (ci := 2) (v := .ref (af 0)) (C := RX2) (T := TX2) (N := 4) hx hb hu inX2 hown hK.1 hP 2 rfl rfl 0 (by decide) (hu _ q196) (fun _ h9 => h9) rfl dX7_person_61 ?_
          refine lv_iload_n hx hb dX7_person_64 rfl (lv_at hl 1 rfl) ?_
          refine lv_iload_n hx hb dX7_person_65 rfl (lv_at hl 2 rfl) ?_
          refine lv_iload_n hx hb dX7_person_66 rfl (lv_at hl 3 rfl) ?_
          obtain ⟨r14, Fo_15, hg16, hf⟩ := b2_el hf
          refine cc_V (w' := ((kX7 cs ama (.ref (are 0)) (.ref (are2 0)) (.ref (are3 0)) (.ref (ach 0)) (.ref (ata 0)) (.ref (asa 0)) Ma) ++ ((kX2 cs are (.ref (af 0)) (.ref (ac 0)) (.ref (atr 0)) (.ref (ase 0)) ) ++ ((kX1 cs af  Fo_15))))) (wr := ((kX7 cs ama (.ref (are 0)) (.ref (are2 0)) (.ref (are3 0)) (.ref (ach 0)) (.ref (ata 0)) (.ref (asa 0)) Ma) ++ ((kX2 cs are (.ref (af 0)) (.ref (ac 0)) (.ref (atr 0)) (.ref (ase 0)) )))) (st1 := [.int r14]) [.int x1, .int x2, .int x3] hx hb hml hown hu (tX1_join l D cs af x1 x2 x3 Fo r14 Fo_15 hg16) q344 q56 q341 q342 q343 pdX1_join ⟨rfl, rfl, Nat.le_of_ble_eq_true rfl, Nat.le_of_ble_eq_true rfl⟩ hK hZ hP hD hS hA [3, 4, 5, 6, 7, 8, 9] [0, 1, 2] [0, 1, 2, 3, 4, 5, 6, 7, 8, 9] rfl rfl rfl rfl rfl rfl rfl rfl rfl rfl hl.1 rfl (Nat.le_of_ble_eq_true rfl) dX7_person_67 rfl (fun H locs hP hD hS => ?_)
          have he := Option.some.inj hf
          obtain ⟨e0, ht0⟩ := Prod.mk.inj he
          obtain ⟨e1, e2⟩ := Prod.mk.inj ht0
          exact hri _ _ _ rfl (congrArg (fun z => some (Value.int z)) e0.symm) dX7_person_70 _ _ _ (by rw [e1, e2]) hP hD hS
        · have hf := in_el hc13 hf
          refine lv_aload_n hx hb dX7_person_50 rfl (lv_at hl 0 rfl) ?_
          refine lv_ldc (v := (-1000000002)) hx hb hown (hu _ q340) dX7_person_51 ?_
          obtain ⟨r17, Ma_18, hg19, hf⟩ := b2_el hf
          refine cc_V (w' := ((kX7 cs ama (.ref (are 0)) (.ref (are2 0)) (.ref (are3 0)) (.ref (ach 0)) (.ref (ata 0)) (.ref (asa 0)) Ma_18) ++ ((kX2 cs are (.ref (af 0)) (.ref (ac 0)) (.ref (atr 0)) (.ref (ase 0)) ) ++ ((kX1 cs af  Fo))))) (wr := ((kX2 cs are (.ref (af 0)) (.ref (ac 0)) (.ref (atr 0)) (.ref (ase 0)) ) ++ ((kX1 cs af  Fo)))) (st1 := [.int r17]) [.int (-1000000002)] hx hb hml hown hu (tX7_finding l D cs ama are are2 are3 ach ata asa (-1000000002) Ma r17 Ma_18 hg19) q339 q54 q336 q338 q0 pdX7_finding ⟨rfl, rfl, Nat.le_of_ble_eq_true rfl, Nat.le_of_ble_eq_true rfl⟩ hK hZ hP hD hS hA [0, 1] [2, 3, 4, 5, 6, 7, 8, 9] [8, 9, 0, 1, 2, 3, 4, 5, 6, 7] rfl rfl rfl rfl rfl rfl rfl rfl rfl rfl hl.1 rfl (Nat.le_of_ble_eq_true rfl) dX7_person_53 rfl (fun H locs hP hD hS => ?_)
          have he := Option.some.inj hf
          obtain ⟨e0, ht0⟩ := Prod.mk.inj he
          obtain ⟨e1, e2⟩ := Prod.mk.inj ht0
          exact hri _ _ _ rfl (congrArg (fun z => some (Value.int z)) e0.symm) dX7_person_56 _ _ _ (by rw [e1, e2]) hP hD hS
      · have hf := ip_el hc12 hf
        exact h28 Ma Fo _ _ _ hP hD hS (lv_sub hl [0] rfl) hf

def fX7_of_18 (Fo : ST) (Se : ST) (Ma : ST) (Sc : ST) (Tr : ST) : Option (Int32 × ST × ST × ST) :=
  dc_b2 (fX7_finding (-1000000001) Ma) (fun r4 Ma_5 => some (r4, Ma_5, Sc, Tr))
def fX7_of (x1 : Int32) (x2 : Int32) (Ma : ST) (Fo : ST) (Sc : ST) (Se : ST) (Tr : ST) : Option (Int32 × ST × ST × ST) :=
  dc_b1 (fX7_isOne x1 Ma Fo) (fun r1 => (if r1 = 0 then fX7_of_18 Fo Se Ma Sc Tr else dc_b1 (fX7_within x2 0 7) (fun r7 => (if r7 = 0 then fX7_of_18 Fo Se Ma Sc Tr else (if x2 = 4 then dc_ck x1 10 (some ((Se 6 (Int32.toNatClampNeg x1)), Ma, Sc, Tr)) else if x2 = 5 then dc_b1 (fX1_isAlive x1 Fo) (fun r13 => (if r13 = 0 then some (1, Ma, Sc, Tr) else some (0, Ma, Sc, Tr))) else if x2 = 6 then dc_b1 (fX4_placeOf x1 Se) (fun r17 => some (r17, Ma, Sc, Tr)) else if x2 = 7 then dc_b3 (fX4_choice x1 1 Se Fo Sc Tr) (fun r20 Sc_21 Tr_22 => some (r20, Ma, Sc_21, Tr_22)) else dc_b1 (fX1_trait x2 Fo) (fun r24 => dc_ck x1 10 (some ((Fo r24 (Int32.toNatClampNeg x1)), Ma, Sc, Tr))))))))
abbrev rmX7_of : Room := { frames := 9, cells := 0, slots := 0, locals := 232 }
set_option maxRecDepth 100000 in
set_option maxHeartbeats 4000000 in
theorem tX7_of (l : Launch) (D : va_G) (cs : Nat → ClassId) (ama : Nat → Nat) (are : Nat → Nat) (are2 : Nat → Nat) (are3 : Nat → Nat) (ach : Nat → Nat) (ata : Nat → Nat) (asa : Nat → Nat) (af : Nat → Nat) (ac : Nat → Nat) (atr : Nat → Nat) (ase : Nat → Nat) (x1 : Int32) (x2 : Int32) (Ma : ST) (Fo : ST) (Sc : ST) (Se : ST) (Tr : ST) (r0 : Int32) (Maz : ST) (Scz : ST) (Trz : ST) (hf : fX7_of x1 x2 Ma Fo Sc Se Tr = some (r0, Maz, Scz, Trz)) : CG l yX7_of (wsm yX7_of cX7_of 3 (some .int)) rmX7_of D cs [.ref (ama 0), .int x1, .int x2] (some (.int r0)) ((kX7 cs ama (.ref (are 0)) (.ref (are2 0)) (.ref (are3 0)) (.ref (ach 0)) (.ref (ata 0)) (.ref (asa 0)) Ma) ++ ((kX2 cs are (.ref (af 0)) (.ref (ac 0)) (.ref (atr 0)) (.ref (ase 0)) ) ++ ((kX1 cs af  Fo) ++ ((kX3 cs ac  Sc) ++ ((kX4 cs ase (.ref (af 0)) (.ref (ac 0)) (.ref (atr 0)) Se) ++ ((kX4 cs atr (.ref (af 0)) (.ref (ac 0)) .null Tr))))))) ((kX7 cs ama (.ref (are 0)) (.ref (are2 0)) (.ref (are3 0)) (.ref (ach 0)) (.ref (ata 0)) (.ref (asa 0)) Maz) ++ ((kX2 cs are (.ref (af 0)) (.ref (ac 0)) (.ref (atr 0)) (.ref (ase 0)) ) ++ ((kX1 cs af  Fo) ++ ((kX3 cs ac  Scz) ++ ((kX4 cs ase (.ref (af 0)) (.ref (ac 0)) (.ref (atr 0)) Se) ++ ((kX4 cs atr (.ref (af 0)) (.ref (ac 0)) .null Trz))))))) := by
  refine CG.intro (by decide) (Nat.le_of_ble_eq_true rfl) ?_
  intro p e s m below meth c A Q hx hb hml hown hu hK hZ hP0 hD0 hS0 hA hri hrz hrl hrv hra ls0 hl0
  have h18 : ∀ (Ma : ST) (Sc : ST) (Tr : ST) (H : Heap) (locs : List Loc) (ls : Array Slot), va_P D vwCl ((kX7 cs ama (.ref (are 0)) (.ref (are2 0)) (.ref (are3 0)) (.ref (ach 0)) (.ref (ata 0)) (.ref (asa 0)) Ma) ++ ((kX2 cs are (.ref (af 0)) (.ref (ac 0)) (.ref (atr 0)) (.ref (ase 0)) ) ++ ((kX1 cs af  Fo) ++ ((kX3 cs ac  Sc) ++ ((kX4 cs ase (.ref (af 0)) (.ref (ac 0)) (.ref (atr 0)) Se) ++ ((kX4 cs atr (.ref (af 0)) (.ref (ac 0)) .null Tr))))))) H → va_D A ((kX7 cs ama (.ref (are 0)) (.ref (are2 0)) (.ref (are3 0)) (.ref (ach 0)) (.ref (ata 0)) (.ref (asa 0)) Ma) ++ ((kX2 cs are (.ref (af 0)) (.ref (ac 0)) (.ref (atr 0)) (.ref (ase 0)) ) ++ ((kX1 cs af  Fo) ++ ((kX3 cs ac  Sc) ++ ((kX4 cs ase (.ref (af 0)) (.ref (ac 0)) (.ref (atr 0)) Se) ++ ((kX4 cs atr (.ref (af 0)) (.ref (ac 0)) .null Tr))))))) → va_S A s.heap H locs → lv_has ls 3 [(0, .ref (ama 0))] → fX7_of_18 Fo Se Ma Sc Tr = some (r0, Maz, Scz, Trz) → W p l e rmX7_of s m [.ref (ama 0), .int x1, .int x2].toArray below meth c H locs 0 0 Q (F0 m 18 ls []) := by
    intro Ma Sc Tr H locs ls hP hD hS hl hf
    unfold fX7_of_18 at hf
    refine lv_aload_n hx hb dX7_of_18 rfl (lv_at hl 0 rfl) ?_
    refine lv_ldc (v := (-1000000001)) hx hb hown (hu _ q335) dX7_of_19 ?_
    obtain ⟨r4, Ma_5, hg6, hf⟩ := b2_el hf
    refine cc_V (w' := ((kX7 cs ama (.ref (are 0)) (.ref (are2 0)) (.ref (are3 0)) (.ref (ach 0)) (.ref (ata 0)) (.ref (asa 0)) Ma_5) ++ ((kX2 cs are (.ref (af 0)) (.ref (ac 0)) (.ref (atr 0)) (.ref (ase 0)) ) ++ ((kX1 cs af  Fo) ++ ((kX3 cs ac  Sc) ++ ((kX4 cs ase (.ref (af 0)) (.ref (ac 0)) (.ref (atr 0)) Se) ++ ((kX4 cs atr (.ref (af 0)) (.ref (ac 0)) .null Tr)))))))) (wr := ((kX2 cs are (.ref (af 0)) (.ref (ac 0)) (.ref (atr 0)) (.ref (ase 0)) ) ++ ((kX1 cs af  Fo) ++ ((kX3 cs ac  Sc) ++ ((kX4 cs ase (.ref (af 0)) (.ref (ac 0)) (.ref (atr 0)) Se) ++ ((kX4 cs atr (.ref (af 0)) (.ref (ac 0)) .null Tr))))))) (st1 := [.int r4]) [.int (-1000000001)] hx hb hml hown hu (tX7_finding l D cs ama are are2 are3 ach ata asa (-1000000001) Ma r4 Ma_5 hg6) q339 q54 q336 q338 q0 pdX7_finding ⟨rfl, rfl, Nat.le_of_ble_eq_true rfl, Nat.le_of_ble_eq_true rfl⟩ hK hZ hP hD hS hA [0, 1] [2, 3, 4, 5, 6, 7, 8, 9, 10, 11, 12, 13, 14, 15, 16, 17, 18, 19, 20] [19, 20, 0, 1, 2, 3, 4, 5, 6, 7, 8, 9, 10, 11, 12, 13, 14, 15, 16, 17, 18] rfl rfl rfl rfl rfl rfl rfl rfl rfl rfl hl.1 rfl (Nat.le_of_ble_eq_true rfl) dX7_of_21 rfl (fun H locs hP hD hS => ?_)
    have he := Option.some.inj hf
    obtain ⟨e0, ht0⟩ := Prod.mk.inj he
    obtain ⟨e1, ht1⟩ := Prod.mk.inj ht0
    obtain ⟨e2, e3⟩ := Prod.mk.inj ht1
    exact hri _ _ _ rfl (congrArg (fun z => some (Value.int z)) e0.symm) dX7_of_24 _ _ _ (by rw [e1, e2, e3]) hP hD hS
  have hl : lv_has ls0 3 [(0, .ref (ama 0)), (1, .int x1), (2, .int x2)] := hl0
  have hP := hP0
  have hD := hD0
  have hS := hS0
  unfold fX7_of at hf
  refine lv_aload_n hx hb dX7_of_0 rfl (lv_at hl 0 rfl) ?_
  refine lv_iload_n hx hb dX7_of_1 rfl (lv_at hl 1 rfl) ?_
  obtain ⟨r1, hg2, hf⟩ := b1_el hf
  refine cc_V (w' := ((kX7 cs ama (.ref (are 0)) (.ref (are2 0)) (.ref (are3 0)) (.ref (ach 0)) (.ref (ata 0)) (.ref (asa 0)) Ma) ++ ((kX2 cs are (.ref (af 0)) (.ref (ac 0)) (.ref (atr 0)) (.ref (ase 0)) ) ++ ((kX1 cs af  Fo) ++ ((kX3 cs ac  Sc) ++ ((kX4 cs ase (.ref (af 0)) (.ref (ac 0)) (.ref (atr 0)) Se) ++ ((kX4 cs atr (.ref (af 0)) (.ref (ac 0)) .null Tr)))))))) (wr := ((kX3 cs ac  Sc) ++ ((kX4 cs ase (.ref (af 0)) (.ref (ac 0)) (.ref (atr 0)) Se) ++ ((kX4 cs atr (.ref (af 0)) (.ref (ac 0)) .null Tr))))) (st1 := [.int r1]) [.int x1] hx hb hml hown hu (tX7_isOne l D cs ama are are2 are3 ach ata asa af ac atr ase x1 Ma Fo r1 hg2) q352 q54 q349 q351 q1 pdX7_isOne ⟨rfl, rfl, Nat.le_of_ble_eq_true rfl, Nat.le_of_ble_eq_true rfl⟩ hK hZ hP hD hS hA [0, 1, 2, 3, 4, 5, 6, 7, 8, 9] [10, 11, 12, 13, 14, 15, 16, 17, 18, 19, 20] [11, 12, 13, 14, 15, 16, 17, 18, 19, 20, 0, 1, 2, 3, 4, 5, 6, 7, 8, 9, 10] rfl rfl rfl rfl rfl rfl rfl rfl rfl rfl hl.1 rfl (Nat.le_of_ble_eq_true rfl) dX7_of_2 rfl (fun H locs hP hD hS => ?_)
  refine lv_if_eq (tgt := 18) hx hb dX7_of_5 (by decide) (fun hc3 => ?_) (fun hc3 => ?_)
  · have hf := ip_el hc3 hf
    exact h18 Ma Sc Tr _ _ _ hP hD hS (lv_sub hl [0] rfl) hf
  · have hf := in_el hc3 hf
    refine lv_iload_n hx hb dX7_of_8 rfl (lv_at hl 2 rfl) ?_
    refine lv_iconst (v := 0) hx hb dX7_of_9 (by decide) ?_
    refine lv_bipush (v := 7) hx hb dX7_of_10 (by decide) ?_
    obtain ⟨r7, hg8, hf⟩ := b1_el hf
    refine cc_S0 (st1 := [.int r7]) [.int x2, .int 0, .int 7] hx hb hml hown hu (tX7_within l D cs x2 0 7 r7 hg8) q331 q54 q329 q330 pdX7_within ⟨rfl, rfl, Nat.le_of_ble_eq_true rfl, Nat.le_of_ble_eq_true rfl⟩ hK hZ hP hD hS hA rfl hl.1 rfl (Nat.le_of_ble_eq_true rfl) dX7_of_12 rfl (fun H locs hP hD hS => ?_)
    refine lv_if_ne (tgt := 25) hx hb dX7_of_15 (by decide) (fun hc9 => ?_) (fun hc9 => ?_)
    · have hf := in_el hc9 hf
      refine lv_iload_n hx hb dX7_of_25 rfl (lv_at hl 2 rfl) ?_
      by_cases hc10 : x2 = 4
      · have hf := ip_el hc10 hf
        refine lv_tableIn (off := 30) (tgt := 56) hx hb dX7_of_26 (by rw [hc10]; decide) (by rw [hc10]; decide) (by rw [hc10]; decide) (by decide) ?_
        refine lv_aload_n hx hb dX7_of_56 rfl (lv_at hl 0 rfl) ?_
        refine va_get (D := D) (ci := 7) (v := .ref (are 0)) (C := RX7) (T := TX7) (N := 8) hx hb hu inX7 hown hK.1 hP 0 rfl rfl 0 (by decide) (hu _ q300) (fun _ h9 => h9) rfl dX7_of_57 ?_
        refine va_get (D := D) (ci := 2) (v := .ref (ase 0)) (C := RX2) (T := TX2) (N := 4) hx hb hu inX2 hown hK.1 hP 2 rfl rfl 3 (by decide) (hu _ q204) (fun _ h9 => h9) rfl dX7_of_60 ?_
        refine va_get (D := D) (ci := 4) (v := .ref (ase 6)) (C := RX4) (T := TX4) (N := 10) hx hb hu inX4 hown hK.1 hP 13 rfl rfl 5 (by decide) (hu _ q166) (fun _ h9 => h9) rfl dX7_of_63 ?_
        refine lv_iload_n hx hb dX7_of_66 rfl (lv_at hl 1 rfl) ?_
        obtain ⟨hi11, hf⟩ := ck_el hf
        refine va_iald hx hb hK.1 hP 16 0 rfl rfl hi11 dX7_of_67 ?_
        have he := Option.some.inj hf
        obtain ⟨e0, ht0⟩ := Prod.mk.inj he
        obtain ⟨e1, ht1⟩ := Prod.mk.inj ht0
        obtain ⟨e2, e3⟩ := Prod.mk.inj ht1
        exact hri _ _ _ rfl (congrArg (fun z => some (Value.int z)) e0.symm) dX7_of_68 _ _ _ (by rw [e1, e2, e3]) hP hD hS
      have hf := in_el hc10 hf
      by_cases hc12 : x2 = 5
      · have hf := ip_el hc12 hf
        refine lv_tableIn (off := 43) (tgt := 69) hx hb dX7_of_26 (by rw [hc12]; decide) (by rw [hc12]; decide) (by rw [hc12]; decide) (by decide) ?_
        refine lv_aload_n hx hb dX7_of_69 rfl (lv_at hl 0 rfl) ?_
        refine va_get (D := D) (ci := 7) (v := .ref (are 0)) (C := RX7) (T := TX7) (N := 8) hx hb hu inX7 hown hK.1 hP 0 rfl rfl 0 (by decide) (hu _ q300) (fun _ h9 => h9) rfl dX7_of_70 ?_
        refine va_get (D := D) (ci := 2) (v := .ref (af 0)) (C := RX2) (T := TX2) (N := 4) hx hb hu inX2 hown hK.1 hP 2 rfl rfl 0 (by decide) (hu _ q196) (fun _ h9 => h9) rfl dX7_of_73 ?_
        refine lv_iload_n hx hb dX7_of_76 rfl (lv_at hl 1 rfl) ?_
        obtain ⟨r13, hg14, hf⟩ := b1_el hf
        refine cc_V (w' := ((kX7 cs ama (.ref (are 0)) (.ref (are2 0)) (.ref (are3 0)) (.ref (ach 0)) (.ref (ata 0)) (.ref (asa 0)) Ma) ++ ((kX2 cs are (.ref (af 0)) (.ref (ac 0)) (.ref (atr 0)) (.ref (ase 0)) ) ++ ((kX1 cs af  Fo) ++ ((kX3 cs ac  Sc) ++ ((kX4 cs ase (.ref (af 0)) (.ref (ac 0)) (.ref (atr 0)) Se) ++ ((kX4 cs atr (.ref (af 0)) (.ref (ac 0)) .null Tr)))))))) (wr := ((kX7 cs ama (.ref (are 0)) (.ref (are2 0)) (.ref (are3 0)) (.ref (ach 0)) (.ref (ata 0)) (.ref (asa 0)) Ma) ++ ((kX2 cs are (.ref (af 0)) (.ref (ac 0)) (.ref (atr 0)) (.ref (ase 0)) ) ++ ((kX3 cs ac  Sc) ++ ((kX4 cs ase (.ref (af 0)) (.ref (ac 0)) (.ref (atr 0)) Se) ++ ((kX4 cs atr (.ref (af 0)) (.ref (ac 0)) .null Tr))))))) (st1 := [.int r13]) [.int x1] hx hb hml hown hu (tX1_isAlive l D cs af x1 Fo r13 hg14) q356 q56 q353 q354 q355 pdX1_isAlive ⟨rfl, rfl, Nat.le_of_ble_eq_true rfl, Nat.le_of_ble_eq_true rfl⟩ hK hZ hP hD hS hA [3, 4, 5, 6, 7, 8, 9] [0, 1, 2, 10, 11, 12, 13, 14, 15, 16, 17, 18, 19, 20] [0, 1, 2, 14, 15, 16, 17, 18, 19, 20, 3, 4, 5, 6, 7, 8, 9, 10, 11, 12, 13] rfl rfl rfl rfl rfl rfl rfl rfl rfl rfl hl.1 rfl (Nat.le_of_ble_eq_true rfl) dX7_of_77 rfl (fun H locs hP hD hS => ?_)
        refine lv_if_eq (tgt := 87) hx hb dX7_of_80 (by decide) (fun hc15 => ?_) (fun hc15 => ?_)
        · have hf := ip_el hc15 hf
          refine lv_iconst (v := 1) hx hb dX7_of_87 (by decide) ?_
          have he := Option.some.inj hf
          obtain ⟨e0, ht0⟩ := Prod.mk.inj he
          obtain ⟨e1, ht1⟩ := Prod.mk.inj ht0
          obtain ⟨e2, e3⟩ := Prod.mk.inj ht1
          exact hri _ _ _ rfl (congrArg (fun z => some (Value.int z)) e0.symm) dX7_of_88 _ _ _ (by rw [e1, e2, e3]) hP hD hS
        · have hf := in_el hc15 hf
          refine lv_iconst (v := 0) hx hb dX7_of_83 (by decide) ?_
          refine lv_goto (tgt := 88) hx hb dX7_of_84 (by decide) ?_
          have he := Option.some.inj hf
          obtain ⟨e0, ht0⟩ := Prod.mk.inj he
          obtain ⟨e1, ht1⟩ := Prod.mk.inj ht0
          obtain ⟨e2, e3⟩ := Prod.mk.inj ht1
          exact hri _ _ _ rfl (congrArg (fun z => some (Value.int z)) e0.symm) dX7_of_88 _ _ _ (by rw [e1, e2, e3]) hP hD hS
      have hf := in_el hc12 hf
      by_cases hc16 : x2 = 6
      · have hf := ip_el hc16 hf
        refine lv_tableIn (off := 63) (tgt := 89) hx hb dX7_of_26 (by rw [hc16]; decide) (by rw [hc16]; decide) (by rw [hc16]; decide) (by decide) ?_
        refine lv_aload_n hx hb dX7_of_89 rfl (lv_at hl 0 rfl) ?_
        refine va_get (D := D) (ci := 7) (v := .ref (are 0)) (C := RX7) (T := TX7) (N := 8) hx hb hu inX7 hown hK.1 hP 0 rfl rfl 0 (by decide) (hu _ q300) (fun _ h9 => h9) rfl dX7_of_90 ?_
        refine va_get (D := D) (ci := 2) (v := .ref (ase 0)) (C := RX2) (T := TX2) (N := 4) hx hb hu inX2 hown hK.1 hP 2 rfl rfl 3 (by decide) (hu _ q204) (fun _ h9 => h9) rfl dX7_of_93 ?_
        refine lv_iload_n hx hb dX7_of_96 rfl (lv_at hl 1 rfl) ?_
        obtain ⟨r17, hg18, hf⟩ := b1_el hf
        refine cc_V (w' := ((kX7 cs ama (.ref (are 0)) (.ref (are2 0)) (.ref (are3 0)) (.ref (ach 0)) (.ref (ata 0)) (.ref (asa 0)) Ma) ++ ((kX2 cs are (.ref (af 0)) (.ref (ac 0)) (.ref (atr 0)) (.ref (ase 0)) ) ++ ((kX1 cs af  Fo) ++ ((kX3 cs ac  Sc) ++ ((kX4 cs ase (.ref (af 0)) (.ref (ac 0)) (.ref (atr 0)) Se) ++ ((kX4 cs atr (.ref (af 0)) (.ref (ac 0)) .null Tr)))))))) (wr := ((kX7 cs ama (.ref (are 0)) (.ref (are2 0)) (.ref (are3 0)) (.ref (ach 0)) (.ref (ata 0)) (.ref (asa 0)) Ma) ++ ((kX2 cs are (.ref (af 0)) (.ref (ac 0)) (.ref (atr 0)) (.ref (ase 0)) ) ++ ((kX1 cs af  Fo) ++ ((kX3 cs ac  Sc) ++ ((kX4 cs atr (.ref (af 0)) (.ref (ac 0)) .null Tr))))))) (st1 := [.int r17]) [.int x1] hx hb hml hown hu (tX4_placeOf l D cs ase (.ref (af 0)) (.ref (ac 0)) (.ref (atr 0)) x1 Se r17 hg18) q367 q58 q364 q365 q366 pdX4_placeOf ⟨rfl, rfl, Nat.le_of_ble_eq_true rfl, Nat.le_of_ble_eq_true rfl⟩ hK hZ hP hD hS hA [13, 14, 15, 16] [0, 1, 2, 3, 4, 5, 6, 7, 8, 9, 10, 11, 12, 17, 18, 19, 20] [0, 1, 2, 3, 4, 5, 6, 7, 8, 9, 10, 11, 12, 17, 18, 19, 20, 13, 14, 15, 16] rfl rfl rfl rfl rfl rfl rfl rfl rfl rfl hl.1 rfl (Nat.le_of_ble_eq_true rfl) dX7_of_97 rfl (fun H locs hP hD hS => ?_)
        have he := Option.some.inj hf
        obtain ⟨e0, ht0⟩ := Prod.mk.inj he
        obtain ⟨e1, ht1⟩ := Prod.mk.inj ht0
        obtain ⟨e2, e3⟩ := Prod.mk.inj ht1
        exact hri _ _ _ rfl (congrArg (fun z => some (Value.int z)) e0.symm) dX7_of_100 _ _ _ (by rw [e1, e2, e3]) hP hD hS
      have hf := in_el hc16 hf
      by_cases hc19 : x2 = 7
      · have hf := ip_el hc19 hf
        refine lv_tableIn (off := 75) (tgt := 101) hx hb dX7_of_26 (by rw [hc19]; decide) (by rw [hc19]; decide) (by rw [hc19]; decide) (by decide) ?_
        refine lv_aload_n hx hb dX7_of_101 rfl (lv_at hl 0 rfl) ?_
        refine va_get (D := D) (ci := 7) (v := .ref (are 0)) (C := RX7) (T := TX7) (N := 8) hx hb hu inX7 hown hK.1 hP 0 rfl rfl 0 (by decide) (hu _ q300) (fun _ h9 => h9) rfl dX7_of_102 ?_
        refine va_get (D := D) (ci := 2) (v := .ref (ase 0)) (C := RX2) (T := TX2) (N := 4) hx hb hu inX2 hown hK.1 hP 2 rfl rfl 3 (by decide) (hu _ q204) (fun _ h9 => h9) rfl dX7_of_105 ?_
        refine lv_iload_n hx hb dX7_of_108 rfl (lv_at hl 1 rfl) ?_
        refine lv_iconst (v := 1) hx hb dX7_of_109 (by decide) ?_
        obtain ⟨r20, Sc_21, Tr_22, hg23, hf⟩ := b3_el hf
        refine cc_V (w' := ((kX7 cs ama (.ref (are 0)) (.ref (are2 0)) (.ref (are3 0)) (.ref (ach 0)) (.ref (ata 0)) (.ref (asa 0)) Ma) ++ ((kX2 cs are (.ref (af 0)) (.ref (ac 0)) (.ref (atr 0)) (.ref (ase 0)) ) ++ ((kX1 cs af  Fo) ++ ((kX3 cs ac  Sc_21) ++ ((kX4 cs ase (.ref (af 0)) (.ref (ac 0)) (.ref (atr 0)) Se) ++ ((kX4 cs atr (.ref (af 0)) (.ref (ac 0)) .null Tr_22)))))))) (wr := ((kX7 cs ama (.ref (are 0)) (.ref (are2 0)) (.ref (are3 0)) (.ref (ach 0)) (.ref (ata 0)) (.ref (asa 0)) Ma) ++ ((kX2 cs are (.ref (af 0)) (.ref (ac 0)) (.ref (atr 0)) (.ref (ase 0)) )))) (st1 := [.int r20]) [.int x1, .int 1] hx hb hml hown hu (tX4_choice l D cs ase af ac atr x1 1 Se Fo Sc Tr r20 Sc_21 Tr_22 hg23) q371 q58 q368 q369 q370 pdX4_choice ⟨rfl, rfl, Nat.le_of_ble_eq_true rfl, Nat.le_of_ble_eq_true rfl⟩ hK hZ hP hD hS hA [13, 14, 15, 16, 3, 4, 5, 6, 7, 8, 9, 10, 11, 12, 17, 18, 19, 20] [0, 1, 2] [0, 1, 2, 7, 8, 9, 10, 11, 12, 13, 14, 15, 16, 3, 4, 5, 6, 17, 18, 19, 20] rfl rfl rfl rfl rfl rfl rfl rfl rfl rfl hl.1 rfl (Nat.le_of_ble_eq_true rfl) dX7_of_110 rfl (fun H locs hP hD hS => ?_)
        have he := Option.some.inj hf
        obtain ⟨e0, ht0⟩ := Prod.mk.inj he
        obtain ⟨e1, ht1⟩ := Prod.mk.inj ht0
        obtain ⟨e2, e3⟩ := Prod.mk.inj ht1
        exact hri _ _ _ rfl (congrArg (fun z => some (Value.int z)) e0.symm) dX7_of_113 _ _ _ (by rw [e1, e2, e3]) hP hD hS
      have hf := in_el hc19 hf
      have nhc10 := sw_ne (a := 4) hc10 (by decide)
      have nhc12 := sw_ne (a := 5) hc12 (by decide)
      have nhc16 := sw_ne (a := 6) hc16 (by decide)
      have nhc19 := sw_ne (a := 7) hc19 (by decide)
      refine lv_tableOut (tgt := 114) hx hb dX7_of_26 (by omega) (by decide) ?_
      refine lv_aload_n hx hb dX7_of_114 rfl (lv_at hl 0 rfl) ?_
      refine va_get (D := D) (ci := 7) (v := .ref (are 0)) (C := RX7) (T := TX7) (N := 8) hx hb hu inX7 hown hK.1 hP 0 rfl rfl 0 (by decide) (hu _ q300) (fun _ h9 => h9) rfl dX7_of_115 ?_
      refine va_get (D := D) (ci := 2) (v := .ref (af 0)) (C := RX2) (T := TX2) (N := 4) hx hb hu inX2 hown hK.1 hP 2 rfl rfl 0 (by decide) (hu _ q196) (fun _ h9 => h9) rfl dX7_of_118 ?_
      refine lv_iload_n hx hb dX7_of_121 rfl (lv_at hl 2 rfl) ?_
      obtain ⟨r24, hg25, hf⟩ := b1_el hf
      refine cc_V (w' := ((kX7 cs ama (.ref (are 0)) (.ref (are2 0)) (.ref (are3 0)) (.ref (ach 0)) (.ref (ata 0)) (.ref (asa 0)) Ma) ++ ((kX2 cs are (.ref (af 0)) (.ref (ac 0)) (.ref (atr 0)) (.ref (ase 0)) ) ++ ((kX1 cs af  Fo) ++ ((kX3 cs ac  Sc) ++ ((kX4 cs ase (.ref (af 0)) (.ref (ac 0)) (.ref (atr 0)) Se) ++ ((kX4 cs atr (.ref (af 0)) (.ref (ac 0)) .null Tr)))))))) (wr := ((kX7 cs ama (.ref (are 0)) (.ref (are2 0)) (.ref (are3 0)) (.ref (ach 0)) (.ref (ata 0)) (.ref (asa 0)) Ma) ++ ((kX2 cs are (.ref (af 0)) (.ref (ac 0)) (.ref (atr 0)) (.ref (ase 0)) ) ++ ((kX3 cs ac  Sc) ++ ((kX4 cs ase (.ref (af 0)) (.ref (ac 0)) (.ref (atr 0)) Se) ++ ((kX4 cs atr (.ref (af 0)) (.ref (ac 0)) .null Tr))))))) (st1 := [.ref (af r24)]) [.int x2] hx hb hml hown hu (tX1_trait l D cs af x2 Fo r24 hg25) q448 q56 q445 q446 q447 pdX1_trait ⟨rfl, rfl, Nat.le_of_ble_eq_true rfl, Nat.le_of_ble_eq_true rfl⟩ hK hZ hP hD hS hA [3, 4, 5, 6, 7, 8, 9] [0, 1, 2, 10, 11, 12, 13, 14, 15, 16, 17, 18, 19, 20] [0, 1, 2, 14, 15, 16, 17, 18, 19, 20, 3, 4, 5, 6, 7, 8, 9, 10, 11, 12, 13] rfl rfl rfl rfl rfl rfl rfl rfl rfl rfl hl.1 rfl (Nat.le_of_ble_eq_true rfl) dX7_of_122 rfl (fun H locs hP hD hS => ?_)
      refine lv_iload_n hx hb dX7_of_125 rfl (lv_at hl 1 rfl) ?_
      obtain ⟨hi26, hf⟩ := ck_el hf
      refine va_iald (f := Fo r24) (n := 10) (cA := cs 0) hx hb hK.1 hP (3 + (r24 - 1)) 0 (by rcases tr_cases hg25 with h9 | h9 | h9 | h9 <;> (subst h9; rfl)) rfl hi26 dX7_of_126 ?_
      have he := Option.some.inj hf
      obtain ⟨e0, ht0⟩ := Prod.mk.inj he
      obtain ⟨e1, ht1⟩ := Prod.mk.inj ht0
      obtain ⟨e2, e3⟩ := Prod.mk.inj ht1
      exact hri _ _ _ rfl (congrArg (fun z => some (Value.int z)) e0.symm) dX7_of_127 _ _ _ (by rw [e1, e2, e3]) hP hD hS
    · have hf := ip_el hc9 hf
      exact h18 Ma Sc Tr _ _ _ hP hD hS (lv_sub hl [0] rfl) hf

def fX7_set_16 (Ma : ST) (Fo : ST) : Option (Int32 × ST × ST) :=
  dc_b2 (fX7_finding (-1000000001) Ma) (fun r4 Ma_5 => some (r4, Ma_5, Fo))
def fX7_set (x1 : Int32) (x2 : Int32) (x3 : Int32) (Ma : ST) (Fo : ST) : Option (Int32 × ST × ST) :=
  dc_b1 (fX7_isOne x1 Ma Fo) (fun r1 => (if r1 = 0 then fX7_set_16 Ma Fo else dc_b1 (fX7_isTrait x2 x3) (fun r7 => (if r7 = 0 then fX7_set_16 Ma Fo else dc_b1 (fX1_trait x2 Fo) (fun r10 => dc_ck x1 10 (dc_lt (Fo r10 (Int32.toNatClampNeg x1)) (fun v13 => dc_ck x1 10 (dc_lt (sti Fo r10 (Int32.toNatClampNeg x1) x3) (fun Fo_15 => some (v13, Ma, Fo_15))))))))))
abbrev rmX7_set : Room := { frames := 3, cells := 0, slots := 0, locals := 63 }
set_option maxRecDepth 100000 in
set_option maxHeartbeats 4000000 in
theorem tX7_set (l : Launch) (D : va_G) (cs : Nat → ClassId) (ama : Nat → Nat) (are : Nat → Nat) (are2 : Nat → Nat) (are3 : Nat → Nat) (ach : Nat → Nat) (ata : Nat → Nat) (asa : Nat → Nat) (af : Nat → Nat) (ac : Nat → Nat) (atr : Nat → Nat) (ase : Nat → Nat) (x1 : Int32) (x2 : Int32) (x3 : Int32) (Ma : ST) (Fo : ST) (r0 : Int32) (Maz : ST) (Foz : ST) (hf : fX7_set x1 x2 x3 Ma Fo = some (r0, Maz, Foz)) : CG l yX7_set (wsm yX7_set cX7_set 6 (some .int)) rmX7_set D cs [.ref (ama 0), .int x1, .int x2, .int x3] (some (.int r0)) ((kX7 cs ama (.ref (are 0)) (.ref (are2 0)) (.ref (are3 0)) (.ref (ach 0)) (.ref (ata 0)) (.ref (asa 0)) Ma) ++ ((kX2 cs are (.ref (af 0)) (.ref (ac 0)) (.ref (atr 0)) (.ref (ase 0)) ) ++ ((kX1 cs af  Fo)))) ((kX7 cs ama (.ref (are 0)) (.ref (are2 0)) (.ref (are3 0)) (.ref (ach 0)) (.ref (ata 0)) (.ref (asa 0)) Maz) ++ ((kX2 cs are (.ref (af 0)) (.ref (ac 0)) (.ref (atr 0)) (.ref (ase 0)) ) ++ ((kX1 cs af  Foz)))) := by
  refine CG.intro (by decide) (Nat.le_of_ble_eq_true rfl) ?_
  intro p e s m below meth c A Q hx hb hml hown hu hK hZ hP0 hD0 hS0 hA hri hrz hrl hrv hra ls0 hl0
  have h16 : ∀ (Ma : ST) (Fo : ST) (H : Heap) (locs : List Loc) (ls : Array Slot), va_P D vwCl ((kX7 cs ama (.ref (are 0)) (.ref (are2 0)) (.ref (are3 0)) (.ref (ach 0)) (.ref (ata 0)) (.ref (asa 0)) Ma) ++ ((kX2 cs are (.ref (af 0)) (.ref (ac 0)) (.ref (atr 0)) (.ref (ase 0)) ) ++ ((kX1 cs af  Fo)))) H → va_D A ((kX7 cs ama (.ref (are 0)) (.ref (are2 0)) (.ref (are3 0)) (.ref (ach 0)) (.ref (ata 0)) (.ref (asa 0)) Ma) ++ ((kX2 cs are (.ref (af 0)) (.ref (ac 0)) (.ref (atr 0)) (.ref (ase 0)) ) ++ ((kX1 cs af  Fo)))) → va_S A s.heap H locs → lv_has ls 6 [(0, .ref (ama 0))] → fX7_set_16 Ma Fo = some (r0, Maz, Foz) → W p l e rmX7_set s m [.ref (ama 0), .int x1, .int x2, .int x3].toArray below meth c H locs 0 0 Q (F0 m 16 ls []) := by
    intro Ma Fo H locs ls hP hD hS hl hf
    unfold fX7_set_16 at hf
    refine lv_aload_n hx hb dX7_set_16 rfl (lv_at hl 0 rfl) ?_
    refine lv_ldc (v := (-1000000001)) hx hb hown (hu _ q335) dX7_set_17 ?_
    obtain ⟨r4, Ma_5, hg6, hf⟩ := b2_el hf
    refine cc_V (w' := ((kX7 cs ama (.ref (are 0)) (.ref (are2 0)) (.ref (are3 0)) (.ref (ach 0)) (.ref (ata 0)) (.ref (asa 0)) Ma_5) ++ ((kX2 cs are (.ref (af 0)) (.ref (ac 0)) (.ref (atr 0)) (.ref (ase 0)) ) ++ ((kX1 cs af  Fo))))) (wr := ((kX2 cs are (.ref (af 0)) (.ref (ac 0)) (.ref (atr 0)) (.ref (ase 0)) ) ++ ((kX1 cs af  Fo)))) (st1 := [.int r4]) [.int (-1000000001)] hx hb hml hown hu (tX7_finding l D cs ama are are2 are3 ach ata asa (-1000000001) Ma r4 Ma_5 hg6) q339 q54 q336 q338 q0 pdX7_finding ⟨rfl, rfl, Nat.le_of_ble_eq_true rfl, Nat.le_of_ble_eq_true rfl⟩ hK hZ hP hD hS hA [0, 1] [2, 3, 4, 5, 6, 7, 8, 9] [8, 9, 0, 1, 2, 3, 4, 5, 6, 7] rfl rfl rfl rfl rfl rfl rfl rfl rfl rfl hl.1 rfl (Nat.le_of_ble_eq_true rfl) dX7_set_19 rfl (fun H locs hP hD hS => ?_)
    have he := Option.some.inj hf
    obtain ⟨e0, ht0⟩ := Prod.mk.inj he
    obtain ⟨e1, e2⟩ := Prod.mk.inj ht0
    exact hri _ _ _ rfl (congrArg (fun z => some (Value.int z)) e0.symm) dX7_set_22 _ _ _ (by rw [e1, e2]) hP hD hS
  have hl : lv_has ls0 6 [(0, .ref (ama 0)), (1, .int x1), (2, .int x2), (3, .int x3)] := hl0
  have hP := hP0
  have hD := hD0
  have hS := hS0
  unfold fX7_set at hf
  refine lv_aload_n hx hb dX7_set_0 rfl (lv_at hl 0 rfl) ?_
  refine lv_iload_n hx hb dX7_set_1 rfl (lv_at hl 1 rfl) ?_
  obtain ⟨r1, hg2, hf⟩ := b1_el hf
  refine cc_V1 (w' := ((kX7 cs ama (.ref (are 0)) (.ref (are2 0)) (.ref (are3 0)) (.ref (ach 0)) (.ref (ata 0)) (.ref (asa 0)) Ma) ++ ((kX2 cs are (.ref (af 0)) (.ref (ac 0)) (.ref (atr 0)) (.ref (ase 0)) ) ++ ((kX1 cs af  Fo))))) (st1 := [.int r1]) [.int x1] hx hb hml hown hu (tX7_isOne l D cs ama are are2 are3 ach ata asa af ac atr ase x1 Ma Fo r1 hg2) q352 q54 q349 q351 q1 pdX7_isOne ⟨rfl, rfl, Nat.le_of_ble_eq_true rfl, Nat.le_of_ble_eq_true rfl⟩ hK hZ hP hD hS hA rfl rfl rfl rfl hl.1 rfl (Nat.le_of_ble_eq_true rfl) dX7_set_2 rfl (fun H locs hP hD hS => ?_)
  refine lv_if_eq (tgt := 16) hx hb dX7_set_5 (by decide) (fun hc3 => ?_) (fun hc3 => ?_)
  · have hf := ip_el hc3 hf
    exact h16 Ma Fo _ _ _ hP hD hS (lv_sub hl [0] rfl) hf
  · have hf := in_el hc3 hf
    refine lv_iload_n hx hb dX7_set_8 rfl (lv_at hl 2 rfl) ?_
    refine lv_iload_n hx hb dX7_set_9 rfl (lv_at hl 3 rfl) ?_
    obtain ⟨r7, hg8, hf⟩ := b1_el hf
    refine cc_S0 (st1 := [.int r7]) [.int x2, .int x3] hx hb hml hown hu (tX7_isTrait l D cs x2 x3 r7 hg8) q455 q54 q453 q454 pdX7_isTrait ⟨rfl, rfl, Nat.le_of_ble_eq_true rfl, Nat.le_of_ble_eq_true rfl⟩ hK hZ hP hD hS hA rfl hl.1 rfl (Nat.le_of_ble_eq_true rfl) dX7_set_10 rfl (fun H locs hP hD hS => ?_)
    refine lv_if_ne (tgt := 23) hx hb dX7_set_13 (by decide) (fun hc9 => ?_) (fun hc9 => ?_)
    · have hf := in_el hc9 hf
      refine lv_aload_n hx hb dX7_set_23 rfl (lv_at hl 0 rfl) ?_
      refine va_get (D := D) (ci := 7) (v := .ref (are 0)) (C := RX7) (T := TX7) (N := 8) hx hb hu inX7 hown hK.1 hP 0 rfl rfl 0 (by decide) (hu _ q300) (fun _ h9 => h9) rfl dX7_set_24 ?_
      refine va_get (D := D) (ci := 2) (v := .ref (af 0)) (C := RX2) (T := TX2) (N := 4) hx hb hu inX2 hown hK.1 hP 2 rfl rfl 0 (by decide) (hu _ q196) (fun _ h9 => h9) rfl dX7_set_27 ?_
      refine lv_iload_n hx hb dX7_set_30 rfl (lv_at hl 2 rfl) ?_
      obtain ⟨r10, hg11, hf⟩ := b1_el hf
      refine cc_V (w' := ((kX7 cs ama (.ref (are 0)) (.ref (are2 0)) (.ref (are3 0)) (.ref (ach 0)) (.ref (ata 0)) (.ref (asa 0)) Ma) ++ ((kX2 cs are (.ref (af 0)) (.ref (ac 0)) (.ref (atr 0)) (.ref (ase 0)) ) ++ ((kX1 cs af  Fo))))) (wr := ((kX7 cs ama (.ref (are 0)) (.ref (are2 0)) (.ref (are3 0)) (.ref (ach 0)) (.ref (ata 0)) (.ref (asa 0)) Ma) ++ ((kX2 cs are (.ref (af 0)) (.ref (ac 0)) (.ref (atr 0)) (.ref (ase 0)) )))) (st1 := [.ref (af r10)]) [.int x2] hx hb hml hown hu (tX1_trait l D cs af x2 Fo r10 hg11) q448 q56 q445 q446 q447 pdX1_trait ⟨rfl, rfl, Nat.le_of_ble_eq_true rfl, Nat.le_of_ble_eq_true rfl⟩ hK hZ hP hD hS hA [3, 4, 5, 6, 7, 8, 9] [0, 1, 2] [0, 1, 2, 3, 4, 5, 6, 7, 8, 9] rfl rfl rfl rfl rfl rfl rfl rfl rfl rfl hl.1 rfl (Nat.le_of_ble_eq_true rfl) dX7_set_31 rfl (fun H locs hP hD hS => ?_)
      refine lv_astore (lv' := [(4, .ref (af r10)), (0, .ref (ama 0)), (1, .int x1), (2, .int x2), (3, .int x3)]) hx hb dX7_set_34 hl (by decide) rfl (fun ls hl => ?_)
      refine lv_aload hx hb dX7_set_36 (lv_at hl 0 rfl) ?_
      refine lv_iload_n hx hb dX7_set_38 rfl (lv_at hl 2 rfl) ?_
      obtain ⟨hi12, hf⟩ := ck_el hf
      refine va_iald (f := Fo r10) (n := 10) (cA := cs 0) hx hb hK.1 hP (3 + (r10 - 1)) 0 (by rcases tr_cases hg11 with h9 | h9 | h9 | h9 <;> (subst h9; rfl)) rfl hi12 dX7_set_39 ?_
      obtain ⟨v13, hv13, hf⟩ := lt_el hf
      refine lv_tope hv13 ?_
      refine lv_istore (lv' := [(5, .int v13), (4, .ref (af r10)), (0, .ref (ama 0)), (1, .int x1), (2, .int x2), (3, .int x3)]) hx hb dX7_set_40 hl (by decide) rfl (fun ls hl => ?_)
      refine lv_aload hx hb dX7_set_42 (lv_at hl 1 rfl) ?_
      refine lv_iload_n hx hb dX7_set_44 rfl (lv_at hl 3 rfl) ?_
      refine lv_iload_n hx hb dX7_set_45 rfl (lv_at hl 5 rfl) ?_
      obtain ⟨hi14, hf⟩ := ck_el hf
      obtain ⟨Fo_15, hFo_15, hf⟩ := lt_el hf
      refine va_iast (f := Fo r10) (n := 10) (cA := cs 0) hx hb hK.1 hP hD hS (3 + (r10 - 1)) 0 (by rcases tr_cases hg11 with h9 | h9 | h9 | h9 <;> (subst h9; rfl)) rfl hi14 dX7_set_46 (fun H locs hP hD hS => ?_)
      have hW9 : ((kX7 cs ama (.ref (are 0)) (.ref (are2 0)) (.ref (are3 0)) (.ref (ach 0)) (.ref (ata 0)) (.ref (asa 0)) Ma) ++ ((kX2 cs are (.ref (af 0)) (.ref (ac 0)) (.ref (atr 0)) (.ref (ase 0)) ) ++ ((kX1 cs af  Fo)))).set (3 + (r10 - 1)) (af r10, .inl (cs 0, 10, .inl (upd (Fo r10) (Int32.toNatClampNeg x1) x3))) = ((kX7 cs ama (.ref (are 0)) (.ref (are2 0)) (.ref (are3 0)) (.ref (ach 0)) (.ref (ata 0)) (.ref (asa 0)) Ma) ++ ((kX2 cs are (.ref (af 0)) (.ref (ac 0)) (.ref (atr 0)) (.ref (ase 0)) ) ++ ((kX1 cs af  Fo_15)))) := by
        rcases tr_cases hg11 with h9 | h9 | h9 | h9 <;> (subst h9; rw [hFo_15]; rfl)
      rw [hW9] at hP hD
      refine lv_iload hx hb dX7_set_47 (lv_at hl 0 rfl) ?_
      have he := Option.some.inj hf
      obtain ⟨e0, ht0⟩ := Prod.mk.inj he
      obtain ⟨e1, e2⟩ := Prod.mk.inj ht0
      exact hri _ _ _ rfl (congrArg (fun z => some (Value.int z)) e0.symm) dX7_set_49 _ _ _ (by rw [e1, e2]) hP hD hS
    · have hf := ip_el hc9 hf
      exact h16 Ma Fo _ _ _ hP hD hS (lv_sub hl [0] rfl) hf

def fX7_as_18 (Fo : ST) (Se : ST) (Ma : ST) : Option (Int32 × ST) :=
  dc_b2 (fX7_finding (-1000000001) Ma) (fun r4 Ma_5 => some (r4, Ma_5))
def fX7_as (x1 : Int32) (x2 : Int32) (Ma : ST) (Fo : ST) (Se : ST) : Option (Int32 × ST) :=
  dc_b1 (fX7_isOne x1 Ma Fo) (fun r1 => (if r1 = 0 then fX7_as_18 Fo Se Ma else dc_b1 (fX7_within x2 0 6) (fun r7 => (if r7 = 0 then fX7_as_18 Fo Se Ma else dc_ck x1 10 (dc_b1 (fX7_isUnder (Fo 2 (Int32.toNatClampNeg x1)) x2) (fun r11 => (if r11 = 0 then dc_b2 (fX7_finding (-1000000003) Ma) (fun r15 Ma_16 => some (r15, Ma_16)) else dc_ck x1 10 (some ((Se 6 (Int32.toNatClampNeg x1)), Ma)))))))))
abbrev rmX7_as : Room := { frames := 2, cells := 0, slots := 0, locals := 43 }
set_option maxRecDepth 100000 in
set_option maxHeartbeats 4000000 in
theorem tX7_as (l : Launch) (D : va_G) (cs : Nat → ClassId) (ama : Nat → Nat) (are : Nat → Nat) (are2 : Nat → Nat) (are3 : Nat → Nat) (ach : Nat → Nat) (ata : Nat → Nat) (asa : Nat → Nat) (af : Nat → Nat) (ac : Nat → Nat) (atr : Nat → Nat) (ase : Nat → Nat) (x1 : Int32) (x2 : Int32) (Ma : ST) (Fo : ST) (Se : ST) (r0 : Int32) (Maz : ST) (hf : fX7_as x1 x2 Ma Fo Se = some (r0, Maz)) : CG l yX7_as (wsm yX7_as cX7_as 3 (some .int)) rmX7_as D cs [.ref (ama 0), .int x1, .int x2] (some (.int r0)) ((kX7 cs ama (.ref (are 0)) (.ref (are2 0)) (.ref (are3 0)) (.ref (ach 0)) (.ref (ata 0)) (.ref (asa 0)) Ma) ++ ((kX2 cs are (.ref (af 0)) (.ref (ac 0)) (.ref (atr 0)) (.ref (ase 0)) ) ++ ((kX1 cs af  Fo) ++ ((kX4 cs ase (.ref (af 0)) (.ref (ac 0)) (.ref (atr 0)) Se))))) ((kX7 cs ama (.ref (are 0)) (.ref (are2 0)) (.ref (are3 0)) (.ref (ach 0)) (.ref (ata 0)) (.ref (asa 0)) Maz) ++ ((kX2 cs are (.ref (af 0)) (.ref (ac 0)) (.ref (atr 0)) (.ref (ase 0)) ) ++ ((kX1 cs af  Fo) ++ ((kX4 cs ase (.ref (af 0)) (.ref (ac 0)) (.ref (atr 0)) Se))))) := by
  refine CG.intro (by decide) (Nat.le_of_ble_eq_true rfl) ?_
  intro p e s m below meth c A Q hx hb hml hown hu hK hZ hP0 hD0 hS0 hA hri hrz hrl hrv hra ls0 hl0
  have h18 : ∀ (Ma : ST) (H : Heap) (locs : List Loc) (ls : Array Slot), va_P D vwCl ((kX7 cs ama (.ref (are 0)) (.ref (are2 0)) (.ref (are3 0)) (.ref (ach 0)) (.ref (ata 0)) (.ref (asa 0)) Ma) ++ ((kX2 cs are (.ref (af 0)) (.ref (ac 0)) (.ref (atr 0)) (.ref (ase 0)) ) ++ ((kX1 cs af  Fo) ++ ((kX4 cs ase (.ref (af 0)) (.ref (ac 0)) (.ref (atr 0)) Se))))) H → va_D A ((kX7 cs ama (.ref (are 0)) (.ref (are2 0)) (.ref (are3 0)) (.ref (ach 0)) (.ref (ata 0)) (.ref (asa 0)) Ma) ++ ((kX2 cs are (.ref (af 0)) (.ref (ac 0)) (.ref (atr 0)) (.ref (ase 0)) ) ++ ((kX1 cs af  Fo) ++ ((kX4 cs ase (.ref (af 0)) (.ref (ac 0)) (.ref (atr 0)) Se))))) → va_S A s.heap H locs → lv_has ls 3 [(0, .ref (ama 0))] → fX7_as_18 Fo Se Ma = some (r0, Maz) → W p l e rmX7_as s m [.ref (ama 0), .int x1, .int x2].toArray below meth c H locs 0 0 Q (F0 m 18 ls []) := by
    intro Ma H locs ls hP hD hS hl hf
    unfold fX7_as_18 at hf
    refine lv_aload_n hx hb dX7_as_18 rfl (lv_at hl 0 rfl) ?_
    refine lv_ldc (v := (-1000000001)) hx hb hown (hu _ q335) dX7_as_19 ?_
    obtain ⟨r4, Ma_5, hg6, hf⟩ := b2_el hf
    refine cc_V (w' := ((kX7 cs ama (.ref (are 0)) (.ref (are2 0)) (.ref (are3 0)) (.ref (ach 0)) (.ref (ata 0)) (.ref (asa 0)) Ma_5) ++ ((kX2 cs are (.ref (af 0)) (.ref (ac 0)) (.ref (atr 0)) (.ref (ase 0)) ) ++ ((kX1 cs af  Fo) ++ ((kX4 cs ase (.ref (af 0)) (.ref (ac 0)) (.ref (atr 0)) Se)))))) (wr := ((kX2 cs are (.ref (af 0)) (.ref (ac 0)) (.ref (atr 0)) (.ref (ase 0)) ) ++ ((kX1 cs af  Fo) ++ ((kX4 cs ase (.ref (af 0)) (.ref (ac 0)) (.ref (atr 0)) Se))))) (st1 := [.int r4]) [.int (-1000000001)] hx hb hml hown hu (tX7_finding l D cs ama are are2 are3 ach ata asa (-1000000001) Ma r4 Ma_5 hg6) q339 q54 q336 q338 q0 pdX7_finding ⟨rfl, rfl, Nat.le_of_ble_eq_true rfl, Nat.le_of_ble_eq_true rfl⟩ hK hZ hP hD hS hA [0, 1] [2, 3, 4, 5, 6, 7, 8, 9, 10, 11, 12, 13] [12, 13, 0, 1, 2, 3, 4, 5, 6, 7, 8, 9, 10, 11] rfl rfl rfl rfl rfl rfl rfl rfl rfl rfl hl.1 rfl (Nat.le_of_ble_eq_true rfl) dX7_as_21 rfl (fun H locs hP hD hS => ?_)
    have he := Option.some.inj hf
    obtain ⟨e0, e1⟩ := Prod.mk.inj he
    exact hri _ _ _ rfl (congrArg (fun z => some (Value.int z)) e0.symm) dX7_as_24 _ _ _ (by rw [e1]) hP hD hS
  have hl : lv_has ls0 3 [(0, .ref (ama 0)), (1, .int x1), (2, .int x2)] := hl0
  have hP := hP0
  have hD := hD0
  have hS := hS0
  unfold fX7_as at hf
  refine lv_aload_n hx hb dX7_as_0 rfl (lv_at hl 0 rfl) ?_
  refine lv_iload_n hx hb dX7_as_1 rfl (lv_at hl 1 rfl) ?_
  obtain ⟨r1, hg2, hf⟩ := b1_el hf
  refine cc_V (w' := ((kX7 cs ama (.ref (are 0)) (.ref (are2 0)) (.ref (are3 0)) (.ref (ach 0)) (.ref (ata 0)) (.ref (asa 0)) Ma) ++ ((kX2 cs are (.ref (af 0)) (.ref (ac 0)) (.ref (atr 0)) (.ref (ase 0)) ) ++ ((kX1 cs af  Fo) ++ ((kX4 cs ase (.ref (af 0)) (.ref (ac 0)) (.ref (atr 0)) Se)))))) (wr := (kX4 cs ase (.ref (af 0)) (.ref (ac 0)) (.ref (atr 0)) Se)) (st1 := [.int r1]) [.int x1] hx hb hml hown hu (tX7_isOne l D cs ama are are2 are3 ach ata asa af ac atr ase x1 Ma Fo r1 hg2) q352 q54 q349 q351 q1 pdX7_isOne ⟨rfl, rfl, Nat.le_of_ble_eq_true rfl, Nat.le_of_ble_eq_true rfl⟩ hK hZ hP hD hS hA [0, 1, 2, 3, 4, 5, 6, 7, 8, 9] [10, 11, 12, 13] [4, 5, 6, 7, 8, 9, 10, 11, 12, 13, 0, 1, 2, 3] rfl rfl rfl rfl rfl rfl rfl rfl rfl rfl hl.1 rfl (Nat.le_of_ble_eq_true rfl) dX7_as_2 rfl (fun H locs hP hD hS => ?_)
  refine lv_if_eq (tgt := 18) hx hb dX7_as_5 (by decide) (fun hc3 => ?_) (fun hc3 => ?_)
  · have hf := ip_el hc3 hf
    exact h18 Ma _ _ _ hP hD hS (lv_sub hl [0] rfl) hf
  · have hf := in_el hc3 hf
    refine lv_iload_n hx hb dX7_as_8 rfl (lv_at hl 2 rfl) ?_
    refine lv_iconst (v := 0) hx hb dX7_as_9 (by decide) ?_
    refine lv_bipush (v := 6) hx hb dX7_as_10 (by decide) ?_
    obtain ⟨r7, hg8, hf⟩ := b1_el hf
    refine cc_S0 (st1 := [.int r7]) [.int x2, .int 0, .int 6] hx hb hml hown hu (tX7_within l D cs x2 0 6 r7 hg8) q331 q54 q329 q330 pdX7_within ⟨rfl, rfl, Nat.le_of_ble_eq_true rfl, Nat.le_of_ble_eq_true rfl⟩ hK hZ hP hD hS hA rfl hl.1 rfl (Nat.le_of_ble_eq_true rfl) dX7_as_12 rfl (fun H locs hP hD hS => ?_)
    refine lv_if_ne (tgt := 25) hx hb dX7_as_15 (by decide) (fun hc9 => ?_) (fun hc9 => ?_)
    · have hf := in_el hc9 hf
      refine lv_aload_n hx hb dX7_as_25 rfl (lv_at hl 0 rfl) ?_
      refine va_get (D := D) (ci := 7) (v := .ref (are 0)) (C := RX7) (T := TX7) (N := 8) hx hb hu inX7 hown hK.1 hP 0 rfl rfl 0 (by decide) (hu _ q300) (fun _ h9 => h9) rfl dX7_as_26 ?_
      refine va_get (D := D) (ci := 2) (v := .ref (af 0)) (C := RX2) (T := TX2) (N := 4) hx hb hu inX2 hown hK.1 hP 2 rfl rfl 0 (by decide) (hu _ q196) (fun _ h9 => h9) rfl dX7_as_29 ?_
      refine va_get (D := D) (ci := 1) (v := .ref (af 2)) (C := RX1) (T := TX1) (N := 9) hx hb hu inX1 hown hK.1 hP 3 rfl rfl 1 (by decide) (hu _ q96) (fun _ h9 => h9) rfl dX7_as_32 ?_
      refine lv_iload_n hx hb dX7_as_35 rfl (lv_at hl 1 rfl) ?_
      obtain ⟨hi10, hf⟩ := ck_el hf
      refine va_iald hx hb hK.1 hP 4 0 rfl rfl hi10 dX7_as_36 ?_
      refine lv_iload_n hx hb dX7_as_37 rfl (lv_at hl 2 rfl) ?_
      obtain ⟨r11, hg12, hf⟩ := b1_el hf
      refine cc_S0 (st1 := [.int r11]) [.int (Fo 2 (Int32.toNatClampNeg x1)), .int x2] hx hb hml hown hu (tX7_isUnder l D cs (Fo 2 (Int32.toNatClampNeg x1)) x2 r11 hg12) q462 q54 q460 q461 pdX7_isUnder ⟨rfl, rfl, Nat.le_of_ble_eq_true rfl, Nat.le_of_ble_eq_true rfl⟩ hK hZ hP hD hS hA rfl hl.1 rfl (Nat.le_of_ble_eq_true rfl) dX7_as_38 rfl (fun H locs hP hD hS => ?_)
      refine lv_if_ne (tgt := 51) hx hb dX7_as_41 (by decide) (fun hc13 => ?_) (fun hc13 => ?_)
      · have hf := in_el hc13 hf
        refine lv_aload_n hx hb dX7_as_51 rfl (lv_at hl 0 rfl) ?_
        refine va_get (D := D) (ci := 7) (v := .ref (are 0)) (C := RX7) (T := TX7) (N := 8) hx hb hu inX7 hown hK.1 hP 0 rfl rfl 0 (by decide) (hu _ q300) (fun _ h9 => h9) rfl dX7_as_52 ?_
        refine va_get (D := D) (ci := 2) (v := .ref (ase 0)) (C := RX2) (T := TX2) (N := 4) hx hb hu inX2 hown hK.1 hP 2 rfl rfl 3 (by decide) (hu _ q204) (fun _ h9 => h9) rfl dX7_as_55 ?_
        refine va_get (D := D) (ci := 4) (v := .ref (ase 6)) (C := RX4) (T := TX4) (N := 10) hx hb hu inX4 hown hK.1 hP 10 rfl rfl 5 (by decide) (hu _ q166) (fun _ h9 => h9) rfl dX7_as_58 ?_
        refine lv_iload_n hx hb dX7_as_61 rfl (lv_at hl 1 rfl) ?_
        obtain ⟨hi14, hf⟩ := ck_el hf
        refine va_iald hx hb hK.1 hP 13 0 rfl rfl hi14 dX7_as_62 ?_
        have he := Option.some.inj hf
        obtain ⟨e0, e1⟩ := Prod.mk.inj he
        exact hri _ _ _ rfl (congrArg (fun z => some (Value.int z)) e0.symm) dX7_as_63 _ _ _ (by rw [e1]) hP hD hS
      · have hf := ip_el hc13 hf
        refine lv_aload_n hx hb dX7_as_44 rfl (lv_at hl 0 rfl) ?_
        refine lv_ldc (v := (-1000000003)) hx hb hown (hu _ q465) dX7_as_45 ?_
        obtain ⟨r15, Ma_16, hg17, hf⟩ := b2_el hf
        refine cc_V (w' := ((kX7 cs ama (.ref (are 0)) (.ref (are2 0)) (.ref (are3 0)) (.ref (ach 0)) (.ref (ata 0)) (.ref (asa 0)) Ma_16) ++ ((kX2 cs are (.ref (af 0)) (.ref (ac 0)) (.ref (atr 0)) (.ref (ase 0)) ) ++ ((kX1 cs af  Fo) ++ ((kX4 cs ase (.ref (af 0)) (.ref (ac 0)) (.ref (atr 0)) Se)))))) (wr := ((kX2 cs are (.ref (af 0)) (.ref (ac 0)) (.ref (atr 0)) (.ref (ase 0)) ) ++ ((kX1 cs af  Fo) ++ ((kX4 cs ase (.ref (af 0)) (.ref (ac 0)) (.ref (atr 0)) Se))))) (st1 := [.int r15]) [.int (-1000000003)] hx hb hml hown hu (tX7_finding l D cs ama are are2 are3 ach ata asa (-1000000003) Ma r15 Ma_16 hg17) q339 q54 q336 q338 q0 pdX7_finding ⟨rfl, rfl, Nat.le_of_ble_eq_true rfl, Nat.le_of_ble_eq_true rfl⟩ hK hZ hP hD hS hA [0, 1] [2, 3, 4, 5, 6, 7, 8, 9, 10, 11, 12, 13] [12, 13, 0, 1, 2, 3, 4, 5, 6, 7, 8, 9, 10, 11] rfl rfl rfl rfl rfl rfl rfl rfl rfl rfl hl.1 rfl (Nat.le_of_ble_eq_true rfl) dX7_as_47 rfl (fun H locs hP hD hS => ?_)
        have he := Option.some.inj hf
        obtain ⟨e0, e1⟩ := Prod.mk.inj he
        exact hri _ _ _ rfl (congrArg (fun z => some (Value.int z)) e0.symm) dX7_as_50 _ _ _ (by rw [e1]) hP hD hS
    · have hf := ip_el hc9 hf
      exact h18 Ma _ _ _ hP hD hS (lv_sub hl [0] rfl) hf

def fX7_likes_20 (Ma : ST) (Fo : ST) : Option (Int32 × ST × ST) :=
  dc_b2 (fX7_finding (-1000000001) Ma) (fun r4 Ma_5 => some (r4, Ma_5, Fo))
def fX7_likes (x1 : Int32) (x2 : Int32) (x3 : Int32) (Ma : ST) (Fo : ST) : Option (Int32 × ST × ST) :=
  dc_b1 (fX7_areTwo x1 x2 Ma Fo) (fun r1 => (if r1 = 0 then fX7_likes_20 Ma Fo else dc_b1 (fX7_within x3 (-9) 9) (fun r7 => (if r7 = 0 then fX7_likes_20 Ma Fo else dc_lt ((x1 * 10) + x2) (fun v10 => dc_ck v10 100 (dc_lt (Fo 7 (Int32.toNatClampNeg v10)) (fun v12 => dc_ck v10 100 (dc_lt (sti Fo 7 (Int32.toNatClampNeg v10) x3) (fun Fo_14 => some (v12, Ma, Fo_14))))))))))
abbrev rmX7_likes : Room := { frames := 3, cells := 0, slots := 0, locals := 65 }
set_option maxRecDepth 100000 in
set_option maxHeartbeats 4000000 in
theorem tX7_likes (l : Launch) (D : va_G) (cs : Nat → ClassId) (ama : Nat → Nat) (are : Nat → Nat) (are2 : Nat → Nat) (are3 : Nat → Nat) (ach : Nat → Nat) (ata : Nat → Nat) (asa : Nat → Nat) (af : Nat → Nat) (ac : Nat → Nat) (atr : Nat → Nat) (ase : Nat → Nat) (x1 : Int32) (x2 : Int32) (x3 : Int32) (Ma : ST) (Fo : ST) (r0 : Int32) (Maz : ST) (Foz : ST) (hf : fX7_likes x1 x2 x3 Ma Fo = some (r0, Maz, Foz)) : CG l yX7_likes (wsm yX7_likes cX7_likes 6 (some .int)) rmX7_likes D cs [.ref (ama 0), .int x1, .int x2, .int x3] (some (.int r0)) ((kX7 cs ama (.ref (are 0)) (.ref (are2 0)) (.ref (are3 0)) (.ref (ach 0)) (.ref (ata 0)) (.ref (asa 0)) Ma) ++ ((kX2 cs are (.ref (af 0)) (.ref (ac 0)) (.ref (atr 0)) (.ref (ase 0)) ) ++ ((kX1 cs af  Fo)))) ((kX7 cs ama (.ref (are 0)) (.ref (are2 0)) (.ref (are3 0)) (.ref (ach 0)) (.ref (ata 0)) (.ref (asa 0)) Maz) ++ ((kX2 cs are (.ref (af 0)) (.ref (ac 0)) (.ref (atr 0)) (.ref (ase 0)) ) ++ ((kX1 cs af  Foz)))) := by
  refine CG.intro (by decide) (Nat.le_of_ble_eq_true rfl) ?_
  intro p e s m below meth c A Q hx hb hml hown hu hK hZ hP0 hD0 hS0 hA hri hrz hrl hrv hra ls0 hl0
  have h20 : ∀ (Ma : ST) (Fo : ST) (H : Heap) (locs : List Loc) (ls : Array Slot), va_P D vwCl ((kX7 cs ama (.ref (are 0)) (.ref (are2 0)) (.ref (are3 0)) (.ref (ach 0)) (.ref (ata 0)) (.ref (asa 0)) Ma) ++ ((kX2 cs are (.ref (af 0)) (.ref (ac 0)) (.ref (atr 0)) (.ref (ase 0)) ) ++ ((kX1 cs af  Fo)))) H → va_D A ((kX7 cs ama (.ref (are 0)) (.ref (are2 0)) (.ref (are3 0)) (.ref (ach 0)) (.ref (ata 0)) (.ref (asa 0)) Ma) ++ ((kX2 cs are (.ref (af 0)) (.ref (ac 0)) (.ref (atr 0)) (.ref (ase 0)) ) ++ ((kX1 cs af  Fo)))) → va_S A s.heap H locs → lv_has ls 6 [(0, .ref (ama 0))] → fX7_likes_20 Ma Fo = some (r0, Maz, Foz) → W p l e rmX7_likes s m [.ref (ama 0), .int x1, .int x2, .int x3].toArray below meth c H locs 0 0 Q (F0 m 20 ls []) := by
    intro Ma Fo H locs ls hP hD hS hl hf
    unfold fX7_likes_20 at hf
    refine lv_aload_n hx hb dX7_likes_20 rfl (lv_at hl 0 rfl) ?_
    refine lv_ldc (v := (-1000000001)) hx hb hown (hu _ q335) dX7_likes_21 ?_
    obtain ⟨r4, Ma_5, hg6, hf⟩ := b2_el hf
    refine cc_V (w' := ((kX7 cs ama (.ref (are 0)) (.ref (are2 0)) (.ref (are3 0)) (.ref (ach 0)) (.ref (ata 0)) (.ref (asa 0)) Ma_5) ++ ((kX2 cs are (.ref (af 0)) (.ref (ac 0)) (.ref (atr 0)) (.ref (ase 0)) ) ++ ((kX1 cs af  Fo))))) (wr := ((kX2 cs are (.ref (af 0)) (.ref (ac 0)) (.ref (atr 0)) (.ref (ase 0)) ) ++ ((kX1 cs af  Fo)))) (st1 := [.int r4]) [.int (-1000000001)] hx hb hml hown hu (tX7_finding l D cs ama are are2 are3 ach ata asa (-1000000001) Ma r4 Ma_5 hg6) q339 q54 q336 q338 q0 pdX7_finding ⟨rfl, rfl, Nat.le_of_ble_eq_true rfl, Nat.le_of_ble_eq_true rfl⟩ hK hZ hP hD hS hA [0, 1] [2, 3, 4, 5, 6, 7, 8, 9] [8, 9, 0, 1, 2, 3, 4, 5, 6, 7] rfl rfl rfl rfl rfl rfl rfl rfl rfl rfl hl.1 rfl (Nat.le_of_ble_eq_true rfl) dX7_likes_23 rfl (fun H locs hP hD hS => ?_)
    have he := Option.some.inj hf
    obtain ⟨e0, ht0⟩ := Prod.mk.inj he
    obtain ⟨e1, e2⟩ := Prod.mk.inj ht0
    exact hri _ _ _ rfl (congrArg (fun z => some (Value.int z)) e0.symm) dX7_likes_26 _ _ _ (by rw [e1, e2]) hP hD hS
  have hl : lv_has ls0 6 [(0, .ref (ama 0)), (1, .int x1), (2, .int x2), (3, .int x3)] := hl0
  have hP := hP0
  have hD := hD0
  have hS := hS0
  unfold fX7_likes at hf
  refine lv_aload_n hx hb dX7_likes_0 rfl (lv_at hl 0 rfl) ?_
  refine lv_iload_n hx hb dX7_likes_1 rfl (lv_at hl 1 rfl) ?_
  refine lv_iload_n hx hb dX7_likes_2 rfl (lv_at hl 2 rfl) ?_
  obtain ⟨r1, hg2, hf⟩ := b1_el hf
  refine cc_V1 (w' := ((kX7 cs ama (.ref (are 0)) (.ref (are2 0)) (.ref (are3 0)) (.ref (ach 0)) (.ref (ata 0)) (.ref (asa 0)) Ma) ++ ((kX2 cs are (.ref (af 0)) (.ref (ac 0)) (.ref (atr 0)) (.ref (ase 0)) ) ++ ((kX1 cs af  Fo))))) (st1 := [.int r1]) [.int x1, .int x2] hx hb hml hown hu (tX7_areTwo l D cs ama are are2 are3 ach ata asa af ac atr ase x1 x2 Ma Fo r1 hg2) q473 q54 q470 q472 q5 pdX7_areTwo ⟨rfl, rfl, Nat.le_of_ble_eq_true rfl, Nat.le_of_ble_eq_true rfl⟩ hK hZ hP hD hS hA rfl rfl rfl rfl hl.1 rfl (Nat.le_of_ble_eq_true rfl) dX7_likes_3 rfl (fun H locs hP hD hS => ?_)
  refine lv_if_eq (tgt := 20) hx hb dX7_likes_6 (by decide) (fun hc3 => ?_) (fun hc3 => ?_)
  · have hf := ip_el hc3 hf
    exact h20 Ma Fo _ _ _ hP hD hS (lv_sub hl [0] rfl) hf
  · have hf := in_el hc3 hf
    refine lv_iload_n hx hb dX7_likes_9 rfl (lv_at hl 3 rfl) ?_
    refine lv_bipush (v := (-9)) hx hb dX7_likes_10 (by decide) ?_
    refine lv_bipush (v := 9) hx hb dX7_likes_12 (by decide) ?_
    obtain ⟨r7, hg8, hf⟩ := b1_el hf
    refine cc_S0 (st1 := [.int r7]) [.int x3, .int (-9), .int 9] hx hb hml hown hu (tX7_within l D cs x3 (-9) 9 r7 hg8) q331 q54 q329 q330 pdX7_within ⟨rfl, rfl, Nat.le_of_ble_eq_true rfl, Nat.le_of_ble_eq_true rfl⟩ hK hZ hP hD hS hA rfl hl.1 rfl (Nat.le_of_ble_eq_true rfl) dX7_likes_14 rfl (fun H locs hP hD hS => ?_)
    refine lv_if_ne (tgt := 27) hx hb dX7_likes_17 (by decide) (fun hc9 => ?_) (fun hc9 => ?_)
    · have hf := in_el hc9 hf
      refine lv_iload_n hx hb dX7_likes_27 rfl (lv_at hl 1 rfl) ?_
      refine lv_bipush (v := 10) hx hb dX7_likes_28 (by decide) ?_
      refine lv_imul hx hb dX7_likes_30 ?_
      refine lv_iload_n hx hb dX7_likes_31 rfl (lv_at hl 2 rfl) ?_
      refine lv_iadd hx hb dX7_likes_32 ?_
      obtain ⟨v10, hv10, hf⟩ := lt_el hf
      refine lv_tope hv10 ?_
      refine lv_istore (lv' := [(4, .int v10), (0, .ref (ama 0)), (1, .int x1), (2, .int x2), (3, .int x3)]) hx hb dX7_likes_33 hl (by decide) rfl (fun ls hl => ?_)
      refine lv_aload_n hx hb dX7_likes_35 rfl (lv_at hl 1 rfl) ?_
      refine va_get (D := D) (ci := 7) (v := .ref (are 0)) (C := RX7) (T := TX7) (N := 8) hx hb hu inX7 hown hK.1 hP 0 rfl rfl 0 (by decide) (hu _ q300) (fun _ h9 => h9) rfl dX7_likes_36 ?_
      refine va_get (D := D) (ci := 2) (v := .ref (af 0)) (C := RX2) (T := TX2) (N := 4) hx hb hu inX2 hown hK.1 hP 2 rfl rfl 0 (by decide) (hu _ q196) (fun _ h9 => h9) rfl dX7_likes_39 ?_
      refine va_get (D := D) (ci := 1) (v := .ref (af 7)) (C := RX1) (T := TX1) (N := 9) hx hb hu inX1 hown hK.1 hP 3 rfl rfl 6 (by decide) (hu _ q107) (fun _ h9 => h9) rfl dX7_likes_42 ?_
      refine lv_iload hx hb dX7_likes_45 (lv_at hl 0 rfl) ?_
      obtain ⟨hi11, hf⟩ := ck_el hf
      refine va_iald hx hb hK.1 hP 8 0 rfl rfl hi11 dX7_likes_47 ?_
      obtain ⟨v12, hv12, hf⟩ := lt_el hf
      refine lv_tope hv12 ?_
      refine lv_istore (lv' := [(5, .int v12), (4, .int v10), (0, .ref (ama 0)), (1, .int x1), (2, .int x2), (3, .int x3)]) hx hb dX7_likes_48 hl (by decide) rfl (fun ls hl => ?_)
      refine lv_aload_n hx hb dX7_likes_50 rfl (lv_at hl 2 rfl) ?_
      refine va_get (D := D) (ci := 7) (v := .ref (are 0)) (C := RX7) (T := TX7) (N := 8) hx hb hu inX7 hown hK.1 hP 0 rfl rfl 0 (by decide) (hu _ q300) (fun _ h9 => h9) rfl dX7_likes_51 ?_
      refine va_get (D := D) (ci := 2) (v := .ref (af 0)) (C := RX2) (T := TX2) (N := 4) hx hb hu inX2 hown hK.1 hP 2 rfl rfl 0 (by decide) (hu _ q196) (fun _ h9 => h9) rfl dX7_likes_54 ?_
      refine va_get (D := D) (ci := 1) (v := .ref (af 7)) (C := RX1) (T := TX1) (N := 9) hx hb hu inX1 hown hK.1 hP 3 rfl rfl 6 (by decide) (hu _ q107) (fun _ h9 => h9) rfl dX7_likes_57 ?_
      refine lv_iload hx hb dX7_likes_60 (lv_at hl 1 rfl) ?_
      refine lv_iload_n hx hb dX7_likes_62 rfl (lv_at hl 5 rfl) ?_
      obtain ⟨hi13, hf⟩ := ck_el hf
      obtain ⟨Fo_14, hFo_14, hf⟩ := lt_el hf
      refine va_iast hx hb hK.1 hP hD hS 8 0 rfl rfl hi13 dX7_likes_63 (fun H locs hP hD hS => ?_)
      have hP : va_P D vwCl ((kX7 cs ama (.ref (are 0)) (.ref (are2 0)) (.ref (are3 0)) (.ref (ach 0)) (.ref (ata 0)) (.ref (asa 0)) Ma) ++ ((kX2 cs are (.ref (af 0)) (.ref (ac 0)) (.ref (atr 0)) (.ref (ase 0)) ) ++ ((kX1 cs af  Fo_14)))) H := by rw [hFo_14]; exact hP
      have hD : va_D A ((kX7 cs ama (.ref (are 0)) (.ref (are2 0)) (.ref (are3 0)) (.ref (ach 0)) (.ref (ata 0)) (.ref (asa 0)) Ma) ++ ((kX2 cs are (.ref (af 0)) (.ref (ac 0)) (.ref (atr 0)) (.ref (ase 0)) ) ++ ((kX1 cs af  Fo_14)))) := by rw [hFo_14]; exact hD
      refine lv_iload hx hb dX7_likes_64 (lv_at hl 0 rfl) ?_
      have he := Option.some.inj hf
      obtain ⟨e0, ht0⟩ := Prod.mk.inj he
      obtain ⟨e1, e2⟩ := Prod.mk.inj ht0
      exact hri _ _ _ rfl (congrArg (fun z => some (Value.int z)) e0.symm) dX7_likes_66 _ _ _ (by rw [e1, e2]) hP hD hS
    · have hf := ip_el hc9 hf
      exact h20 Ma Fo _ _ _ hP hD hS (lv_sub hl [0] rfl) hf

def fX7_worth_25 (Ma : ST) (Fo : ST) : Option (Int32 × ST × ST) :=
  dc_b2 (fX7_finding (-1000000001) Ma) (fun r4 Ma_5 => some (r4, Ma_5, Fo))
def fX7_worth (x1 : Int32) (x2 : Int32) (x3 : Int32) (Ma : ST) (Fo : ST) : Option (Int32 × ST × ST) :=
  dc_b1 (fX7_isSort x1) (fun r1 => (if r1 = 0 then fX7_worth_25 Ma Fo else dc_b1 (fX7_isSort x2) (fun r7 => (if r7 = 0 then fX7_worth_25 Ma Fo else dc_b1 (fX7_within x3 (-99) 99) (fun r10 => (if r10 = 0 then fX7_worth_25 Ma Fo else dc_lt ((x1 * 4) + x2) (fun v13 => dc_ck v13 16 (dc_lt (Fo 8 (Int32.toNatClampNeg v13)) (fun v15 => dc_ck v13 16 (dc_lt (sti Fo 8 (Int32.toNatClampNeg v13) x3) (fun Fo_17 => some (v15, Ma, Fo_17))))))))))))
abbrev rmX7_worth : Room := { frames := 2, cells := 0, slots := 0, locals := 42 }
set_option maxRecDepth 100000 in
set_option maxHeartbeats 4000000 in
theorem tX7_worth (l : Launch) (D : va_G) (cs : Nat → ClassId) (ama : Nat → Nat) (are : Nat → Nat) (are2 : Nat → Nat) (are3 : Nat → Nat) (ach : Nat → Nat) (ata : Nat → Nat) (asa : Nat → Nat) (af : Nat → Nat) (ac : Nat → Nat) (atr : Nat → Nat) (ase : Nat → Nat) (x1 : Int32) (x2 : Int32) (x3 : Int32) (Ma : ST) (Fo : ST) (r0 : Int32) (Maz : ST) (Foz : ST) (hf : fX7_worth x1 x2 x3 Ma Fo = some (r0, Maz, Foz)) : CG l yX7_worth (wsm yX7_worth cX7_worth 6 (some .int)) rmX7_worth D cs [.ref (ama 0), .int x1, .int x2, .int x3] (some (.int r0)) ((kX7 cs ama (.ref (are 0)) (.ref (are2 0)) (.ref (are3 0)) (.ref (ach 0)) (.ref (ata 0)) (.ref (asa 0)) Ma) ++ ((kX2 cs are (.ref (af 0)) (.ref (ac 0)) (.ref (atr 0)) (.ref (ase 0)) ) ++ ((kX1 cs af  Fo)))) ((kX7 cs ama (.ref (are 0)) (.ref (are2 0)) (.ref (are3 0)) (.ref (ach 0)) (.ref (ata 0)) (.ref (asa 0)) Maz) ++ ((kX2 cs are (.ref (af 0)) (.ref (ac 0)) (.ref (atr 0)) (.ref (ase 0)) ) ++ ((kX1 cs af  Foz)))) := by
  refine CG.intro (by decide) (Nat.le_of_ble_eq_true rfl) ?_
  intro p e s m below meth c A Q hx hb hml hown hu hK hZ hP0 hD0 hS0 hA hri hrz hrl hrv hra ls0 hl0
  have h25 : ∀ (Ma : ST) (Fo : ST) (H : Heap) (locs : List Loc) (ls : Array Slot), va_P D vwCl ((kX7 cs ama (.ref (are 0)) (.ref (are2 0)) (.ref (are3 0)) (.ref (ach 0)) (.ref (ata 0)) (.ref (asa 0)) Ma) ++ ((kX2 cs are (.ref (af 0)) (.ref (ac 0)) (.ref (atr 0)) (.ref (ase 0)) ) ++ ((kX1 cs af  Fo)))) H → va_D A ((kX7 cs ama (.ref (are 0)) (.ref (are2 0)) (.ref (are3 0)) (.ref (ach 0)) (.ref (ata 0)) (.ref (asa 0)) Ma) ++ ((kX2 cs are (.ref (af 0)) (.ref (ac 0)) (.ref (atr 0)) (.ref (ase 0)) ) ++ ((kX1 cs af  Fo)))) → va_S A s.heap H locs → lv_has ls 6 [(0, .ref (ama 0))] → fX7_worth_25 Ma Fo = some (r0, Maz, Foz) → W p l e rmX7_worth s m [.ref (ama 0), .int x1, .int x2, .int x3].toArray below meth c H locs 0 0 Q (F0 m 25 ls []) := by
    intro Ma Fo H locs ls hP hD hS hl hf
    unfold fX7_worth_25 at hf
    refine lv_aload_n hx hb dX7_worth_25 rfl (lv_at hl 0 rfl) ?_
    refine lv_ldc (v := (-1000000001)) hx hb hown (hu _ q335) dX7_worth_26 ?_
    obtain ⟨r4, Ma_5, hg6, hf⟩ := b2_el hf
    refine cc_V (w' := ((kX7 cs ama (.ref (are 0)) (.ref (are2 0)) (.ref (are3 0)) (.ref (ach 0)) (.ref (ata 0)) (.ref (asa 0)) Ma_5) ++ ((kX2 cs are (.ref (af 0)) (.ref (ac 0)) (.ref (atr 0)) (.ref (ase 0)) ) ++ ((kX1 cs af  Fo))))) (wr := ((kX2 cs are (.ref (af 0)) (.ref (ac 0)) (.ref (atr 0)) (.ref (ase 0)) ) ++ ((kX1 cs af  Fo)))) (st1 := [.int r4]) [.int (-1000000001)] hx hb hml hown hu (tX7_finding l D cs ama are are2 are3 ach ata asa (-1000000001) Ma r4 Ma_5 hg6) q339 q54 q336 q338 q0 pdX7_finding ⟨rfl, rfl, Nat.le_of_ble_eq_true rfl, Nat.le_of_ble_eq_true rfl⟩ hK hZ hP hD hS hA [0, 1] [2, 3, 4, 5, 6, 7, 8, 9] [8, 9, 0, 1, 2, 3, 4, 5, 6, 7] rfl rfl rfl rfl rfl rfl rfl rfl rfl rfl hl.1 rfl (Nat.le_of_ble_eq_true rfl) dX7_worth_28 rfl (fun H locs hP hD hS => ?_)
    have he := Option.some.inj hf
    obtain ⟨e0, ht0⟩ := Prod.mk.inj he
    obtain ⟨e1, e2⟩ := Prod.mk.inj ht0
    exact hri _ _ _ rfl (congrArg (fun z => some (Value.int z)) e0.symm) dX7_worth_31 _ _ _ (by rw [e1, e2]) hP hD hS
  have hl : lv_has ls0 6 [(0, .ref (ama 0)), (1, .int x1), (2, .int x2), (3, .int x3)] := hl0
  have hP := hP0
  have hD := hD0
  have hS := hS0
  unfold fX7_worth at hf
  refine lv_iload_n hx hb dX7_worth_0 rfl (lv_at hl 1 rfl) ?_
  obtain ⟨r1, hg2, hf⟩ := b1_el hf
  refine cc_S0 (st1 := [.int r1]) [.int x1] hx hb hml hown hu (tX7_isSort l D cs x1 r1 hg2) q334 q54 q332 q333 pdX7_isSort ⟨rfl, rfl, Nat.le_of_ble_eq_true rfl, Nat.le_of_ble_eq_true rfl⟩ hK hZ hP hD hS hA rfl hl.1 rfl (Nat.le_of_ble_eq_true rfl) dX7_worth_1 rfl (fun H locs hP hD hS => ?_)
  refine lv_if_eq (tgt := 25) hx hb dX7_worth_4 (by decide) (fun hc3 => ?_) (fun hc3 => ?_)
  · have hf := ip_el hc3 hf
    exact h25 Ma Fo _ _ _ hP hD hS (lv_sub hl [0] rfl) hf
  · have hf := in_el hc3 hf
    refine lv_iload_n hx hb dX7_worth_7 rfl (lv_at hl 2 rfl) ?_
    obtain ⟨r7, hg8, hf⟩ := b1_el hf
    refine cc_S0 (st1 := [.int r7]) [.int x2] hx hb hml hown hu (tX7_isSort l D cs x2 r7 hg8) q334 q54 q332 q333 pdX7_isSort ⟨rfl, rfl, Nat.le_of_ble_eq_true rfl, Nat.le_of_ble_eq_true rfl⟩ hK hZ hP hD hS hA rfl hl.1 rfl (Nat.le_of_ble_eq_true rfl) dX7_worth_8 rfl (fun H locs hP hD hS => ?_)
    refine lv_if_eq (tgt := 25) hx hb dX7_worth_11 (by decide) (fun hc9 => ?_) (fun hc9 => ?_)
    · have hf := ip_el hc9 hf
      exact h25 Ma Fo _ _ _ hP hD hS (lv_sub hl [0] rfl) hf
    · have hf := in_el hc9 hf
      refine lv_iload_n hx hb dX7_worth_14 rfl (lv_at hl 3 rfl) ?_
      refine lv_bipush (v := (-99)) hx hb dX7_worth_15 (by decide) ?_
      refine lv_bipush (v := 99) hx hb dX7_worth_17 (by decide) ?_
      obtain ⟨r10, hg11, hf⟩ := b1_el hf
      refine cc_S0 (st1 := [.int r10]) [.int x3, .int (-99), .int 99] hx hb hml hown hu (tX7_within l D cs x3 (-99) 99 r10 hg11) q331 q54 q329 q330 pdX7_within ⟨rfl, rfl, Nat.le_of_ble_eq_true rfl, Nat.le_of_ble_eq_true rfl⟩ hK hZ hP hD hS hA rfl hl.1 rfl (Nat.le_of_ble_eq_true rfl) dX7_worth_19 rfl (fun H locs hP hD hS => ?_)
      refine lv_if_ne (tgt := 32) hx hb dX7_worth_22 (by decide) (fun hc12 => ?_) (fun hc12 => ?_)
      · have hf := in_el hc12 hf
        refine lv_iload_n hx hb dX7_worth_32 rfl (lv_at hl 1 rfl) ?_
        refine lv_iconst (v := 4) hx hb dX7_worth_33 (by decide) ?_
        refine lv_imul hx hb dX7_worth_34 ?_
        refine lv_iload_n hx hb dX7_worth_35 rfl (lv_at hl 2 rfl) ?_
        refine lv_iadd hx hb dX7_worth_36 ?_
        obtain ⟨v13, hv13, hf⟩ := lt_el hf
        refine lv_tope hv13 ?_
        refine lv_istore (lv' := [(4, .int v13), (0, .ref (ama 0)), (1, .int x1), (2, .int x2), (3, .int x3)]) hx hb dX7_worth_37 hl (by decide) rfl (fun ls hl => ?_)
        refine lv_aload_n hx hb dX7_worth_39 rfl (lv_at hl 1 rfl) ?_
        refine va_get (D := D) (ci := 7) (v := .ref (are 0)) (C := RX7) (T := TX7) (N := 8) hx hb hu inX7 hown hK.1 hP 0 rfl rfl 0 (by decide) (hu _ q300) (fun _ h9 => h9) rfl dX7_worth_40 ?_
        refine va_get (D := D) (ci := 2) (v := .ref (af 0)) (C := RX2) (T := TX2) (N := 4) hx hb hu inX2 hown hK.1 hP 2 rfl rfl 0 (by decide) (hu _ q196) (fun _ h9 => h9) rfl dX7_worth_43 ?_
        refine va_get (D := D) (ci := 1) (v := .ref (af 8)) (C := RX1) (T := TX1) (N := 9) hx hb hu inX1 hown hK.1 hP 3 rfl rfl 7 (by decide) (hu _ q111) (fun _ h9 => h9) rfl dX7_worth_46 ?_
        refine lv_iload hx hb dX7_worth_49 (lv_at hl 0 rfl) ?_
        obtain ⟨hi14, hf⟩ := ck_el hf
        refine va_iald hx hb hK.1 hP 9 0 rfl rfl hi14 dX7_worth_51 ?_
        obtain ⟨v15, hv15, hf⟩ := lt_el hf
        refine lv_tope hv15 ?_
        refine lv_istore (lv' := [(5, .int v15), (4, .int v13), (0, .ref (ama 0)), (1, .int x1), (2, .int x2), (3, .int x3)]) hx hb dX7_worth_52 hl (by decide) rfl (fun ls hl => ?_)
        refine lv_aload_n hx hb dX7_worth_54 rfl (lv_at hl 2 rfl) ?_
        refine va_get (D := D) (ci := 7) (v := .ref (are 0)) (C := RX7) (T := TX7) (N := 8) hx hb hu inX7 hown hK.1 hP 0 rfl rfl 0 (by decide) (hu _ q300) (fun _ h9 => h9) rfl dX7_worth_55 ?_
        refine va_get (D := D) (ci := 2) (v := .ref (af 0)) (C := RX2) (T := TX2) (N := 4) hx hb hu inX2 hown hK.1 hP 2 rfl rfl 0 (by decide) (hu _ q196) (fun _ h9 => h9) rfl dX7_worth_58 ?_
        refine va_get (D := D) (ci := 1) (v := .ref (af 8)) (C := RX1) (T := TX1) (N := 9) hx hb hu inX1 hown hK.1 hP 3 rfl rfl 7 (by decide) (hu _ q111) (fun _ h9 => h9) rfl dX7_worth_61 ?_
        refine lv_iload hx hb dX7_worth_64 (lv_at hl 1 rfl) ?_
        refine lv_iload_n hx hb dX7_worth_66 rfl (lv_at hl 5 rfl) ?_
        obtain ⟨hi16, hf⟩ := ck_el hf
        obtain ⟨Fo_17, hFo_17, hf⟩ := lt_el hf
        refine va_iast hx hb hK.1 hP hD hS 9 0 rfl rfl hi16 dX7_worth_67 (fun H locs hP hD hS => ?_)
        have hP : va_P D vwCl ((kX7 cs ama (.ref (are 0)) (.ref (are2 0)) (.ref (are3 0)) (.ref (ach 0)) (.ref (ata 0)) (.ref (asa 0)) Ma) ++ ((kX2 cs are (.ref (af 0)) (.ref (ac 0)) (.ref (atr 0)) (.ref (ase 0)) ) ++ ((kX1 cs af  Fo_17)))) H := by rw [hFo_17]; exact hP
        have hD : va_D A ((kX7 cs ama (.ref (are 0)) (.ref (are2 0)) (.ref (are3 0)) (.ref (ach 0)) (.ref (ata 0)) (.ref (asa 0)) Ma) ++ ((kX2 cs are (.ref (af 0)) (.ref (ac 0)) (.ref (atr 0)) (.ref (ase 0)) ) ++ ((kX1 cs af  Fo_17)))) := by rw [hFo_17]; exact hD
        refine lv_iload hx hb dX7_worth_68 (lv_at hl 0 rfl) ?_
        have he := Option.some.inj hf
        obtain ⟨e0, ht0⟩ := Prod.mk.inj he
        obtain ⟨e1, e2⟩ := Prod.mk.inj ht0
        exact hri _ _ _ rfl (congrArg (fun z => some (Value.int z)) e0.symm) dX7_worth_70 _ _ _ (by rw [e1, e2]) hP hD hS
      · have hf := ip_el hc12 hf
        exact h25 Ma Fo _ _ _ hP hD hS (lv_sub hl [0] rfl) hf

def fX7_rule_26 (Ma : ST) (Se : ST) : Option (Int32 × ST × ST) :=
  dc_b2 (fX7_finding (-1000000001) Ma) (fun r4 Ma_5 => some (r4, Ma_5, Se))
def fX7_rule (x1 : Int32) (x2 : Int32) (Ma : ST) (Se : ST) : Option (Int32 × ST × ST) :=
  dc_b1 (fX7_within x1 0 5) (fun r1 => (if r1 = 0 then fX7_rule_26 Ma Se else dc_ck x1 6 (dc_ck x1 6 (dc_b1 (fX7_within x2 (tabL (Int32.toNatClampNeg x1)) (tabM (Int32.toNatClampNeg x1))) (fun r9 => (if r9 = 0 then fX7_rule_26 Ma Se else dc_ck x1 6 (dc_lt (Se 4 (Int32.toNatClampNeg x1)) (fun v13 => dc_b1 (fX4_giveRule x1 x2 Se) (fun Se_14 => some (v13, Ma, Se_14))))))))))
abbrev rmX7_rule : Room := { frames := 3, cells := 0, slots := 0, locals := 68 }
set_option maxRecDepth 100000 in
set_option maxHeartbeats 4000000 in
theorem tX7_rule (l : Launch) (D : va_G) (cs : Nat → ClassId) (ama : Nat → Nat) (are : Nat → Nat) (are2 : Nat → Nat) (are3 : Nat → Nat) (ach : Nat → Nat) (ata : Nat → Nat) (asa : Nat → Nat) (af : Nat → Nat) (ac : Nat → Nat) (atr : Nat → Nat) (ase : Nat → Nat) (x1 : Int32) (x2 : Int32) (Ma : ST) (Se : ST) (r0 : Int32) (Maz : ST) (Sez : ST) (hf : fX7_rule x1 x2 Ma Se = some (r0, Maz, Sez)) : CG l yX7_rule (wsm yX7_rule cX7_rule 4 (some .int)) rmX7_rule D cs [.ref (ama 0), .int x1, .int x2] (some (.int r0)) ((kX7 cs ama (.ref (are 0)) (.ref (are2 0)) (.ref (are3 0)) (.ref (ach 0)) (.ref (ata 0)) (.ref (asa 0)) Ma) ++ ((kX2 cs are (.ref (af 0)) (.ref (ac 0)) (.ref (atr 0)) (.ref (ase 0)) ) ++ ((kX4 cs ase (.ref (af 0)) (.ref (ac 0)) (.ref (atr 0)) Se)))) ((kX7 cs ama (.ref (are 0)) (.ref (are2 0)) (.ref (are3 0)) (.ref (ach 0)) (.ref (ata 0)) (.ref (asa 0)) Maz) ++ ((kX2 cs are (.ref (af 0)) (.ref (ac 0)) (.ref (atr 0)) (.ref (ase 0)) ) ++ ((kX4 cs ase (.ref (af 0)) (.ref (ac 0)) (.ref (atr 0)) Sez)))) := by
  refine CG.intro (by decide) (Nat.le_of_ble_eq_true rfl) ?_
  intro p e s m below meth c A Q hx hb hml hown hu hK hZ hP0 hD0 hS0 hA hri hrz hrl hrv hra ls0 hl0
  have h26 : ∀ (Ma : ST) (Se : ST) (H : Heap) (locs : List Loc) (ls : Array Slot), va_P D vwCl ((kX7 cs ama (.ref (are 0)) (.ref (are2 0)) (.ref (are3 0)) (.ref (ach 0)) (.ref (ata 0)) (.ref (asa 0)) Ma) ++ ((kX2 cs are (.ref (af 0)) (.ref (ac 0)) (.ref (atr 0)) (.ref (ase 0)) ) ++ ((kX4 cs ase (.ref (af 0)) (.ref (ac 0)) (.ref (atr 0)) Se)))) H → va_D A ((kX7 cs ama (.ref (are 0)) (.ref (are2 0)) (.ref (are3 0)) (.ref (ach 0)) (.ref (ata 0)) (.ref (asa 0)) Ma) ++ ((kX2 cs are (.ref (af 0)) (.ref (ac 0)) (.ref (atr 0)) (.ref (ase 0)) ) ++ ((kX4 cs ase (.ref (af 0)) (.ref (ac 0)) (.ref (atr 0)) Se)))) → va_S A s.heap H locs → lv_has ls 4 [(0, .ref (ama 0))] → fX7_rule_26 Ma Se = some (r0, Maz, Sez) → W p l e rmX7_rule s m [.ref (ama 0), .int x1, .int x2].toArray below meth c H locs 0 0 Q (F0 m 26 ls []) := by
    intro Ma Se H locs ls hP hD hS hl hf
    unfold fX7_rule_26 at hf
    refine lv_aload_n hx hb dX7_rule_26 rfl (lv_at hl 0 rfl) ?_
    refine lv_ldc (v := (-1000000001)) hx hb hown (hu _ q335) dX7_rule_27 ?_
    obtain ⟨r4, Ma_5, hg6, hf⟩ := b2_el hf
    refine cc_V (w' := ((kX7 cs ama (.ref (are 0)) (.ref (are2 0)) (.ref (are3 0)) (.ref (ach 0)) (.ref (ata 0)) (.ref (asa 0)) Ma_5) ++ ((kX2 cs are (.ref (af 0)) (.ref (ac 0)) (.ref (atr 0)) (.ref (ase 0)) ) ++ ((kX4 cs ase (.ref (af 0)) (.ref (ac 0)) (.ref (atr 0)) Se))))) (wr := ((kX2 cs are (.ref (af 0)) (.ref (ac 0)) (.ref (atr 0)) (.ref (ase 0)) ) ++ ((kX4 cs ase (.ref (af 0)) (.ref (ac 0)) (.ref (atr 0)) Se)))) (st1 := [.int r4]) [.int (-1000000001)] hx hb hml hown hu (tX7_finding l D cs ama are are2 are3 ach ata asa (-1000000001) Ma r4 Ma_5 hg6) q339 q54 q336 q338 q0 pdX7_finding ⟨rfl, rfl, Nat.le_of_ble_eq_true rfl, Nat.le_of_ble_eq_true rfl⟩ hK hZ hP hD hS hA [0, 1] [2, 3, 4, 5, 6] [5, 6, 0, 1, 2, 3, 4] rfl rfl rfl rfl rfl rfl rfl rfl rfl rfl hl.1 rfl (Nat.le_of_ble_eq_true rfl) dX7_rule_29 rfl (fun H locs hP hD hS => ?_)
    have he := Option.some.inj hf
    obtain ⟨e0, ht0⟩ := Prod.mk.inj he
    obtain ⟨e1, e2⟩ := Prod.mk.inj ht0
    exact hri _ _ _ rfl (congrArg (fun z => some (Value.int z)) e0.symm) dX7_rule_32 _ _ _ (by rw [e1, e2]) hP hD hS
  have hl : lv_has ls0 4 [(0, .ref (ama 0)), (1, .int x1), (2, .int x2)] := hl0
  have hP := hP0
  have hD := hD0
  have hS := hS0
  unfold fX7_rule at hf
  refine lv_iload_n hx hb dX7_rule_0 rfl (lv_at hl 1 rfl) ?_
  refine lv_iconst (v := 0) hx hb dX7_rule_1 (by decide) ?_
  refine lv_iconst (v := 5) hx hb dX7_rule_2 (by decide) ?_
  obtain ⟨r1, hg2, hf⟩ := b1_el hf
  refine cc_S0 (st1 := [.int r1]) [.int x1, .int 0, .int 5] hx hb hml hown hu (tX7_within l D cs x1 0 5 r1 hg2) q331 q54 q329 q330 pdX7_within ⟨rfl, rfl, Nat.le_of_ble_eq_true rfl, Nat.le_of_ble_eq_true rfl⟩ hK hZ hP hD hS hA rfl hl.1 rfl (Nat.le_of_ble_eq_true rfl) dX7_rule_3 rfl (fun H locs hP hD hS => ?_)
  refine lv_if_eq (tgt := 26) hx hb dX7_rule_6 (by decide) (fun hc3 => ?_) (fun hc3 => ?_)
  · have hf := ip_el hc3 hf
    exact h26 Ma Se _ _ _ hP hD hS (lv_sub hl [0] rfl) hf
  · have hf := in_el hc3 hf
    refine lv_iload_n hx hb dX7_rule_9 rfl (lv_at hl 2 rfl) ?_
    refine va_gets hx hb hZ.2.1.1 hS hown (hu _ q482) (fun _ h9 => h9) dX7_rule_10 ?_
    refine lv_iload_n hx hb dX7_rule_13 rfl (lv_at hl 1 rfl) ?_
    obtain ⟨hi7, hf⟩ := ck_el hf
    refine va_ti (v := .int (tabL (Int32.toNatClampNeg x1))) hx hb hZ.2.1.2 hS hi7 rfl dX7_rule_14 ?_
    refine va_gets hx hb hZ.2.2.1.1 hS hown (hu _ q484) (fun _ h9 => h9) dX7_rule_15 ?_
    refine lv_iload_n hx hb dX7_rule_18 rfl (lv_at hl 1 rfl) ?_
    obtain ⟨hi8, hf⟩ := ck_el hf
    refine va_ti (v := .int (tabM (Int32.toNatClampNeg x1))) hx hb hZ.2.2.1.2 hS hi8 rfl dX7_rule_19 ?_
    obtain ⟨r9, hg10, hf⟩ := b1_el hf
    refine cc_S0 (st1 := [.int r9]) [.int x2, .int (tabL (Int32.toNatClampNeg x1)), .int (tabM (Int32.toNatClampNeg x1))] hx hb hml hown hu (tX7_within l D cs x2 (tabL (Int32.toNatClampNeg x1)) (tabM (Int32.toNatClampNeg x1)) r9 hg10) q331 q54 q329 q330 pdX7_within ⟨rfl, rfl, Nat.le_of_ble_eq_true rfl, Nat.le_of_ble_eq_true rfl⟩ hK hZ hP hD hS hA rfl hl.1 rfl (Nat.le_of_ble_eq_true rfl) dX7_rule_20 rfl (fun H locs hP hD hS => ?_)
    refine lv_if_ne (tgt := 33) hx hb dX7_rule_23 (by decide) (fun hc11 => ?_) (fun hc11 => ?_)
    · have hf := in_el hc11 hf
      refine lv_aload_n hx hb dX7_rule_33 rfl (lv_at hl 0 rfl) ?_
      refine va_get (D := D) (ci := 7) (v := .ref (are 0)) (C := RX7) (T := TX7) (N := 8) hx hb hu inX7 hown hK.1 hP 0 rfl rfl 0 (by decide) (hu _ q300) (fun _ h9 => h9) rfl dX7_rule_34 ?_
      refine va_get (D := D) (ci := 2) (v := .ref (ase 0)) (C := RX2) (T := TX2) (N := 4) hx hb hu inX2 hown hK.1 hP 2 rfl rfl 3 (by decide) (hu _ q204) (fun _ h9 => h9) rfl dX7_rule_37 ?_
      refine va_get (D := D) (ci := 4) (v := .ref (ase 4)) (C := RX4) (T := TX4) (N := 10) hx hb hu inX4 hown hK.1 hP 3 rfl rfl 3 (by decide) (hu _ q162) (fun _ h9 => h9) rfl dX7_rule_40 ?_
      refine lv_iload_n hx hb dX7_rule_43 rfl (lv_at hl 1 rfl) ?_
      obtain ⟨hi12, hf⟩ := ck_el hf
      refine va_iald hx hb hK.1 hP 4 0 rfl rfl hi12 dX7_rule_44 ?_
      obtain ⟨v13, hv13, hf⟩ := lt_el hf
      refine lv_tope hv13 ?_
      refine lv_istore_n (lv' := [(3, .int v13), (0, .ref (ama 0)), (1, .int x1), (2, .int x2)]) hx hb dX7_rule_45 rfl hl (by decide) rfl (fun ls hl => ?_)
      refine lv_aload_n hx hb dX7_rule_46 rfl (lv_at hl 1 rfl) ?_
      refine va_get (D := D) (ci := 7) (v := .ref (are 0)) (C := RX7) (T := TX7) (N := 8) hx hb hu inX7 hown hK.1 hP 0 rfl rfl 0 (by decide) (hu _ q300) (fun _ h9 => h9) rfl dX7_rule_47 ?_
      refine va_get (D := D) (ci := 2) (v := .ref (ase 0)) (C := RX2) (T := TX2) (N := 4) hx hb hu inX2 hown hK.1 hP 2 rfl rfl 3 (by decide) (hu _ q204) (fun _ h9 => h9) rfl dX7_rule_50 ?_
      refine lv_iload_n hx hb dX7_rule_53 rfl (lv_at hl 2 rfl) ?_
      refine lv_iload_n hx hb dX7_rule_54 rfl (lv_at hl 3 rfl) ?_
      obtain ⟨Se_14, hg15, hf⟩ := b1_el hf
      refine cc_V (w' := ((kX7 cs ama (.ref (are 0)) (.ref (are2 0)) (.ref (are3 0)) (.ref (ach 0)) (.ref (ata 0)) (.ref (asa 0)) Ma) ++ ((kX2 cs are (.ref (af 0)) (.ref (ac 0)) (.ref (atr 0)) (.ref (ase 0)) ) ++ ((kX4 cs ase (.ref (af 0)) (.ref (ac 0)) (.ref (atr 0)) Se_14))))) (wr := ((kX7 cs ama (.ref (are 0)) (.ref (are2 0)) (.ref (are3 0)) (.ref (ach 0)) (.ref (ata 0)) (.ref (asa 0)) Ma) ++ ((kX2 cs are (.ref (af 0)) (.ref (ac 0)) (.ref (atr 0)) (.ref (ase 0)) )))) (st1 := []) [.int x1, .int x2] hx hb hml hown hu (tX4_giveRule l D cs ase (.ref (af 0)) (.ref (ac 0)) (.ref (atr 0)) x1 x2 Se Se_14 hg15) q489 q58 q486 q487 q488 pdX4_giveRule ⟨rfl, rfl, Nat.le_of_ble_eq_true rfl, Nat.le_of_ble_eq_true rfl⟩ hK hZ hP hD hS hA [3, 4, 5, 6] [0, 1, 2] [0, 1, 2, 3, 4, 5, 6] rfl rfl rfl rfl rfl rfl rfl rfl rfl rfl hl.1 rfl (Nat.le_of_ble_eq_true rfl) dX7_rule_55 rfl (fun H locs hP hD hS => ?_)
      refine lv_iload_n hx hb dX7_rule_58 rfl (lv_at hl 0 rfl) ?_
      have he := Option.some.inj hf
      obtain ⟨e0, ht0⟩ := Prod.mk.inj he
      obtain ⟨e1, e2⟩ := Prod.mk.inj ht0
      exact hri _ _ _ rfl (congrArg (fun z => some (Value.int z)) e0.symm) dX7_rule_59 _ _ _ (by rw [e1, e2]) hP hD hS
    · have hf := ip_el hc11 hf
      exact h26 Ma Se _ _ _ hP hD hS (lv_sub hl [0] rfl) hf

def fX7_sit_60 (Fo : ST) (y1 : Int32) (Ma : ST) (Se : ST) : Option (Int32 × ST × ST) :=
  dc_lt (Se 0 6) (fun v3 => dc_lt (sti Se 0 6 y1) (fun Se_4 => dc_lt (sti Se_4 0 7 0) (fun Se_5 => some (v3, Ma, Se_5))))
def fX7_sit_53 (Fo : ST) (Ma : ST) (Se : ST) : Option (Int32 × ST × ST) :=
  dc_b2 (fX7_finding (-1000000005) Ma) (fun r9 Ma_10 => some (r9, Ma_10, Se))
def fX7_sit_20 (Fo : ST) (y1 : Int32) (Ma : ST) (Se : ST) : Option (Int32 × ST × ST) :=
  (if y1 = (-1) then fX7_sit_60 Fo y1 Ma Se else dc_b1 (fX1_isAlive y1 Fo) (fun r6 => (if r6 = 0 then fX7_sit_53 Fo Ma Se else dc_b1 (fX4_placeOf y1 Se) (fun r12 => (if r12 < 0 then fX7_sit_60 Fo y1 Ma Se else fX7_sit_53 Fo Ma Se)))))
def fX7_sit (x1 : Int32) (Ma : ST) (Fo : ST) (Se : ST) : Option (Int32 × ST × ST) :=
  (if x1 = (-1) then fX7_sit_20 Fo x1 Ma Se else dc_b1 (fX7_isOne x1 Ma Fo) (fun r15 => (if r15 = 0 then dc_b2 (fX7_finding (-1000000001) Ma) (fun r18 Ma_19 => some (r18, Ma_19, Se)) else fX7_sit_20 Fo x1 Ma Se)))
abbrev rmX7_sit : Room := { frames := 2, cells := 0, slots := 0, locals := 43 }
set_option maxRecDepth 100000 in
set_option maxHeartbeats 4000000 in
theorem tX7_sit (l : Launch) (D : va_G) (cs : Nat → ClassId) (ama : Nat → Nat) (are : Nat → Nat) (are2 : Nat → Nat) (are3 : Nat → Nat) (ach : Nat → Nat) (ata : Nat → Nat) (asa : Nat → Nat) (af : Nat → Nat) (ac : Nat → Nat) (atr : Nat → Nat) (ase : Nat → Nat) (x1 : Int32) (Ma : ST) (Fo : ST) (Se : ST) (r0 : Int32) (Maz : ST) (Sez : ST) (hf : fX7_sit x1 Ma Fo Se = some (r0, Maz, Sez)) : CG l yX7_sit (wsm yX7_sit cX7_sit 3 (some .int)) rmX7_sit D cs [.ref (ama 0), .int x1] (some (.int r0)) ((kX7 cs ama (.ref (are 0)) (.ref (are2 0)) (.ref (are3 0)) (.ref (ach 0)) (.ref (ata 0)) (.ref (asa 0)) Ma) ++ ((kX2 cs are (.ref (af 0)) (.ref (ac 0)) (.ref (atr 0)) (.ref (ase 0)) ) ++ ((kX1 cs af  Fo) ++ ((kX4 cs ase (.ref (af 0)) (.ref (ac 0)) (.ref (atr 0)) Se))))) ((kX7 cs ama (.ref (are 0)) (.ref (are2 0)) (.ref (are3 0)) (.ref (ach 0)) (.ref (ata 0)) (.ref (asa 0)) Maz) ++ ((kX2 cs are (.ref (af 0)) (.ref (ac 0)) (.ref (atr 0)) (.ref (ase 0)) ) ++ ((kX1 cs af  Fo) ++ ((kX4 cs ase (.ref (af 0)) (.ref (ac 0)) (.ref (atr 0)) Sez))))) := by
  refine CG.intro (by decide) (Nat.le_of_ble_eq_true rfl) ?_
  intro p e s m below meth c A Q hx hb hml hown hu hK hZ hP0 hD0 hS0 hA hri hrz hrl hrv hra ls0 hl0
  have h60 : ∀ (y1 : Int32) (Ma : ST) (Se : ST) (H : Heap) (locs : List Loc) (ls : Array Slot), va_P D vwCl ((kX7 cs ama (.ref (are 0)) (.ref (are2 0)) (.ref (are3 0)) (.ref (ach 0)) (.ref (ata 0)) (.ref (asa 0)) Ma) ++ ((kX2 cs are (.ref (af 0)) (.ref (ac 0)) (.ref (atr 0)) (.ref (ase 0)) ) ++ ((kX1 cs af  Fo) ++ ((kX4 cs ase (.ref (af 0)) (.ref (ac 0)) (.ref (atr 0)) Se))))) H → va_D A ((kX7 cs ama (.ref (are 0)) (.ref (are2 0)) (.ref (are3 0)) (.ref (ach 0)) (.ref (ata 0)) (.ref (asa 0)) Ma) ++ ((kX2 cs are (.ref (af 0)) (.ref (ac 0)) (.ref (atr 0)) (.ref (ase 0)) ) ++ ((kX1 cs af  Fo) ++ ((kX4 cs ase (.ref (af 0)) (.ref (ac 0)) (.ref (atr 0)) Se))))) → va_S A s.heap H locs → lv_has ls 3 [(0, .ref (ama 0)), (1, .int y1)] → fX7_sit_60 Fo y1 Ma Se = some (r0, Maz, Sez) → W p l e rmX7_sit s m [.ref (ama 0), .int x1].toArray below meth c H locs 0 0 Q (F0 m 60 ls []) := by
    intro y1 Ma Se H locs ls hP hD hS hl hf
    unfold fX7_sit_60 at hf
    refine lv_aload_n hx hb dX7_sit_60 rfl (lv_at hl 0 rfl) ?_
    refine va_get (D := D) (ci := 7) (v := .ref (are 0)) (C := RX7) (T := TX7) (N := 8) hx hb hu inX7 hown hK.1 hP 0 rfl rfl 0 (by decide) (hu _ q300) (fun _ h9 => h9) rfl dX7_sit_61 ?_
    refine va_get (D := D) (ci := 2) (v := .ref (ase 0)) (C := RX2) (T := TX2) (N := 4) hx hb hu inX2 hown hK.1 hP 2 rfl rfl 3 (by decide) (hu _ q204) (fun _ h9 => h9) rfl dX7_sit_64 ?_
    refine va_get (D := D) (ci := 4) (v := .int (Se 0 6)) (C := RX4) (T := TX4) (N := 10) hx hb hu inX4 hown hK.1 hP 10 rfl rfl 6 (by decide) (hu _ q168) (fun _ h9 => h9) rfl dX7_sit_67 ?_
    obtain ⟨v3, hv3, hf⟩ := lt_el hf
    refine lv_tope hv3 ?_
    refine lv_istore_n (lv' := [(2, .int v3), (0, .ref (ama 0)), (1, .int y1)]) hx hb dX7_sit_70 rfl hl (by decide) rfl (fun ls hl => ?_)
    refine lv_aload_n hx hb dX7_sit_71 rfl (lv_at hl 1 rfl) ?_
    refine va_get (D := D) (ci := 7) (v := .ref (are 0)) (C := RX7) (T := TX7) (N := 8) hx hb hu inX7 hown hK.1 hP 0 rfl rfl 0 (by decide) (hu _ q300) (fun _ h9 => h9) rfl dX7_sit_72 ?_
    refine va_get (D := D) (ci := 2) (v := .ref (ase 0)) (C := RX2) (T := TX2) (N := 4) hx hb hu inX2 hown hK.1 hP 2 rfl rfl 3 (by decide) (hu _ q204) (fun _ h9 => h9) rfl dX7_sit_75 ?_
    refine lv_iload_n hx hb dX7_sit_78 rfl (lv_at hl 2 rfl) ?_
    obtain ⟨Se_4, hSe_4, hf⟩ := lt_el hf
    refine va_put (D := D) (ci := 4) (v := .int y1) (ty := .int) (C := RX4) (T := TX4) (N := 10) hx hb hu inX4 tyX4 tyX4_ok nmX4 hown hK.1 hP hD hS 10 rfl rfl 6 (by decide) (hu _ q168) (fun _ h9 => h9) rfl (by decide +kernel) rfl rfl (Nat.le_of_ble_eq_true rfl) dX7_sit_79 (fun H locs hP hD hS => ?_)
    have hP : va_P D vwCl ((kX7 cs ama (.ref (are 0)) (.ref (are2 0)) (.ref (are3 0)) (.ref (ach 0)) (.ref (ata 0)) (.ref (asa 0)) Ma) ++ ((kX2 cs are (.ref (af 0)) (.ref (ac 0)) (.ref (atr 0)) (.ref (ase 0)) ) ++ ((kX1 cs af  Fo) ++ ((kX4 cs ase (.ref (af 0)) (.ref (ac 0)) (.ref (atr 0)) Se_4))))) H := by rw [hSe_4]; exact hP
    have hD : va_D A ((kX7 cs ama (.ref (are 0)) (.ref (are2 0)) (.ref (are3 0)) (.ref (ach 0)) (.ref (ata 0)) (.ref (asa 0)) Ma) ++ ((kX2 cs are (.ref (af 0)) (.ref (ac 0)) (.ref (atr 0)) (.ref (ase 0)) ) ++ ((kX1 cs af  Fo) ++ ((kX4 cs ase (.ref (af 0)) (.ref (ac 0)) (.ref (atr 0)) Se_4))))) := by rw [hSe_4]; exact hD
    refine lv_aload_n hx hb dX7_sit_82 rfl (lv_at hl 1 rfl) ?_
    refine va_get (D := D) (ci := 7) (v := .ref (are 0)) (C := RX7) (T := TX7) (N := 8) hx hb hu inX7 hown hK.1 hP 0 rfl rfl 0 (by decide) (hu _ q300) (fun _ h9 => h9) rfl dX7_sit_83 ?_
    refine va_get (D := D) (ci := 2) (v := .ref (ase 0)) (C := RX2) (T := TX2) (N := 4) hx hb hu inX2 hown hK.1 hP 2 rfl rfl 3 (by decide) (hu _ q204) (fun _ h9 => h9) rfl dX7_sit_86 ?_
    refine lv_iconst (v := 0) hx hb dX7_sit_89 (by decide) ?_
    obtain ⟨Se_5, hSe_5, hf⟩ := lt_el hf
    refine va_put (D := D) (ci := 4) (v := .int 0) (ty := .int) (C := RX4) (T := TX4) (N := 10) hx hb hu inX4 tyX4 tyX4_ok nmX4 hown hK.1 hP hD hS 10 rfl rfl 7 (by decide) (hu _ q170) (fun _ h9 => h9) rfl (by decide +kernel) rfl rfl (Nat.le_of_ble_eq_true rfl) dX7_sit_90 (fun H locs hP hD hS => ?_)
    have hP : va_P D vwCl ((kX7 cs ama (.ref (are 0)) (.ref (are2 0)) (.ref (are3 0)) (.ref (ach 0)) (.ref (ata 0)) (.ref (asa 0)) Ma) ++ ((kX2 cs are (.ref (af 0)) (.ref (ac 0)) (.ref (atr 0)) (.ref (ase 0)) ) ++ ((kX1 cs af  Fo) ++ ((kX4 cs ase (.ref (af 0)) (.ref (ac 0)) (.ref (atr 0)) Se_5))))) H := by rw [hSe_5]; exact hP
    have hD : va_D A ((kX7 cs ama (.ref (are 0)) (.ref (are2 0)) (.ref (are3 0)) (.ref (ach 0)) (.ref (ata 0)) (.ref (asa 0)) Ma) ++ ((kX2 cs are (.ref (af 0)) (.ref (ac 0)) (.ref (atr 0)) (.ref (ase 0)) ) ++ ((kX1 cs af  Fo) ++ ((kX4 cs ase (.ref (af 0)) (.ref (ac 0)) (.ref (atr 0)) Se_5))))) := by rw [hSe_5]; exact hD
    refine lv_iload_n hx hb dX7_sit_93 rfl (lv_at hl 0 rfl) ?_
    have he := Option.some.inj hf
    obtain ⟨e0, ht0⟩ := Prod.mk.inj he
    obtain ⟨e1, e2⟩ := Prod.mk.inj ht0
    exact hri _ _ _ rfl (congrArg (fun z => some (Value.int z)) e0.symm) dX7_sit_94 _ _ _ (by rw [e1, e2]) hP hD hS
  have h53 : ∀ (Ma : ST) (Se : ST) (H : Heap) (locs : List Loc) (ls : Array Slot), va_P D vwCl ((kX7 cs ama (.ref (are 0)) (.ref (are2 0)) (.ref (are3 0)) (.ref (ach 0)) (.ref (ata 0)) (.ref (asa 0)) Ma) ++ ((kX2 cs are (.ref (af 0)) (.ref (ac 0)) (.ref (atr 0)) (.ref (ase 0)) ) ++ ((kX1 cs af  Fo) ++ ((kX4 cs ase (.ref (af 0)) (.ref (ac 0)) (.ref (atr 0)) Se))))) H → va_D A ((kX7 cs ama (.ref (are 0)) (.ref (are2 0)) (.ref (are3 0)) (.ref (ach 0)) (.ref (ata 0)) (.ref (asa 0)) Ma) ++ ((kX2 cs are (.ref (af 0)) (.ref (ac 0)) (.ref (atr 0)) (.ref (ase 0)) ) ++ ((kX1 cs af  Fo) ++ ((kX4 cs ase (.ref (af 0)) (.ref (ac 0)) (.ref (atr 0)) Se))))) → va_S A s.heap H locs → lv_has ls 3 [(0, .ref (ama 0))] → fX7_sit_53 Fo Ma Se = some (r0, Maz, Sez) → W p l e rmX7_sit s m [.ref (ama 0), .int x1].toArray below meth c H locs 0 0 Q (F0 m 53 ls []) := by
    intro Ma Se H locs ls hP hD hS hl hf
    unfold fX7_sit_53 at hf
    refine lv_aload_n hx hb dX7_sit_53 rfl (lv_at hl 0 rfl) ?_
    refine lv_ldc (v := (-1000000005)) hx hb hown (hu _ q500) dX7_sit_54 ?_
    obtain ⟨r9, Ma_10, hg11, hf⟩ := b2_el hf
    refine cc_V (w' := ((kX7 cs ama (.ref (are 0)) (.ref (are2 0)) (.ref (are3 0)) (.ref (ach 0)) (.ref (ata 0)) (.ref (asa 0)) Ma_10) ++ ((kX2 cs are (.ref (af 0)) (.ref (ac 0)) (.ref (atr 0)) (.ref (ase 0)) ) ++ ((kX1 cs af  Fo) ++ ((kX4 cs ase (.ref (af 0)) (.ref (ac 0)) (.ref (atr 0)) Se)))))) (wr := ((kX2 cs are (.ref (af 0)) (.ref (ac 0)) (.ref (atr 0)) (.ref (ase 0)) ) ++ ((kX1 cs af  Fo) ++ ((kX4 cs ase (.ref (af 0)) (.ref (ac 0)) (.ref (atr 0)) Se))))) (st1 := [.int r9]) [.int (-1000000005)] hx hb hml hown hu (tX7_finding l D cs ama are are2 are3 ach ata asa (-1000000005) Ma r9 Ma_10 hg11) q339 q54 q336 q338 q0 pdX7_finding ⟨rfl, rfl, Nat.le_of_ble_eq_true rfl, Nat.le_of_ble_eq_true rfl⟩ hK hZ hP hD hS hA [0, 1] [2, 3, 4, 5, 6, 7, 8, 9, 10, 11, 12, 13] [12, 13, 0, 1, 2, 3, 4, 5, 6, 7, 8, 9, 10, 11] rfl rfl rfl rfl rfl rfl rfl rfl rfl rfl hl.1 rfl (Nat.le_of_ble_eq_true rfl) dX7_sit_56 rfl (fun H locs hP hD hS => ?_)
    have he := Option.some.inj hf
    obtain ⟨e0, ht0⟩ := Prod.mk.inj he
    obtain ⟨e1, e2⟩ := Prod.mk.inj ht0
    exact hri _ _ _ rfl (congrArg (fun z => some (Value.int z)) e0.symm) dX7_sit_59 _ _ _ (by rw [e1, e2]) hP hD hS
  have h20 : ∀ (y1 : Int32) (Ma : ST) (Se : ST) (H : Heap) (locs : List Loc) (ls : Array Slot), va_P D vwCl ((kX7 cs ama (.ref (are 0)) (.ref (are2 0)) (.ref (are3 0)) (.ref (ach 0)) (.ref (ata 0)) (.ref (asa 0)) Ma) ++ ((kX2 cs are (.ref (af 0)) (.ref (ac 0)) (.ref (atr 0)) (.ref (ase 0)) ) ++ ((kX1 cs af  Fo) ++ ((kX4 cs ase (.ref (af 0)) (.ref (ac 0)) (.ref (atr 0)) Se))))) H → va_D A ((kX7 cs ama (.ref (are 0)) (.ref (are2 0)) (.ref (are3 0)) (.ref (ach 0)) (.ref (ata 0)) (.ref (asa 0)) Ma) ++ ((kX2 cs are (.ref (af 0)) (.ref (ac 0)) (.ref (atr 0)) (.ref (ase 0)) ) ++ ((kX1 cs af  Fo) ++ ((kX4 cs ase (.ref (af 0)) (.ref (ac 0)) (.ref (atr 0)) Se))))) → va_S A s.heap H locs → lv_has ls 3 [(0, .ref (ama 0)), (1, .int y1)] → fX7_sit_20 Fo y1 Ma Se = some (r0, Maz, Sez) → W p l e rmX7_sit s m [.ref (ama 0), .int x1].toArray below meth c H locs 0 0 Q (F0 m 20 ls []) := by
    intro y1 Ma Se H locs ls hP hD hS hl hf
    unfold fX7_sit_20 at hf
    refine lv_iload_n hx hb dX7_sit_20 rfl (lv_at hl 1 rfl) ?_
    refine lv_iconst (v := (-1)) hx hb dX7_sit_21 (by decide) ?_
    refine lv_icmp_eq (tgt := 60) hx hb dX7_sit_22 (by decide) (fun hc2 => ?_) (fun hc2 => ?_)
    · have hf := ip_el hc2 hf
      exact h60 y1 Ma Se _ _ _ hP hD hS (lv_sub hl [0, 1] rfl) hf
    · have hf := in_el hc2 hf
      refine lv_aload_n hx hb dX7_sit_25 rfl (lv_at hl 0 rfl) ?_
      refine va_get (D := D) (ci := 7) (v := .ref (are 0)) (C := RX7) (T := TX7) (N := 8) hx hb hu inX7 hown hK.1 hP 0 rfl rfl 0 (by decide) (hu _ q300) (fun _ h9 => h9) rfl dX7_sit_26 ?_
      refine va_get (D := D) (ci := 2) (v := .ref (af 0)) (C := RX2) (T := TX2) (N := 4) hx hb hu inX2 hown hK.1 hP 2 rfl rfl 0 (by decide) (hu _ q196) (fun _ h9 => h9) rfl dX7_sit_29 ?_
      refine lv_iload_n hx hb dX7_sit_32 rfl (lv_at hl 1 rfl) ?_
      obtain ⟨r6, hg7, hf⟩ := b1_el hf
      refine cc_V (w' := ((kX7 cs ama (.ref (are 0)) (.ref (are2 0)) (.ref (are3 0)) (.ref (ach 0)) (.ref (ata 0)) (.ref (asa 0)) Ma) ++ ((kX2 cs are (.ref (af 0)) (.ref (ac 0)) (.ref (atr 0)) (.ref (ase 0)) ) ++ ((kX1 cs af  Fo) ++ ((kX4 cs ase (.ref (af 0)) (.ref (ac 0)) (.ref (atr 0)) Se)))))) (wr := ((kX7 cs ama (.ref (are 0)) (.ref (are2 0)) (.ref (are3 0)) (.ref (ach 0)) (.ref (ata 0)) (.ref (asa 0)) Ma) ++ ((kX2 cs are (.ref (af 0)) (.ref (ac 0)) (.ref (atr 0)) (.ref (ase 0)) ) ++ ((kX4 cs ase (.ref (af 0)) (.ref (ac 0)) (.ref (atr 0)) Se))))) (st1 := [.int r6]) [.int y1] hx hb hml hown hu (tX1_isAlive l D cs af y1 Fo r6 hg7) q356 q56 q353 q354 q355 pdX1_isAlive ⟨rfl, rfl, Nat.le_of_ble_eq_true rfl, Nat.le_of_ble_eq_true rfl⟩ hK hZ hP hD hS hA [3, 4, 5, 6, 7, 8, 9] [0, 1, 2, 10, 11, 12, 13] [0, 1, 2, 7, 8, 9, 10, 11, 12, 13, 3, 4, 5, 6] rfl rfl rfl rfl rfl rfl rfl rfl rfl rfl hl.1 rfl (Nat.le_of_ble_eq_true rfl) dX7_sit_33 rfl (fun H locs hP hD hS => ?_)
      refine lv_if_eq (tgt := 53) hx hb dX7_sit_36 (by decide) (fun hc8 => ?_) (fun hc8 => ?_)
      · have hf := ip_el hc8 hf
        exact h53 Ma Se _ _ _ hP hD hS (lv_sub hl [0] rfl) hf
      · have hf := in_el hc8 hf
        refine lv_aload_n hx hb dX7_sit_39 rfl (lv_at hl 0 rfl) ?_
        refine va_get (D := D) (ci := 7) (v := .ref (are 0)) (C := RX7) (T := TX7) (N := 8) hx hb hu inX7 hown hK.1 hP 0 rfl rfl 0 (by decide) (hu _ q300) (fun _ h9 => h9) rfl dX7_sit_40 ?_
        refine va_get (D := D) (ci := 2) (v := .ref (ase 0)) (C := RX2) (T := TX2) (N := 4) hx hb hu inX2 hown hK.1 hP 2 rfl rfl 3 (by decide) (hu _ q204) (fun _ h9 => h9) rfl dX7_sit_43 ?_
        refine lv_iload_n hx hb dX7_sit_46 rfl (lv_at hl 1 rfl) ?_
        obtain ⟨r12, hg13, hf⟩ := b1_el hf
        refine cc_V (w' := ((kX7 cs ama (.ref (are 0)) (.ref (are2 0)) (.ref (are3 0)) (.ref (ach 0)) (.ref (ata 0)) (.ref (asa 0)) Ma) ++ ((kX2 cs are (.ref (af 0)) (.ref (ac 0)) (.ref (atr 0)) (.ref (ase 0)) ) ++ ((kX1 cs af  Fo) ++ ((kX4 cs ase (.ref (af 0)) (.ref (ac 0)) (.ref (atr 0)) Se)))))) (wr := ((kX7 cs ama (.ref (are 0)) (.ref (are2 0)) (.ref (are3 0)) (.ref (ach 0)) (.ref (ata 0)) (.ref (asa 0)) Ma) ++ ((kX2 cs are (.ref (af 0)) (.ref (ac 0)) (.ref (atr 0)) (.ref (ase 0)) ) ++ ((kX1 cs af  Fo))))) (st1 := [.int r12]) [.int y1] hx hb hml hown hu (tX4_placeOf l D cs ase (.ref (af 0)) (.ref (ac 0)) (.ref (atr 0)) y1 Se r12 hg13) q367 q58 q364 q365 q366 pdX4_placeOf ⟨rfl, rfl, Nat.le_of_ble_eq_true rfl, Nat.le_of_ble_eq_true rfl⟩ hK hZ hP hD hS hA [10, 11, 12, 13] [0, 1, 2, 3, 4, 5, 6, 7, 8, 9] [0, 1, 2, 3, 4, 5, 6, 7, 8, 9, 10, 11, 12, 13] rfl rfl rfl rfl rfl rfl rfl rfl rfl rfl hl.1 rfl (Nat.le_of_ble_eq_true rfl) dX7_sit_47 rfl (fun H locs hP hD hS => ?_)
        refine lv_if_lt (tgt := 60) hx hb dX7_sit_50 (by decide) (fun hc14 => ?_) (fun hc14 => ?_)
        · have hf := ip_el hc14 hf
          exact h60 y1 Ma Se _ _ _ hP hD hS (lv_sub hl [0, 1] rfl) hf
        · have hf := in_el hc14 hf
          exact h53 Ma Se _ _ _ hP hD hS (lv_sub hl [0] rfl) hf
  have hl : lv_has ls0 3 [(0, .ref (ama 0)), (1, .int x1)] := hl0
  have hP := hP0
  have hD := hD0
  have hS := hS0
  unfold fX7_sit at hf
  refine lv_iload_n hx hb dX7_sit_0 rfl (lv_at hl 1 rfl) ?_
  refine lv_iconst (v := (-1)) hx hb dX7_sit_1 (by decide) ?_
  refine lv_icmp_eq (tgt := 20) hx hb dX7_sit_2 (by decide) (fun hc1 => ?_) (fun hc1 => ?_)
  · have hf := ip_el hc1 hf
    exact h20 x1 Ma Se _ _ _ hP hD hS (lv_sub hl [0, 1] rfl) hf
  · have hf := in_el hc1 hf
    refine lv_aload_n hx hb dX7_sit_5 rfl (lv_at hl 0 rfl) ?_
    refine lv_iload_n hx hb dX7_sit_6 rfl (lv_at hl 1 rfl) ?_
    obtain ⟨r15, hg16, hf⟩ := b1_el hf
    refine cc_V (w' := ((kX7 cs ama (.ref (are 0)) (.ref (are2 0)) (.ref (are3 0)) (.ref (ach 0)) (.ref (ata 0)) (.ref (asa 0)) Ma) ++ ((kX2 cs are (.ref (af 0)) (.ref (ac 0)) (.ref (atr 0)) (.ref (ase 0)) ) ++ ((kX1 cs af  Fo) ++ ((kX4 cs ase (.ref (af 0)) (.ref (ac 0)) (.ref (atr 0)) Se)))))) (wr := (kX4 cs ase (.ref (af 0)) (.ref (ac 0)) (.ref (atr 0)) Se)) (st1 := [.int r15]) [.int x1] hx hb hml hown hu (tX7_isOne l D cs ama are are2 are3 ach ata asa af ac atr ase x1 Ma Fo r15 hg16) q352 q54 q349 q351 q1 pdX7_isOne ⟨rfl, rfl, Nat.le_of_ble_eq_true rfl, Nat.le_of_ble_eq_true rfl⟩ hK hZ hP hD hS hA [0, 1, 2, 3, 4, 5, 6, 7, 8, 9] [10, 11, 12, 13] [4, 5, 6, 7, 8, 9, 10, 11, 12, 13, 0, 1, 2, 3] rfl rfl rfl rfl rfl rfl rfl rfl rfl rfl hl.1 rfl (Nat.le_of_ble_eq_true rfl) dX7_sit_7 rfl (fun H locs hP hD hS => ?_)
    refine lv_if_ne (tgt := 20) hx hb dX7_sit_10 (by decide) (fun hc17 => ?_) (fun hc17 => ?_)
    · have hf := in_el hc17 hf
      exact h20 x1 Ma Se _ _ _ hP hD hS (lv_sub hl [0, 1] rfl) hf
    · have hf := ip_el hc17 hf
      refine lv_aload_n hx hb dX7_sit_13 rfl (lv_at hl 0 rfl) ?_
      refine lv_ldc (v := (-1000000001)) hx hb hown (hu _ q335) dX7_sit_14 ?_
      obtain ⟨r18, Ma_19, hg20, hf⟩ := b2_el hf
      refine cc_V (w' := ((kX7 cs ama (.ref (are 0)) (.ref (are2 0)) (.ref (are3 0)) (.ref (ach 0)) (.ref (ata 0)) (.ref (asa 0)) Ma_19) ++ ((kX2 cs are (.ref (af 0)) (.ref (ac 0)) (.ref (atr 0)) (.ref (ase 0)) ) ++ ((kX1 cs af  Fo) ++ ((kX4 cs ase (.ref (af 0)) (.ref (ac 0)) (.ref (atr 0)) Se)))))) (wr := ((kX2 cs are (.ref (af 0)) (.ref (ac 0)) (.ref (atr 0)) (.ref (ase 0)) ) ++ ((kX1 cs af  Fo) ++ ((kX4 cs ase (.ref (af 0)) (.ref (ac 0)) (.ref (atr 0)) Se))))) (st1 := [.int r18]) [.int (-1000000001)] hx hb hml hown hu (tX7_finding l D cs ama are are2 are3 ach ata asa (-1000000001) Ma r18 Ma_19 hg20) q339 q54 q336 q338 q0 pdX7_finding ⟨rfl, rfl, Nat.le_of_ble_eq_true rfl, Nat.le_of_ble_eq_true rfl⟩ hK hZ hP hD hS hA [0, 1] [2, 3, 4, 5, 6, 7, 8, 9, 10, 11, 12, 13] [12, 13, 0, 1, 2, 3, 4, 5, 6, 7, 8, 9, 10, 11] rfl rfl rfl rfl rfl rfl rfl rfl rfl rfl hl.1 rfl (Nat.le_of_ble_eq_true rfl) dX7_sit_16 rfl (fun H locs hP hD hS => ?_)
      have he := Option.some.inj hf
      obtain ⟨e0, ht0⟩ := Prod.mk.inj he
      obtain ⟨e1, e2⟩ := Prod.mk.inj ht0
      exact hri _ _ _ rfl (congrArg (fun z => some (Value.int z)) e0.symm) dX7_sit_19 _ _ _ (by rw [e1, e2]) hP hD hS

def fX7_line_21 (Fo : ST) (Ma : ST) (Se : ST) : Option (Int32 × ST × ST) :=
  dc_b2 (fX7_finding (-1000000001) Ma) (fun r4 Ma_5 => some (r4, Ma_5, Se))
def fX7_line_48 (Fo : ST) (y1 : Int32) (y2 : Int32) (Ma : ST) (Se : ST) : Option (Int32 × ST × ST) :=
  dc_ck y1 4 (dc_lt (Se 5 (Int32.toNatClampNeg y1)) (fun v10 => dc_ck y1 4 (dc_lt (sti Se 5 (Int32.toNatClampNeg y1) y2) (fun Se_12 => some (v10, Ma, Se_12)))))
def fX7_line_28 (Fo : ST) (y1 : Int32) (y2 : Int32) (Ma : ST) (Se : ST) : Option (Int32 × ST × ST) :=
  (if y2 = (-1) then fX7_line_48 Fo y1 y2 Ma Se else dc_b1 (fX7_mayStandInLine y2 Ma Fo Se) (fun r13 => (if r13 = 0 then dc_b2 (fX7_finding (-1000000005) Ma) (fun r16 Ma_17 => some (r16, Ma_17, Se)) else fX7_line_48 Fo y1 y2 Ma Se)))
def fX7_line (x1 : Int32) (x2 : Int32) (Ma : ST) (Fo : ST) (Se : ST) : Option (Int32 × ST × ST) :=
  dc_b1 (fX7_isPlace x1 Ma Se) (fun r1 => (if r1 = 0 then fX7_line_21 Fo Ma Se else (if x2 = (-1) then fX7_line_28 Fo x1 x2 Ma Se else dc_b1 (fX7_isOne x2 Ma Fo) (fun r19 => (if r19 = 0 then fX7_line_21 Fo Ma Se else fX7_line_28 Fo x1 x2 Ma Se)))))
abbrev rmX7_line : Room := { frames := 3, cells := 0, slots := 0, locals := 64 }
set_option maxRecDepth 100000 in
set_option maxHeartbeats 4000000 in
theorem tX7_line (l : Launch) (D : va_G) (cs : Nat → ClassId) (ama : Nat → Nat) (are : Nat → Nat) (are2 : Nat → Nat) (are3 : Nat → Nat) (ach : Nat → Nat) (ata : Nat → Nat) (asa : Nat → Nat) (af : Nat → Nat) (ac : Nat → Nat) (atr : Nat → Nat) (ase : Nat → Nat) (x1 : Int32) (x2 : Int32) (Ma : ST) (Fo : ST) (Se : ST) (r0 : Int32) (Maz : ST) (Sez : ST) (hf : fX7_line x1 x2 Ma Fo Se = some (r0, Maz, Sez)) : CG l yX7_line (wsm yX7_line cX7_line 4 (some .int)) rmX7_line D cs [.ref (ama 0), .int x1, .int x2] (some (.int r0)) ((kX7 cs ama (.ref (are 0)) (.ref (are2 0)) (.ref (are3 0)) (.ref (ach 0)) (.ref (ata 0)) (.ref (asa 0)) Ma) ++ ((kX2 cs are (.ref (af 0)) (.ref (ac 0)) (.ref (atr 0)) (.ref (ase 0)) ) ++ ((kX1 cs af  Fo) ++ ((kX4 cs ase (.ref (af 0)) (.ref (ac 0)) (.ref (atr 0)) Se))))) ((kX7 cs ama (.ref (are 0)) (.ref (are2 0)) (.ref (are3 0)) (.ref (ach 0)) (.ref (ata 0)) (.ref (asa 0)) Maz) ++ ((kX2 cs are (.ref (af 0)) (.ref (ac 0)) (.ref (atr 0)) (.ref (ase 0)) ) ++ ((kX1 cs af  Fo) ++ ((kX4 cs ase (.ref (af 0)) (.ref (ac 0)) (.ref (atr 0)) Sez))))) := by
  refine CG.intro (by decide) (Nat.le_of_ble_eq_true rfl) ?_
  intro p e s m below meth c A Q hx hb hml hown hu hK hZ hP0 hD0 hS0 hA hri hrz hrl hrv hra ls0 hl0
  have h21 : ∀ (Ma : ST) (Se : ST) (H : Heap) (locs : List Loc) (ls : Array Slot), va_P D vwCl ((kX7 cs ama (.ref (are 0)) (.ref (are2 0)) (.ref (are3 0)) (.ref (ach 0)) (.ref (ata 0)) (.ref (asa 0)) Ma) ++ ((kX2 cs are (.ref (af 0)) (.ref (ac 0)) (.ref (atr 0)) (.ref (ase 0)) ) ++ ((kX1 cs af  Fo) ++ ((kX4 cs ase (.ref (af 0)) (.ref (ac 0)) (.ref (atr 0)) Se))))) H → va_D A ((kX7 cs ama (.ref (are 0)) (.ref (are2 0)) (.ref (are3 0)) (.ref (ach 0)) (.ref (ata 0)) (.ref (asa 0)) Ma) ++ ((kX2 cs are (.ref (af 0)) (.ref (ac 0)) (.ref (atr 0)) (.ref (ase 0)) ) ++ ((kX1 cs af  Fo) ++ ((kX4 cs ase (.ref (af 0)) (.ref (ac 0)) (.ref (atr 0)) Se))))) → va_S A s.heap H locs → lv_has ls 4 [(0, .ref (ama 0))] → fX7_line_21 Fo Ma Se = some (r0, Maz, Sez) → W p l e rmX7_line s m [.ref (ama 0), .int x1, .int x2].toArray below meth c H locs 0 0 Q (F0 m 21 ls []) := by
    intro Ma Se H locs ls hP hD hS hl hf
    unfold fX7_line_21 at hf
    refine lv_aload_n hx hb dX7_line_21 rfl (lv_at hl 0 rfl) ?_
    refine lv_ldc (v := (-1000000001)) hx hb hown (hu _ q335) dX7_line_22 ?_
    obtain ⟨r4, Ma_5, hg6, hf⟩ := b2_el hf
    refine cc_V (w' := ((kX7 cs ama (.ref (are 0)) (.ref (are2 0)) (.ref (are3 0)) (.ref (ach 0)) (.ref (ata 0)) (.ref (asa 0)) Ma_5) ++ ((kX2 cs are (.ref (af 0)) (.ref (ac 0)) (.ref (atr 0)) (.ref (ase 0)) ) ++ ((kX1 cs af  Fo) ++ ((kX4 cs ase (.ref (af 0)) (.ref (ac 0)) (.ref (atr 0)) Se)))))) (wr := ((kX2 cs are (.ref (af 0)) (.ref (ac 0)) (.ref (atr 0)) (.ref (ase 0)) ) ++ ((kX1 cs af  Fo) ++ ((kX4 cs ase (.ref (af 0)) (.ref (ac 0)) (.ref (atr 0)) Se))))) (st1 := [.int r4]) [.int (-1000000001)] hx hb hml hown hu (tX7_finding l D cs ama are are2 are3 ach ata asa (-1000000001) Ma r4 Ma_5 hg6) q339 q54 q336 q338 q0 pdX7_finding ⟨rfl, rfl, Nat.le_of_ble_eq_true rfl, Nat.le_of_ble_eq_true rfl⟩ hK hZ hP hD hS hA [0, 1] [2, 3, 4, 5, 6, 7, 8, 9, 10, 11, 12, 13] [12, 13, 0, 1, 2, 3, 4, 5, 6, 7, 8, 9, 10, 11] rfl rfl rfl rfl rfl rfl rfl rfl rfl rfl hl.1 rfl (Nat.le_of_ble_eq_true rfl) dX7_line_24 rfl (fun H locs hP hD hS => ?_)
    have he := Option.some.inj hf
    obtain ⟨e0, ht0⟩ := Prod.mk.inj he
    obtain ⟨e1, e2⟩ := Prod.mk.inj ht0
    exact hri _ _ _ rfl (congrArg (fun z => some (Value.int z)) e0.symm) dX7_line_27 _ _ _ (by rw [e1, e2]) hP hD hS
  have h48 : ∀ (y1 : Int32) (y2 : Int32) (Ma : ST) (Se : ST) (H : Heap) (locs : List Loc) (ls : Array Slot), va_P D vwCl ((kX7 cs ama (.ref (are 0)) (.ref (are2 0)) (.ref (are3 0)) (.ref (ach 0)) (.ref (ata 0)) (.ref (asa 0)) Ma) ++ ((kX2 cs are (.ref (af 0)) (.ref (ac 0)) (.ref (atr 0)) (.ref (ase 0)) ) ++ ((kX1 cs af  Fo) ++ ((kX4 cs ase (.ref (af 0)) (.ref (ac 0)) (.ref (atr 0)) Se))))) H → va_D A ((kX7 cs ama (.ref (are 0)) (.ref (are2 0)) (.ref (are3 0)) (.ref (ach 0)) (.ref (ata 0)) (.ref (asa 0)) Ma) ++ ((kX2 cs are (.ref (af 0)) (.ref (ac 0)) (.ref (atr 0)) (.ref (ase 0)) ) ++ ((kX1 cs af  Fo) ++ ((kX4 cs ase (.ref (af 0)) (.ref (ac 0)) (.ref (atr 0)) Se))))) → va_S A s.heap H locs → lv_has ls 4 [(0, .ref (ama 0)), (1, .int y1), (2, .int y2)] → fX7_line_48 Fo y1 y2 Ma Se = some (r0, Maz, Sez) → W p l e rmX7_line s m [.ref (ama 0), .int x1, .int x2].toArray below meth c H locs 0 0 Q (F0 m 48 ls []) := by
    intro y1 y2 Ma Se H locs ls hP hD hS hl hf
    unfold fX7_line_48 at hf
    refine lv_aload_n hx hb dX7_line_48 rfl (lv_at hl 0 rfl) ?_
    refine va_get (D := D) (ci := 7) (v := .ref (are 0)) (C := RX7) (T := TX7) (N := 8) hx hb hu inX7 hown hK.1 hP 0 rfl rfl 0 (by decide) (hu _ q300) (fun _ h9 => h9) rfl dX7_line_49 ?_
    refine va_get (D := D) (ci := 2) (v := .ref (ase 0)) (C := RX2) (T := TX2) (N := 4) hx hb hu inX2 hown hK.1 hP 2 rfl rfl 3 (by decide) (hu _ q204) (fun _ h9 => h9) rfl dX7_line_52 ?_
    refine va_get (D := D) (ci := 4) (v := .ref (ase 5)) (C := RX4) (T := TX4) (N := 10) hx hb hu inX4 hown hK.1 hP 10 rfl rfl 4 (by decide) (hu _ q164) (fun _ h9 => h9) rfl dX7_line_55 ?_
    refine lv_iload_n hx hb dX7_line_58 rfl (lv_at hl 1 rfl) ?_
    obtain ⟨hi9, hf⟩ := ck_el hf
    refine va_iald hx hb hK.1 hP 12 0 rfl rfl hi9 dX7_line_59 ?_
    obtain ⟨v10, hv10, hf⟩ := lt_el hf
    refine lv_tope hv10 ?_
    refine lv_istore_n (lv' := [(3, .int v10), (0, .ref (ama 0)), (1, .int y1), (2, .int y2)]) hx hb dX7_line_60 rfl hl (by decide) rfl (fun ls hl => ?_)
    refine lv_aload_n hx hb dX7_line_61 rfl (lv_at hl 1 rfl) ?_
    refine va_get (D := D) (ci := 7) (v := .ref (are 0)) (C := RX7) (T := TX7) (N := 8) hx hb hu inX7 hown hK.1 hP 0 rfl rfl 0 (by decide) (hu _ q300) (fun _ h9 => h9) rfl dX7_line_62 ?_
    refine va_get (D := D) (ci := 2) (v := .ref (ase 0)) (C := RX2) (T := TX2) (N := 4) hx hb hu inX2 hown hK.1 hP 2 rfl rfl 3 (by decide) (hu _ q204) (fun _ h9 => h9) rfl dX7_line_65 ?_
    refine va_get (D := D) (ci := 4) (v := .ref (ase 5)) (C := RX4) (T := TX4) (N := 10) hx hb hu inX4 hown hK.1 hP 10 rfl rfl 4 (by decide) (hu _ q164) (fun _ h9 => h9) rfl dX7_line_68 ?_
    refine lv_iload_n hx hb dX7_line_71 rfl (lv_at hl 2 rfl) ?_
    refine lv_iload_n hx hb dX7_line_72 rfl (lv_at hl 3 rfl) ?_
    obtain ⟨hi11, hf⟩ := ck_el hf
    obtain ⟨Se_12, hSe_12, hf⟩ := lt_el hf
    refine va_iast hx hb hK.1 hP hD hS 12 0 rfl rfl hi11 dX7_line_73 (fun H locs hP hD hS => ?_)
    have hP : va_P D vwCl ((kX7 cs ama (.ref (are 0)) (.ref (are2 0)) (.ref (are3 0)) (.ref (ach 0)) (.ref (ata 0)) (.ref (asa 0)) Ma) ++ ((kX2 cs are (.ref (af 0)) (.ref (ac 0)) (.ref (atr 0)) (.ref (ase 0)) ) ++ ((kX1 cs af  Fo) ++ ((kX4 cs ase (.ref (af 0)) (.ref (ac 0)) (.ref (atr 0)) Se_12))))) H := by rw [hSe_12]; exact hP
    have hD : va_D A ((kX7 cs ama (.ref (are 0)) (.ref (are2 0)) (.ref (are3 0)) (.ref (ach 0)) (.ref (ata 0)) (.ref (asa 0)) Ma) ++ ((kX2 cs are (.ref (af 0)) (.ref (ac 0)) (.ref (atr 0)) (.ref (ase 0)) ) ++ ((kX1 cs af  Fo) ++ ((kX4 cs ase (.ref (af 0)) (.ref (ac 0)) (.ref (atr 0)) Se_12))))) := by rw [hSe_12]; exact hD
    refine lv_iload_n hx hb dX7_line_74 rfl (lv_at hl 0 rfl) ?_
    have he := Option.some.inj hf
    obtain ⟨e0, ht0⟩ := Prod.mk.inj he
    obtain ⟨e1, e2⟩ := Prod.mk.inj ht0
    exact hri _ _ _ rfl (congrArg (fun z => some (Value.int z)) e0.symm) dX7_line_75 _ _ _ (by rw [e1, e2]) hP hD hS
  have h28 : ∀ (y1 : Int32) (y2 : Int32) (Ma : ST) (Se : ST) (H : Heap) (locs : List Loc) (ls : Array Slot), va_P D vwCl ((kX7 cs ama (.ref (are 0)) (.ref (are2 0)) (.ref (are3 0)) (.ref (ach 0)) (.ref (ata 0)) (.ref (asa 0)) Ma) ++ ((kX2 cs are (.ref (af 0)) (.ref (ac 0)) (.ref (atr 0)) (.ref (ase 0)) ) ++ ((kX1 cs af  Fo) ++ ((kX4 cs ase (.ref (af 0)) (.ref (ac 0)) (.ref (atr 0)) Se))))) H → va_D A ((kX7 cs ama (.ref (are 0)) (.ref (are2 0)) (.ref (are3 0)) (.ref (ach 0)) (.ref (ata 0)) (.ref (asa 0)) Ma) ++ ((kX2 cs are (.ref (af 0)) (.ref (ac 0)) (.ref (atr 0)) (.ref (ase 0)) ) ++ ((kX1 cs af  Fo) ++ ((kX4 cs ase (.ref (af 0)) (.ref (ac 0)) (.ref (atr 0)) Se))))) → va_S A s.heap H locs → lv_has ls 4 [(0, .ref (ama 0)), (1, .int y1), (2, .int y2)] → fX7_line_28 Fo y1 y2 Ma Se = some (r0, Maz, Sez) → W p l e rmX7_line s m [.ref (ama 0), .int x1, .int x2].toArray below meth c H locs 0 0 Q (F0 m 28 ls []) := by
    intro y1 y2 Ma Se H locs ls hP hD hS hl hf
    unfold fX7_line_28 at hf
    refine lv_iload_n hx hb dX7_line_28 rfl (lv_at hl 2 rfl) ?_
    refine lv_iconst (v := (-1)) hx hb dX7_line_29 (by decide) ?_
    refine lv_icmp_eq (tgt := 48) hx hb dX7_line_30 (by decide) (fun hc8 => ?_) (fun hc8 => ?_)
    · have hf := ip_el hc8 hf
      exact h48 y1 y2 Ma Se _ _ _ hP hD hS (lv_sub hl [0, 1, 2] rfl) hf
    · have hf := in_el hc8 hf
      refine lv_aload_n hx hb dX7_line_33 rfl (lv_at hl 0 rfl) ?_
      refine lv_iload_n hx hb dX7_line_34 rfl (lv_at hl 2 rfl) ?_
      obtain ⟨r13, hg14, hf⟩ := b1_el hf
      refine cc_V1 (w' := ((kX7 cs ama (.ref (are 0)) (.ref (are2 0)) (.ref (are3 0)) (.ref (ach 0)) (.ref (ata 0)) (.ref (asa 0)) Ma) ++ ((kX2 cs are (.ref (af 0)) (.ref (ac 0)) (.ref (atr 0)) (.ref (ase 0)) ) ++ ((kX1 cs af  Fo) ++ ((kX4 cs ase (.ref (af 0)) (.ref (ac 0)) (.ref (atr 0)) Se)))))) (st1 := [.int r13]) [.int y2] hx hb hml hown hu (tX7_mayStandInLine l D cs ama are are2 are3 ach ata asa af ac atr ase y2 Ma Fo Se r13 hg14) q512 q54 q509 q511 q7 pdX7_mayStandInLine ⟨rfl, rfl, Nat.le_of_ble_eq_true rfl, Nat.le_of_ble_eq_true rfl⟩ hK hZ hP hD hS hA rfl rfl rfl rfl hl.1 rfl (Nat.le_of_ble_eq_true rfl) dX7_line_35 rfl (fun H locs hP hD hS => ?_)
      refine lv_if_ne (tgt := 48) hx hb dX7_line_38 (by decide) (fun hc15 => ?_) (fun hc15 => ?_)
      · have hf := in_el hc15 hf
        exact h48 y1 y2 Ma Se _ _ _ hP hD hS (lv_sub hl [0, 1, 2] rfl) hf
      · have hf := ip_el hc15 hf
        refine lv_aload_n hx hb dX7_line_41 rfl (lv_at hl 0 rfl) ?_
        refine lv_ldc (v := (-1000000005)) hx hb hown (hu _ q500) dX7_line_42 ?_
        obtain ⟨r16, Ma_17, hg18, hf⟩ := b2_el hf
        refine cc_V (w' := ((kX7 cs ama (.ref (are 0)) (.ref (are2 0)) (.ref (are3 0)) (.ref (ach 0)) (.ref (ata 0)) (.ref (asa 0)) Ma_17) ++ ((kX2 cs are (.ref (af 0)) (.ref (ac 0)) (.ref (atr 0)) (.ref (ase 0)) ) ++ ((kX1 cs af  Fo) ++ ((kX4 cs ase (.ref (af 0)) (.ref (ac 0)) (.ref (atr 0)) Se)))))) (wr := ((kX2 cs are (.ref (af 0)) (.ref (ac 0)) (.ref (atr 0)) (.ref (ase 0)) ) ++ ((kX1 cs af  Fo) ++ ((kX4 cs ase (.ref (af 0)) (.ref (ac 0)) (.ref (atr 0)) Se))))) (st1 := [.int r16]) [.int (-1000000005)] hx hb hml hown hu (tX7_finding l D cs ama are are2 are3 ach ata asa (-1000000005) Ma r16 Ma_17 hg18) q339 q54 q336 q338 q0 pdX7_finding ⟨rfl, rfl, Nat.le_of_ble_eq_true rfl, Nat.le_of_ble_eq_true rfl⟩ hK hZ hP hD hS hA [0, 1] [2, 3, 4, 5, 6, 7, 8, 9, 10, 11, 12, 13] [12, 13, 0, 1, 2, 3, 4, 5, 6, 7, 8, 9, 10, 11] rfl rfl rfl rfl rfl rfl rfl rfl rfl rfl hl.1 rfl (Nat.le_of_ble_eq_true rfl) dX7_line_44 rfl (fun H locs hP hD hS => ?_)
        have he := Option.some.inj hf
        obtain ⟨e0, ht0⟩ := Prod.mk.inj he
        obtain ⟨e1, e2⟩ := Prod.mk.inj ht0
        exact hri _ _ _ rfl (congrArg (fun z => some (Value.int z)) e0.symm) dX7_line_47 _ _ _ (by rw [e1, e2]) hP hD hS
  have hl : lv_has ls0 4 [(0, .ref (ama 0)), (1, .int x1), (2, .int x2)] := hl0
  have hP := hP0
  have hD := hD0
  have hS := hS0
  unfold fX7_line at hf
  refine lv_aload_n hx hb dX7_line_0 rfl (lv_at hl 0 rfl) ?_
  refine lv_iload_n hx hb dX7_line_1 rfl (lv_at hl 1 rfl) ?_
  obtain ⟨r1, hg2, hf⟩ := b1_el hf
  refine cc_V (w' := ((kX7 cs ama (.ref (are 0)) (.ref (are2 0)) (.ref (are3 0)) (.ref (ach 0)) (.ref (ata 0)) (.ref (asa 0)) Ma) ++ ((kX2 cs are (.ref (af 0)) (.ref (ac 0)) (.ref (atr 0)) (.ref (ase 0)) ) ++ ((kX1 cs af  Fo) ++ ((kX4 cs ase (.ref (af 0)) (.ref (ac 0)) (.ref (atr 0)) Se)))))) (wr := (kX1 cs af  Fo)) (st1 := [.int r1]) [.int x1] hx hb hml hown hu (tX7_isPlace l D cs ama are are2 are3 ach ata asa af ac atr ase x1 Ma Se r1 hg2) q508 q54 q505 q507 q6 pdX7_isPlace ⟨rfl, rfl, Nat.le_of_ble_eq_true rfl, Nat.le_of_ble_eq_true rfl⟩ hK hZ hP hD hS hA [0, 1, 2, 10, 11, 12, 13] [3, 4, 5, 6, 7, 8, 9] [7, 8, 9, 0, 1, 2, 3, 4, 5, 6, 10, 11, 12, 13] rfl rfl rfl rfl rfl rfl rfl rfl rfl rfl hl.1 rfl (Nat.le_of_ble_eq_true rfl) dX7_line_2 rfl (fun H locs hP hD hS => ?_)
  refine lv_if_eq (tgt := 21) hx hb dX7_line_5 (by decide) (fun hc3 => ?_) (fun hc3 => ?_)
  · have hf := ip_el hc3 hf
    exact h21 Ma Se _ _ _ hP hD hS (lv_sub hl [0] rfl) hf
  · have hf := in_el hc3 hf
    refine lv_iload_n hx hb dX7_line_8 rfl (lv_at hl 2 rfl) ?_
    refine lv_iconst (v := (-1)) hx hb dX7_line_9 (by decide) ?_
    refine lv_icmp_eq (tgt := 28) hx hb dX7_line_10 (by decide) (fun hc7 => ?_) (fun hc7 => ?_)
    · have hf := ip_el hc7 hf
      exact h28 x1 x2 Ma Se _ _ _ hP hD hS (lv_sub hl [0, 1, 2] rfl) hf
    · have hf := in_el hc7 hf
      refine lv_aload_n hx hb dX7_line_13 rfl (lv_at hl 0 rfl) ?_
      refine lv_iload_n hx hb dX7_line_14 rfl (lv_at hl 2 rfl) ?_
      obtain ⟨r19, hg20, hf⟩ := b1_el hf
      refine cc_V (w' := ((kX7 cs ama (.ref (are 0)) (.ref (are2 0)) (.ref (are3 0)) (.ref (ach 0)) (.ref (ata 0)) (.ref (asa 0)) Ma) ++ ((kX2 cs are (.ref (af 0)) (.ref (ac 0)) (.ref (atr 0)) (.ref (ase 0)) ) ++ ((kX1 cs af  Fo) ++ ((kX4 cs ase (.ref (af 0)) (.ref (ac 0)) (.ref (atr 0)) Se)))))) (wr := (kX4 cs ase (.ref (af 0)) (.ref (ac 0)) (.ref (atr 0)) Se)) (st1 := [.int r19]) [.int x2] hx hb hml hown hu (tX7_isOne l D cs ama are are2 are3 ach ata asa af ac atr ase x2 Ma Fo r19 hg20) q352 q54 q349 q351 q1 pdX7_isOne ⟨rfl, rfl, Nat.le_of_ble_eq_true rfl, Nat.le_of_ble_eq_true rfl⟩ hK hZ hP hD hS hA [0, 1, 2, 3, 4, 5, 6, 7, 8, 9] [10, 11, 12, 13] [4, 5, 6, 7, 8, 9, 10, 11, 12, 13, 0, 1, 2, 3] rfl rfl rfl rfl rfl rfl rfl rfl rfl rfl hl.1 rfl (Nat.le_of_ble_eq_true rfl) dX7_line_15 rfl (fun H locs hP hD hS => ?_)
      refine lv_if_ne (tgt := 28) hx hb dX7_line_18 (by decide) (fun hc21 => ?_) (fun hc21 => ?_)
      · have hf := in_el hc21 hf
        exact h28 x1 x2 Ma Se _ _ _ hP hD hS (lv_sub hl [0, 1, 2] rfl) hf
      · have hf := ip_el hc21 hf
        exact h21 Ma Se _ _ _ hP hD hS (lv_sub hl [0] rfl) hf

def fX7_may (x1 : Int32) (Ma : ST) (Fo : ST) (Se : ST) : Option (Int32 × ST) :=
  dc_b1 (fX7_isOne x1 Ma Fo) (fun r1 => (if r1 = 0 then dc_b2 (fX7_finding (-1000000001) Ma) (fun r12 Ma_13 => some (r12, Ma_13)) else dc_b1 (fX1_isAlive x1 Fo) (fun r4 => (if r4 = 0 then dc_b2 (fX7_finding (-1000000005) Ma) (fun r9 Ma_10 => some (r9, Ma_10)) else dc_b1 (fX4_allowed x1 Se Fo) (fun r7 => some (r7, Ma))))))
abbrev rmX7_may : Room := { frames := 2, cells := 0, slots := 0, locals := 44 }
set_option maxRecDepth 100000 in
set_option maxHeartbeats 4000000 in
theorem tX7_may (l : Launch) (D : va_G) (cs : Nat → ClassId) (ama : Nat → Nat) (are : Nat → Nat) (are2 : Nat → Nat) (are3 : Nat → Nat) (ach : Nat → Nat) (ata : Nat → Nat) (asa : Nat → Nat) (af : Nat → Nat) (ac : Nat → Nat) (atr : Nat → Nat) (ase : Nat → Nat) (x1 : Int32) (Ma : ST) (Fo : ST) (Se : ST) (r0 : Int32) (Maz : ST) (hf : fX7_may x1 Ma Fo Se = some (r0, Maz)) : CG l yX7_may (wsm yX7_may cX7_may 2 (some .int)) rmX7_may D cs [.ref (ama 0), .int x1] (some (.int r0)) ((kX7 cs ama (.ref (are 0)) (.ref (are2 0)) (.ref (are3 0)) (.ref (ach 0)) (.ref (ata 0)) (.ref (asa 0)) Ma) ++ ((kX2 cs are (.ref (af 0)) (.ref (ac 0)) (.ref (atr 0)) (.ref (ase 0)) ) ++ ((kX1 cs af  Fo) ++ ((kX4 cs ase (.ref (af 0)) (.ref (ac 0)) (.ref (atr 0)) Se))))) ((kX7 cs ama (.ref (are 0)) (.ref (are2 0)) (.ref (are3 0)) (.ref (ach 0)) (.ref (ata 0)) (.ref (asa 0)) Maz) ++ ((kX2 cs are (.ref (af 0)) (.ref (ac 0)) (.ref (atr 0)) (.ref (ase 0)) ) ++ ((kX1 cs af  Fo) ++ ((kX4 cs ase (.ref (af 0)) (.ref (ac 0)) (.ref (atr 0)) Se))))) := by
  refine CG.intro (by decide) (Nat.le_of_ble_eq_true rfl) ?_
  intro p e s m below meth c A Q hx hb hml hown hu hK hZ hP0 hD0 hS0 hA hri hrz hrl hrv hra ls0 hl0
  have hl : lv_has ls0 2 [(0, .ref (ama 0)), (1, .int x1)] := hl0
  have hP := hP0
  have hD := hD0
  have hS := hS0
  unfold fX7_may at hf
  refine lv_aload_n hx hb dX7_may_0 rfl (lv_at hl 0 rfl) ?_
  refine lv_iload_n hx hb dX7_may_1 rfl (lv_at hl 1 rfl) ?_
  obtain ⟨r1, hg2, hf⟩ := b1_el hf
  refine cc_V (w' := ((kX7 cs ama (.ref (are 0)) (.ref (are2 0)) (.ref (are3 0)) (.ref (ach 0)) (.ref (ata 0)) (.ref (asa 0)) Ma) ++ ((kX2 cs are (.ref (af 0)) (.ref (ac 0)) (.ref (atr 0)) (.ref (ase 0)) ) ++ ((kX1 cs af  Fo) ++ ((kX4 cs ase (.ref (af 0)) (.ref (ac 0)) (.ref (atr 0)) Se)))))) (wr := (kX4 cs ase (.ref (af 0)) (.ref (ac 0)) (.ref (atr 0)) Se)) (st1 := [.int r1]) [.int x1] hx hb hml hown hu (tX7_isOne l D cs ama are are2 are3 ach ata asa af ac atr ase x1 Ma Fo r1 hg2) q352 q54 q349 q351 q1 pdX7_isOne ⟨rfl, rfl, Nat.le_of_ble_eq_true rfl, Nat.le_of_ble_eq_true rfl⟩ hK hZ hP hD hS hA [0, 1, 2, 3, 4, 5, 6, 7, 8, 9] [10, 11, 12, 13] [4, 5, 6, 7, 8, 9, 10, 11, 12, 13, 0, 1, 2, 3] rfl rfl rfl rfl rfl rfl rfl rfl rfl rfl hl.1 rfl (Nat.le_of_ble_eq_true rfl) dX7_may_2 rfl (fun H locs hP hD hS => ?_)
  refine lv_if_ne (tgt := 15) hx hb dX7_may_5 (by decide) (fun hc3 => ?_) (fun hc3 => ?_)
  · have hf := in_el hc3 hf
    refine lv_aload_n hx hb dX7_may_15 rfl (lv_at hl 0 rfl) ?_
    refine va_get (D := D) (ci := 7) (v := .ref (are 0)) (C := RX7) (T := TX7) (N := 8) hx hb hu inX7 hown hK.1 hP 0 rfl rfl 0 (by decide) (hu _ q300) (fun _ h9 => h9) rfl dX7_may_16 ?_
    refine va_get (D := D) (ci := 2) (v := .ref (af 0)) (C := RX2) (T := TX2) (N := 4) hx hb hu inX2 hown hK.1 hP 2 rfl rfl 0 (by decide) (hu _ q196) (fun _ h9 => h9) rfl dX7_may_19 ?_
    refine lv_iload_n hx hb dX7_may_22 rfl (lv_at hl 1 rfl) ?_
    obtain ⟨r4, hg5, hf⟩ := b1_el hf
    refine cc_V (w' := ((kX7 cs ama (.ref (are 0)) (.ref (are2 0)) (.ref (are3 0)) (.ref (ach 0)) (.ref (ata 0)) (.ref (asa 0)) Ma) ++ ((kX2 cs are (.ref (af 0)) (.ref (ac 0)) (.ref (atr 0)) (.ref (ase 0)) ) ++ ((kX1 cs af  Fo) ++ ((kX4 cs ase (.ref (af 0)) (.ref (ac 0)) (.ref (atr 0)) Se)))))) (wr := ((kX7 cs ama (.ref (are 0)) (.ref (are2 0)) (.ref (are3 0)) (.ref (ach 0)) (.ref (ata 0)) (.ref (asa 0)) Ma) ++ ((kX2 cs are (.ref (af 0)) (.ref (ac 0)) (.ref (atr 0)) (.ref (ase 0)) ) ++ ((kX4 cs ase (.ref (af 0)) (.ref (ac 0)) (.ref (atr 0)) Se))))) (st1 := [.int r4]) [.int x1] hx hb hml hown hu (tX1_isAlive l D cs af x1 Fo r4 hg5) q356 q56 q353 q354 q355 pdX1_isAlive ⟨rfl, rfl, Nat.le_of_ble_eq_true rfl, Nat.le_of_ble_eq_true rfl⟩ hK hZ hP hD hS hA [3, 4, 5, 6, 7, 8, 9] [0, 1, 2, 10, 11, 12, 13] [0, 1, 2, 7, 8, 9, 10, 11, 12, 13, 3, 4, 5, 6] rfl rfl rfl rfl rfl rfl rfl rfl rfl rfl hl.1 rfl (Nat.le_of_ble_eq_true rfl) dX7_may_23 rfl (fun H locs hP hD hS => ?_)
    refine lv_if_ne (tgt := 36) hx hb dX7_may_26 (by decide) (fun hc6 => ?_) (fun hc6 => ?_)
    · have hf := in_el hc6 hf
      refine lv_aload_n hx hb dX7_may_36 rfl (lv_at hl 0 rfl) ?_
      refine va_get (D := D) (ci := 7) (v := .ref (are 0)) (C := RX7) (T := TX7) (N := 8) hx hb hu inX7 hown hK.1 hP 0 rfl rfl 0 (by decide) (hu _ q300) (fun _ h9 => h9) rfl dX7_may_37 ?_
      refine va_get (D := D) (ci := 2) (v := .ref (ase 0)) (C := RX2) (T := TX2) (N := 4) hx hb hu inX2 hown hK.1 hP 2 rfl rfl 3 (by decide) (hu _ q204) (fun _ h9 => h9) rfl dX7_may_40 ?_
      refine lv_iload_n hx hb dX7_may_43 rfl (lv_at hl 1 rfl) ?_
      obtain ⟨r7, hg8, hf⟩ := b1_el hf
      refine cc_V (w' := ((kX7 cs ama (.ref (are 0)) (.ref (are2 0)) (.ref (are3 0)) (.ref (ach 0)) (.ref (ata 0)) (.ref (asa 0)) Ma) ++ ((kX2 cs are (.ref (af 0)) (.ref (ac 0)) (.ref (atr 0)) (.ref (ase 0)) ) ++ ((kX1 cs af  Fo) ++ ((kX4 cs ase (.ref (af 0)) (.ref (ac 0)) (.ref (atr 0)) Se)))))) (wr := ((kX7 cs ama (.ref (are 0)) (.ref (are2 0)) (.ref (are3 0)) (.ref (ach 0)) (.ref (ata 0)) (.ref (asa 0)) Ma) ++ ((kX2 cs are (.ref (af 0)) (.ref (ac 0)) (.ref (atr 0)) (.ref (ase 0)) )))) (st1 := [.int r7]) [.int x1] hx hb hml hown hu (tX4_allowed l D cs ase af ac (.ref (atr 0)) x1 Se Fo r7 hg8) q375 q58 q517 q373 q374 pdX4_allowed ⟨rfl, rfl, Nat.le_of_ble_eq_true rfl, Nat.le_of_ble_eq_true rfl⟩ hK hZ hP hD hS hA [10, 11, 12, 13, 3, 4, 5, 6, 7, 8, 9] [0, 1, 2] [0, 1, 2, 7, 8, 9, 10, 11, 12, 13, 3, 4, 5, 6] rfl rfl rfl rfl rfl rfl rfl rfl rfl rfl hl.1 rfl (Nat.le_of_ble_eq_true rfl) dX7_may_44 rfl (fun H locs hP hD hS => ?_)
      have he := Option.some.inj hf
      obtain ⟨e0, e1⟩ := Prod.mk.inj he
      exact hri _ _ _ rfl (congrArg (fun z => some (Value.int z)) e0.symm) dX7_may_47 _ _ _ (by rw [e1]) hP hD hS
    · have hf := ip_el hc6 hf
      refine lv_aload_n hx hb dX7_may_29 rfl (lv_at hl 0 rfl) ?_
      refine lv_ldc (v := (-1000000005)) hx hb hown (hu _ q500) dX7_may_30 ?_
      obtain ⟨r9, Ma_10, hg11, hf⟩ := b2_el hf
      refine cc_V (w' := ((kX7 cs ama (.ref (are 0)) (.ref (are2 0)) (.ref (are3 0)) (.ref (ach 0)) (.ref (ata 0)) (.ref (asa 0)) Ma_10) ++ ((kX2 cs are (.ref (af 0)) (.ref (ac 0)) (.ref (atr 0)) (.ref (ase 0)) ) ++ ((kX1 cs af  Fo) ++ ((kX4 cs ase (.ref (af 0)) (.ref (ac 0)) (.ref (atr 0)) Se)))))) (wr := ((kX2 cs are (.ref (af 0)) (.ref (ac 0)) (.ref (atr 0)) (.ref (ase 0)) ) ++ ((kX1 cs af  Fo) ++ ((kX4 cs ase (.ref (af 0)) (.ref (ac 0)) (.ref (atr 0)) Se))))) (st1 := [.int r9]) [.int (-1000000005)] hx hb hml hown hu (tX7_finding l D cs ama are are2 are3 ach ata asa (-1000000005) Ma r9 Ma_10 hg11) q339 q54 q336 q338 q0 pdX7_finding ⟨rfl, rfl, Nat.le_of_ble_eq_true rfl, Nat.le_of_ble_eq_true rfl⟩ hK hZ hP hD hS hA [0, 1] [2, 3, 4, 5, 6, 7, 8, 9, 10, 11, 12, 13] [12, 13, 0, 1, 2, 3, 4, 5, 6, 7, 8, 9, 10, 11] rfl rfl rfl rfl rfl rfl rfl rfl rfl rfl hl.1 rfl (Nat.le_of_ble_eq_true rfl) dX7_may_32 rfl (fun H locs hP hD hS => ?_)
      have he := Option.some.inj hf
      obtain ⟨e0, e1⟩ := Prod.mk.inj he
      exact hri _ _ _ rfl (congrArg (fun z => some (Value.int z)) e0.symm) dX7_may_35 _ _ _ (by rw [e1]) hP hD hS
  · have hf := ip_el hc3 hf
    refine lv_aload_n hx hb dX7_may_8 rfl (lv_at hl 0 rfl) ?_
    refine lv_ldc (v := (-1000000001)) hx hb hown (hu _ q335) dX7_may_9 ?_
    obtain ⟨r12, Ma_13, hg14, hf⟩ := b2_el hf
    refine cc_V (w' := ((kX7 cs ama (.ref (are 0)) (.ref (are2 0)) (.ref (are3 0)) (.ref (ach 0)) (.ref (ata 0)) (.ref (asa 0)) Ma_13) ++ ((kX2 cs are (.ref (af 0)) (.ref (ac 0)) (.ref (atr 0)) (.ref (ase 0)) ) ++ ((kX1 cs af  Fo) ++ ((kX4 cs ase (.ref (af 0)) (.ref (ac 0)) (.ref (atr 0)) Se)))))) (wr := ((kX2 cs are (.ref (af 0)) (.ref (ac 0)) (.ref (atr 0)) (.ref (ase 0)) ) ++ ((kX1 cs af  Fo) ++ ((kX4 cs ase (.ref (af 0)) (.ref (ac 0)) (.ref (atr 0)) Se))))) (st1 := [.int r12]) [.int (-1000000001)] hx hb hml hown hu (tX7_finding l D cs ama are are2 are3 ach ata asa (-1000000001) Ma r12 Ma_13 hg14) q339 q54 q336 q338 q0 pdX7_finding ⟨rfl, rfl, Nat.le_of_ble_eq_true rfl, Nat.le_of_ble_eq_true rfl⟩ hK hZ hP hD hS hA [0, 1] [2, 3, 4, 5, 6, 7, 8, 9, 10, 11, 12, 13] [12, 13, 0, 1, 2, 3, 4, 5, 6, 7, 8, 9, 10, 11] rfl rfl rfl rfl rfl rfl rfl rfl rfl rfl hl.1 rfl (Nat.le_of_ble_eq_true rfl) dX7_may_11 rfl (fun H locs hP hD hS => ?_)
    have he := Option.some.inj hf
    obtain ⟨e0, e1⟩ := Prod.mk.inj he
    exact hri _ _ _ rfl (congrArg (fun z => some (Value.int z)) e0.symm) dX7_may_14 _ _ _ (by rw [e1]) hP hD hS

def fX7_seed (x1 : Int32) (Ma : ST) (Fo : ST) : Option (Int32 × ST) :=
  dc_lt (Fo 0 8) (fun v1 => dc_lt (sti Fo 0 8 x1) (fun Fo_2 => some (v1, Fo_2)))
abbrev rmX7_seed : Room := { frames := 0, cells := 0, slots := 0, locals := 0 }
set_option maxRecDepth 100000 in
set_option maxHeartbeats 4000000 in
theorem tX7_seed (l : Launch) (D : va_G) (cs : Nat → ClassId) (ama : Nat → Nat) (are : Nat → Nat) (are2 : Nat → Nat) (are3 : Nat → Nat) (ach : Nat → Nat) (ata : Nat → Nat) (asa : Nat → Nat) (af : Nat → Nat) (ac : Nat → Nat) (atr : Nat → Nat) (ase : Nat → Nat) (x1 : Int32) (Ma : ST) (Fo : ST) (r0 : Int32) (Foz : ST) (hf : fX7_seed x1 Ma Fo = some (r0, Foz)) : CG l yX7_seed (wsm yX7_seed cX7_seed 3 (some .int)) rmX7_seed D cs [.ref (ama 0), .int x1] (some (.int r0)) ((kX7 cs ama (.ref (are 0)) (.ref (are2 0)) (.ref (are3 0)) (.ref (ach 0)) (.ref (ata 0)) (.ref (asa 0)) Ma) ++ ((kX2 cs are (.ref (af 0)) (.ref (ac 0)) (.ref (atr 0)) (.ref (ase 0)) ) ++ ((kX1 cs af  Fo)))) ((kX7 cs ama (.ref (are 0)) (.ref (are2 0)) (.ref (are3 0)) (.ref (ach 0)) (.ref (ata 0)) (.ref (asa 0)) Ma) ++ ((kX2 cs are (.ref (af 0)) (.ref (ac 0)) (.ref (atr 0)) (.ref (ase 0)) ) ++ ((kX1 cs af  Foz)))) := by
  refine CG.intro (by decide) (Nat.le_of_ble_eq_true rfl) ?_
  intro p e s m below meth c A Q hx hb hml hown hu hK hZ hP0 hD0 hS0 hA hri hrz hrl hrv hra ls0 hl0
  have hl : lv_has ls0 3 [(0, .ref (ama 0)), (1, .int x1)] := hl0
  have hP := hP0
  have hD := hD0
  have hS := hS0
  unfold fX7_seed at hf
  refine lv_aload_n hx hb dX7_seed_0 rfl (lv_at hl 0 rfl) ?_
  refine va_get (D := D) (ci := 7) (v := .ref (are 0)) (C := RX7) (T := TX7) (N := 8) hx hb hu inX7 hown hK.1 hP 0 rfl rfl 0 (by decide) (hu _ q300) (fun _ h9 => h9) rfl dX7_seed_1 ?_
  refine va_get (D := D) (ci := 2) (v := .ref (af 0)) (C := RX2) (T := TX2) (N := 4) hx hb hu inX2 hown hK.1 hP 2 rfl rfl 0 (by decide) (hu _ q196) (fun _ h9 => h9) rfl dX7_seed_4 ?_
  refine va_get (D := D) (ci := 1) (v := .int (Fo 0 8)) (C := RX1) (T := TX1) (N := 9) hx hb hu inX1 hown hK.1 hP 3 rfl rfl 8 (by decide) (hu _ q113) (fun _ h9 => h9) rfl dX7_seed_7 ?_
  obtain ⟨v1, hv1, hf⟩ := lt_el hf
  refine lv_tope hv1 ?_
  refine lv_istore_n (lv' := [(2, .int v1), (0, .ref (ama 0)), (1, .int x1)]) hx hb dX7_seed_10 rfl hl (by decide) rfl (fun ls hl => ?_)
  refine lv_aload_n hx hb dX7_seed_11 rfl (lv_at hl 1 rfl) ?_
  refine va_get (D := D) (ci := 7) (v := .ref (are 0)) (C := RX7) (T := TX7) (N := 8) hx hb hu inX7 hown hK.1 hP 0 rfl rfl 0 (by decide) (hu _ q300) (fun _ h9 => h9) rfl dX7_seed_12 ?_
  refine va_get (D := D) (ci := 2) (v := .ref (af 0)) (C := RX2) (T := TX2) (N := 4) hx hb hu inX2 hown hK.1 hP 2 rfl rfl 0 (by decide) (hu _ q196) (fun _ h9 => h9) rfl dX7_seed_15 ?_
  refine lv_iload_n hx hb dX7_seed_18 rfl (lv_at hl 2 rfl) ?_
  obtain ⟨Fo_2, hFo_2, hf⟩ := lt_el hf
  refine va_put (D := D) (ci := 1) (v := .int x1) (ty := .int) (C := RX1) (T := TX1) (N := 9) hx hb hu inX1 tyX1 tyX1_ok nmX1 hown hK.1 hP hD hS 3 rfl rfl 8 (by decide) (hu _ q113) (fun _ h9 => h9) rfl (by decide +kernel) rfl rfl (Nat.le_of_ble_eq_true rfl) dX7_seed_19 (fun H locs hP hD hS => ?_)
  have hP : va_P D vwCl ((kX7 cs ama (.ref (are 0)) (.ref (are2 0)) (.ref (are3 0)) (.ref (ach 0)) (.ref (ata 0)) (.ref (asa 0)) Ma) ++ ((kX2 cs are (.ref (af 0)) (.ref (ac 0)) (.ref (atr 0)) (.ref (ase 0)) ) ++ ((kX1 cs af  Fo_2)))) H := by rw [hFo_2]; exact hP
  have hD : va_D A ((kX7 cs ama (.ref (are 0)) (.ref (are2 0)) (.ref (are3 0)) (.ref (ach 0)) (.ref (ata 0)) (.ref (asa 0)) Ma) ++ ((kX2 cs are (.ref (af 0)) (.ref (ac 0)) (.ref (atr 0)) (.ref (ase 0)) ) ++ ((kX1 cs af  Fo_2)))) := by rw [hFo_2]; exact hD
  refine lv_iload_n hx hb dX7_seed_22 rfl (lv_at hl 0 rfl) ?_
  have he := Option.some.inj hf
  obtain ⟨e0, e1⟩ := Prod.mk.inj he
  exact hri _ _ _ rfl (congrArg (fun z => some (Value.int z)) e0.symm) dX7_seed_23 _ _ _ (by rw [e1]) hP hD hS

def fX7_now_46 (Se : ST) (Ma : ST) : Option (Int32 × ST) :=
  dc_b2 (fX7_finding (-1000000001) Ma) (fun r4 Ma_5 => some (r4, Ma_5))
def fX7_now (x1 : Int32) (Ma : ST) (Se : ST) : Option (Int32 × ST) :=
  (if x1 = 0 then some ((Se 0 6), Ma) else (if x1 = 1 then some ((Se 0 7), Ma) else (if x1 < 2 then fX7_now_46 Se Ma else dc_b1 (fX7_isPlace (x1 - 2) Ma Se) (fun r7 => (if r7 = 0 then fX7_now_46 Se Ma else dc_ck (x1 - 2) 4 (some ((Se 5 (Int32.toNatClampNeg (x1 - 2))), Ma)))))))
abbrev rmX7_now : Room := { frames := 2, cells := 0, slots := 0, locals := 43 }
set_option maxRecDepth 100000 in
set_option maxHeartbeats 4000000 in
theorem tX7_now (l : Launch) (D : va_G) (cs : Nat → ClassId) (ama : Nat → Nat) (are : Nat → Nat) (are2 : Nat → Nat) (are3 : Nat → Nat) (ach : Nat → Nat) (ata : Nat → Nat) (asa : Nat → Nat) (af : Nat → Nat) (ac : Nat → Nat) (atr : Nat → Nat) (ase : Nat → Nat) (x1 : Int32) (Ma : ST) (Se : ST) (r0 : Int32) (Maz : ST) (hf : fX7_now x1 Ma Se = some (r0, Maz)) : CG l yX7_now (wsm yX7_now cX7_now 2 (some .int)) rmX7_now D cs [.ref (ama 0), .int x1] (some (.int r0)) ((kX7 cs ama (.ref (are 0)) (.ref (are2 0)) (.ref (are3 0)) (.ref (ach 0)) (.ref (ata 0)) (.ref (asa 0)) Ma) ++ ((kX2 cs are (.ref (af 0)) (.ref (ac 0)) (.ref (atr 0)) (.ref (ase 0)) ) ++ ((kX4 cs ase (.ref (af 0)) (.ref (ac 0)) (.ref (atr 0)) Se)))) ((kX7 cs ama (.ref (are 0)) (.ref (are2 0)) (.ref (are3 0)) (.ref (ach 0)) (.ref (ata 0)) (.ref (asa 0)) Maz) ++ ((kX2 cs are (.ref (af 0)) (.ref (ac 0)) (.ref (atr 0)) (.ref (ase 0)) ) ++ ((kX4 cs ase (.ref (af 0)) (.ref (ac 0)) (.ref (atr 0)) Se)))) := by
  refine CG.intro (by decide) (Nat.le_of_ble_eq_true rfl) ?_
  intro p e s m below meth c A Q hx hb hml hown hu hK hZ hP0 hD0 hS0 hA hri hrz hrl hrv hra ls0 hl0
  have h46 : ∀ (Ma : ST) (H : Heap) (locs : List Loc) (ls : Array Slot), va_P D vwCl ((kX7 cs ama (.ref (are 0)) (.ref (are2 0)) (.ref (are3 0)) (.ref (ach 0)) (.ref (ata 0)) (.ref (asa 0)) Ma) ++ ((kX2 cs are (.ref (af 0)) (.ref (ac 0)) (.ref (atr 0)) (.ref (ase 0)) ) ++ ((kX4 cs ase (.ref (af 0)) (.ref (ac 0)) (.ref (atr 0)) Se)))) H → va_D A ((kX7 cs ama (.ref (are 0)) (.ref (are2 0)) (.ref (are3 0)) (.ref (ach 0)) (.ref (ata 0)) (.ref (asa 0)) Ma) ++ ((kX2 cs are (.ref (af 0)) (.ref (ac 0)) (.ref (atr 0)) (.ref (ase 0)) ) ++ ((kX4 cs ase (.ref (af 0)) (.ref (ac 0)) (.ref (atr 0)) Se)))) → va_S A s.heap H locs → lv_has ls 2 [(0, .ref (ama 0))] → fX7_now_46 Se Ma = some (r0, Maz) → W p l e rmX7_now s m [.ref (ama 0), .int x1].toArray below meth c H locs 0 0 Q (F0 m 46 ls []) := by
    intro Ma H locs ls hP hD hS hl hf
    unfold fX7_now_46 at hf
    refine lv_aload_n hx hb dX7_now_46 rfl (lv_at hl 0 rfl) ?_
    refine lv_ldc (v := (-1000000001)) hx hb hown (hu _ q335) dX7_now_47 ?_
    obtain ⟨r4, Ma_5, hg6, hf⟩ := b2_el hf
    refine cc_V (w' := ((kX7 cs ama (.ref (are 0)) (.ref (are2 0)) (.ref (are3 0)) (.ref (ach 0)) (.ref (ata 0)) (.ref (asa 0)) Ma_5) ++ ((kX2 cs are (.ref (af 0)) (.ref (ac 0)) (.ref (atr 0)) (.ref (ase 0)) ) ++ ((kX4 cs ase (.ref (af 0)) (.ref (ac 0)) (.ref (atr 0)) Se))))) (wr := ((kX2 cs are (.ref (af 0)) (.ref (ac 0)) (.ref (atr 0)) (.ref (ase 0)) ) ++ ((kX4 cs ase (.ref (af 0)) (.ref (ac 0)) (.ref (atr 0)) Se)))) (st1 := [.int r4]) [.int (-1000000001)] hx hb hml hown hu (tX7_finding l D cs ama are are2 are3 ach ata asa (-1000000001) Ma r4 Ma_5 hg6) q339 q54 q336 q338 q0 pdX7_finding ⟨rfl, rfl, Nat.le_of_ble_eq_true rfl, Nat.le_of_ble_eq_true rfl⟩ hK hZ hP hD hS hA [0, 1] [2, 3, 4, 5, 6] [5, 6, 0, 1, 2, 3, 4] rfl rfl rfl rfl rfl rfl rfl rfl rfl rfl hl.1 rfl (Nat.le_of_ble_eq_true rfl) dX7_now_49 rfl (fun H locs hP hD hS => ?_)
    have he := Option.some.inj hf
    obtain ⟨e0, e1⟩ := Prod.mk.inj he
    exact hri _ _ _ rfl (congrArg (fun z => some (Value.int z)) e0.symm) dX7_now_52 _ _ _ (by rw [e1]) hP hD hS
  have hl : lv_has ls0 2 [(0, .ref (ama 0)), (1, .int x1)] := hl0
  have hP := hP0
  have hD := hD0
  have hS := hS0
  unfold fX7_now at hf
  refine lv_iload_n hx hb dX7_now_0 rfl (lv_at hl 1 rfl) ?_
  refine lv_if_ne (tgt := 15) hx hb dX7_now_1 (by decide) (fun hc1 => ?_) (fun hc1 => ?_)
  · have hf := in_el hc1 hf
    refine lv_iload_n hx hb dX7_now_15 rfl (lv_at hl 1 rfl) ?_
    refine lv_iconst (v := 1) hx hb dX7_now_16 (by decide) ?_
    refine lv_icmp_ne (tgt := 31) hx hb dX7_now_17 (by decide) (fun hc2 => ?_) (fun hc2 => ?_)
    · have hf := in_el hc2 hf
      refine lv_iload_n hx hb dX7_now_31 rfl (lv_at hl 1 rfl) ?_
      refine lv_iconst (v := 2) hx hb dX7_now_32 (by decide) ?_
      refine lv_icmp_lt (tgt := 46) hx hb dX7_now_33 (by decide) (fun hc3 => ?_) (fun hc3 => ?_)
      · have hf := ip_el hc3 hf
        exact h46 Ma _ _ _ hP hD hS (lv_sub hl [0] rfl) hf
      · have hf := in_el hc3 hf
        refine lv_aload_n hx hb dX7_now_36 rfl (lv_at hl 0 rfl) ?_
        refine lv_iload_n hx hb dX7_now_37 rfl (lv_at hl 1 rfl) ?_
        refine lv_iconst (v := 2) hx hb dX7_now_38 (by decide) ?_
        refine lv_isub hx hb dX7_now_39 ?_
        obtain ⟨r7, hg8, hf⟩ := b1_el hf
        refine cc_V1 (w' := ((kX7 cs ama (.ref (are 0)) (.ref (are2 0)) (.ref (are3 0)) (.ref (ach 0)) (.ref (ata 0)) (.ref (asa 0)) Ma) ++ ((kX2 cs are (.ref (af 0)) (.ref (ac 0)) (.ref (atr 0)) (.ref (ase 0)) ) ++ ((kX4 cs ase (.ref (af 0)) (.ref (ac 0)) (.ref (atr 0)) Se))))) (st1 := [.int r7]) [.int (x1 - 2)] hx hb hml hown hu (tX7_isPlace l D cs ama are are2 are3 ach ata asa af ac atr ase (x1 - 2) Ma Se r7 hg8) q508 q54 q505 q507 q6 pdX7_isPlace ⟨rfl, rfl, Nat.le_of_ble_eq_true rfl, Nat.le_of_ble_eq_true rfl⟩ hK hZ hP hD hS hA rfl rfl rfl rfl hl.1 rfl (Nat.le_of_ble_eq_true rfl) dX7_now_40 rfl (fun H locs hP hD hS => ?_)
        refine lv_if_ne (tgt := 53) hx hb dX7_now_43 (by decide) (fun hc9 => ?_) (fun hc9 => ?_)
        · have hf := in_el hc9 hf
          refine lv_aload_n hx hb dX7_now_53 rfl (lv_at hl 0 rfl) ?_
          refine va_get (D := D) (ci := 7) (v := .ref (are 0)) (C := RX7) (T := TX7) (N := 8) hx hb hu inX7 hown hK.1 hP 0 rfl rfl 0 (by decide) (hu _ q300) (fun _ h9 => h9) rfl dX7_now_54 ?_
          refine va_get (D := D) (ci := 2) (v := .ref (ase 0)) (C := RX2) (T := TX2) (N := 4) hx hb hu inX2 hown hK.1 hP 2 rfl rfl 3 (by decide) (hu _ q204) (fun _ h9 => h9) rfl dX7_now_57 ?_
          refine va_get (D := D) (ci := 4) (v := .ref (ase 5)) (C := RX4) (T := TX4) (N := 10) hx hb hu inX4 hown hK.1 hP 3 rfl rfl 4 (by decide) (hu _ q164) (fun _ h9 => h9) rfl dX7_now_60 ?_
          refine lv_iload_n hx hb dX7_now_63 rfl (lv_at hl 1 rfl) ?_
          refine lv_iconst (v := 2) hx hb dX7_now_64 (by decide) ?_
          refine lv_isub hx hb dX7_now_65 ?_
          obtain ⟨hi10, hf⟩ := ck_el hf
          refine va_iald hx hb hK.1 hP 5 0 rfl rfl hi10 dX7_now_66 ?_
          have he := Option.some.inj hf
          obtain ⟨e0, e1⟩ := Prod.mk.inj he
          exact hri _ _ _ rfl (congrArg (fun z => some (Value.int z)) e0.symm) dX7_now_67 _ _ _ (by rw [e1]) hP hD hS
        · have hf := ip_el hc9 hf
          exact h46 Ma _ _ _ hP hD hS (lv_sub hl [0] rfl) hf
    · have hf := ip_el hc2 hf
      refine lv_aload_n hx hb dX7_now_20 rfl (lv_at hl 0 rfl) ?_
      refine va_get (D := D) (ci := 7) (v := .ref (are 0)) (C := RX7) (T := TX7) (N := 8) hx hb hu inX7 hown hK.1 hP 0 rfl rfl 0 (by decide) (hu _ q300) (fun _ h9 => h9) rfl dX7_now_21 ?_
      refine va_get (D := D) (ci := 2) (v := .ref (ase 0)) (C := RX2) (T := TX2) (N := 4) hx hb hu inX2 hown hK.1 hP 2 rfl rfl 3 (by decide) (hu _ q204) (fun _ h9 => h9) rfl dX7_now_24 ?_
      refine va_get (D := D) (ci := 4) (v := .int (Se 0 7)) (C := RX4) (T := TX4) (N := 10) hx hb hu inX4 hown hK.1 hP 3 rfl rfl 7 (by decide) (hu _ q170) (fun _ h9 => h9) rfl dX7_now_27 ?_
      have he := Option.some.inj hf
      obtain ⟨e0, e1⟩ := Prod.mk.inj he
      exact hri _ _ _ rfl (congrArg (fun z => some (Value.int z)) e0.symm) dX7_now_30 _ _ _ (by rw [e1]) hP hD hS
  · have hf := ip_el hc1 hf
    refine lv_aload_n hx hb dX7_now_4 rfl (lv_at hl 0 rfl) ?_
    refine va_get (D := D) (ci := 7) (v := .ref (are 0)) (C := RX7) (T := TX7) (N := 8) hx hb hu inX7 hown hK.1 hP 0 rfl rfl 0 (by decide) (hu _ q300) (fun _ h9 => h9) rfl dX7_now_5 ?_
    refine va_get (D := D) (ci := 2) (v := .ref (ase 0)) (C := RX2) (T := TX2) (N := 4) hx hb hu inX2 hown hK.1 hP 2 rfl rfl 3 (by decide) (hu _ q204) (fun _ h9 => h9) rfl dX7_now_8 ?_
    refine va_get (D := D) (ci := 4) (v := .int (Se 0 6)) (C := RX4) (T := TX4) (N := 10) hx hb hu inX4 hown hK.1 hP 3 rfl rfl 6 (by decide) (hu _ q168) (fun _ h9 => h9) rfl dX7_now_11 ?_
    have he := Option.some.inj hf
    obtain ⟨e0, e1⟩ := Prod.mk.inj he
    exact hri _ _ _ rfl (congrArg (fun z => some (Value.int z)) e0.symm) dX7_now_14 _ _ _ (by rw [e1]) hP hD hS

def fX7_vote_6_s (Fo : ST) (k6 : Int32 → Int32 → Int32 → ST → Option (Int32 × ST)) (y1 : Int32) (y2 : Int32) (y3 : Int32) (Ma : ST) : Option (Int32 × ST) :=
  (if (Fo 0 0) ≤ y3 then (if y1 = (-1) then dc_b2 (fX7_finding (-1000000004) Ma) (fun r3 Ma_4 => some (r3, Ma_4)) else some (y1, Ma)) else dc_b1 (fX1_isAlive y3 Fo) (fun r6 => (if r6 = 0 then dc_lt (y3 + 1) (fun v9 => k6 y1 y2 v9 Ma) else dc_b1 (fX1_likedByOthers y3 Fo) (fun r10 => (if y1 = (-1) then dc_lt (y3 + 1) (fun v13 => k6 y3 r10 v13 Ma) else (if r10 ≤ y2 then dc_lt (y3 + 1) (fun v15 => k6 y1 y2 v15 Ma) else dc_lt (y3 + 1) (fun v16 => k6 y3 r10 v16 Ma)))))))
def fX7_vote_6 (Fo : ST) : Nat → Int32 → Int32 → Int32 → ST → Option (Int32 × ST)
  | 0 => fun _ _ _ _ => none
  | n + 1 => fX7_vote_6_s Fo (fX7_vote_6 Fo n)
def fX7_vote (Ma : ST) (Fo : ST) : Option (Int32 × ST) :=
  fX7_vote_6 Fo 400 (-1) 0 0 Ma
abbrev rmX7_vote : Room := { frames := 3, cells := 0, slots := 0, locals := 65 }
set_option maxRecDepth 100000 in
set_option maxHeartbeats 4000000 in
theorem tX7_vote (l : Launch) (D : va_G) (cs : Nat → ClassId) (ama : Nat → Nat) (are : Nat → Nat) (are2 : Nat → Nat) (are3 : Nat → Nat) (ach : Nat → Nat) (ata : Nat → Nat) (asa : Nat → Nat) (af : Nat → Nat) (ac : Nat → Nat) (atr : Nat → Nat) (ase : Nat → Nat) (Ma : ST) (Fo : ST) (r0 : Int32) (Maz : ST) (hf : fX7_vote Ma Fo = some (r0, Maz)) : CG l yX7_vote (wsm yX7_vote cX7_vote 5 (some .int)) rmX7_vote D cs [.ref (ama 0)] (some (.int r0)) ((kX7 cs ama (.ref (are 0)) (.ref (are2 0)) (.ref (are3 0)) (.ref (ach 0)) (.ref (ata 0)) (.ref (asa 0)) Ma) ++ ((kX2 cs are (.ref (af 0)) (.ref (ac 0)) (.ref (atr 0)) (.ref (ase 0)) ) ++ ((kX1 cs af  Fo)))) ((kX7 cs ama (.ref (are 0)) (.ref (are2 0)) (.ref (are3 0)) (.ref (ach 0)) (.ref (ata 0)) (.ref (asa 0)) Maz) ++ ((kX2 cs are (.ref (af 0)) (.ref (ac 0)) (.ref (atr 0)) (.ref (ase 0)) ) ++ ((kX1 cs af  Fo)))) := by
  refine CG.intro (by decide) (Nat.le_of_ble_eq_true rfl) ?_
  intro p e s m below meth c A Q hx hb hml hown hu hK hZ hP0 hD0 hS0 hA hri hrz hrl hrv hra ls0 hl0
  have hs6 : ∀ (k6 : Int32 → Int32 → Int32 → ST → Option (Int32 × ST)), (∀ (y1 : Int32) (y2 : Int32) (y3 : Int32) (Ma : ST) (H : Heap) (locs : List Loc) (ls : Array Slot), va_P D vwCl ((kX7 cs ama (.ref (are 0)) (.ref (are2 0)) (.ref (are3 0)) (.ref (ach 0)) (.ref (ata 0)) (.ref (asa 0)) Ma) ++ ((kX2 cs are (.ref (af 0)) (.ref (ac 0)) (.ref (atr 0)) (.ref (ase 0)) ) ++ ((kX1 cs af  Fo)))) H → va_D A ((kX7 cs ama (.ref (are 0)) (.ref (are2 0)) (.ref (are3 0)) (.ref (ach 0)) (.ref (ata 0)) (.ref (asa 0)) Ma) ++ ((kX2 cs are (.ref (af 0)) (.ref (ac 0)) (.ref (atr 0)) (.ref (ase 0)) ) ++ ((kX1 cs af  Fo)))) → va_S A s.heap H locs → lv_has ls 5 [(0, .ref (ama 0)), (1, .int y1), (2, .int y2), (3, .int y3)] → k6 y1 y2 y3 Ma = some (r0, Maz) → W p l e rmX7_vote s m [.ref (ama 0)].toArray below meth c H locs 0 0 Q (F0 m 6 ls [])) → ∀ (y1 : Int32) (y2 : Int32) (y3 : Int32) (Ma : ST) (H : Heap) (locs : List Loc) (ls : Array Slot), va_P D vwCl ((kX7 cs ama (.ref (are 0)) (.ref (are2 0)) (.ref (are3 0)) (.ref (ach 0)) (.ref (ata 0)) (.ref (asa 0)) Ma) ++ ((kX2 cs are (.ref (af 0)) (.ref (ac 0)) (.ref (atr 0)) (.ref (ase 0)) ) ++ ((kX1 cs af  Fo)))) H → va_D A ((kX7 cs ama (.ref (are 0)) (.ref (are2 0)) (.ref (are3 0)) (.ref (ach 0)) (.ref (ata 0)) (.ref (asa 0)) Ma) ++ ((kX2 cs are (.ref (af 0)) (.ref (ac 0)) (.ref (atr 0)) (.ref (ase 0)) ) ++ ((kX1 cs af  Fo)))) → va_S A s.heap H locs → lv_has ls 5 [(0, .ref (ama 0)), (1, .int y1), (2, .int y2), (3, .int y3)] → fX7_vote_6_s Fo k6 y1 y2 y3 Ma = some (r0, Maz) → W p l e rmX7_vote s m [.ref (ama 0)].toArray below meth c H locs 0 0 Q (F0 m 6 ls []) := by
    intro k6 hk6 y1 y2 y3 Ma H locs ls hP hD hS hl hf
    unfold fX7_vote_6_s at hf
    refine lv_iload_n hx hb dX7_vote_6 rfl (lv_at hl 3 rfl) ?_
    refine lv_aload_n hx hb dX7_vote_7 rfl (lv_at hl 0 rfl) ?_
    refine va_get (D := D) (ci := 7) (v := .ref (are 0)) (C := RX7) (T := TX7) (N := 8) hx hb hu inX7 hown hK.1 hP 0 rfl rfl 0 (by decide) (hu _ q300) (fun _ h9 => h9) rfl dX7_vote_8 ?_
    refine va_get (D := D) (ci := 2) (v := .ref (af 0)) (C := RX2) (T := TX2) (N := 4) hx hb hu inX2 hown hK.1 hP 2 rfl rfl 0 (by decide) (hu _ q196) (fun _ h9 => h9) rfl dX7_vote_11 ?_
    refine va_get (D := D) (ci := 1) (v := .int (Fo 0 0)) (C := RX1) (T := TX1) (N := 9) hx hb hu inX1 hown hK.1 hP 3 rfl rfl 0 (by decide) (hu _ q93) (fun _ h9 => h9) rfl dX7_vote_14 ?_
    refine lv_icmp_ge (tgt := 69) hx hb dX7_vote_17 (by decide) (fun hc1 => ?_) (fun hc1 => ?_)
    · have hf := ip_el hc1 hf
      refine lv_iload_n hx hb dX7_vote_69 rfl (lv_at hl 1 rfl) ?_
      refine lv_iconst (v := (-1)) hx hb dX7_vote_70 (by decide) ?_
      refine lv_icmp_ne (tgt := 83) hx hb dX7_vote_71 (by decide) (fun hc2 => ?_) (fun hc2 => ?_)
      · have hf := in_el hc2 hf
        refine lv_iload_n hx hb dX7_vote_83 rfl (lv_at hl 1 rfl) ?_
        have he := Option.some.inj hf
        obtain ⟨e0, e1⟩ := Prod.mk.inj he
        exact hri _ _ _ rfl (congrArg (fun z => some (Value.int z)) e0.symm) dX7_vote_84 _ _ _ (by rw [e1]) hP hD hS
      · have hf := ip_el hc2 hf
        refine lv_aload_n hx hb dX7_vote_74 rfl (lv_at hl 0 rfl) ?_
        refine lv_ldc (v := (-1000000004)) hx hb hown (hu _ q586) dX7_vote_75 ?_
        obtain ⟨r3, Ma_4, hg5, hf⟩ := b2_el hf
        refine cc_V (w' := ((kX7 cs ama (.ref (are 0)) (.ref (are2 0)) (.ref (are3 0)) (.ref (ach 0)) (.ref (ata 0)) (.ref (asa 0)) Ma_4) ++ ((kX2 cs are (.ref (af 0)) (.ref (ac 0)) (.ref (atr 0)) (.ref (ase 0)) ) ++ ((kX1 cs af  Fo))))) (wr := ((kX2 cs are (.ref (af 0)) (.ref (ac 0)) (.ref (atr 0)) (.ref (ase 0)) ) ++ ((kX1 cs af  Fo)))) (st1 := [.int r3]) [.int (-1000000004)] hx hb hml hown hu (tX7_finding l D cs ama are are2 are3 ach ata asa (-1000000004) Ma r3 Ma_4 hg5) q339 q54 q336 q338 q0 pdX7_finding ⟨rfl, rfl, Nat.le_of_ble_eq_true rfl, Nat.le_of_ble_eq_true rfl⟩ hK hZ hP hD hS hA [0, 1] [2, 3, 4, 5, 6, 7, 8, 9] [8, 9, 0, 1, 2, 3, 4, 5, 6, 7] rfl rfl rfl rfl rfl rfl rfl rfl rfl rfl hl.1 rfl (Nat.le_of_ble_eq_true rfl) dX7_vote_77 rfl (fun H locs hP hD hS => ?_)
        refine lv_goto (tgt := 84) hx hb dX7_vote_80 (by decide) ?_
        have he := Option.some.inj hf
        obtain ⟨e0, e1⟩ := Prod.mk.inj he
        exact hri _ _ _ rfl (congrArg (fun z => some (Value.int z)) e0.symm) dX7_vote_84 _ _ _ (by rw [e1]) hP hD hS
    · have hf := in_el hc1 hf
      refine lv_aload_n hx hb dX7_vote_20 rfl (lv_at hl 0 rfl) ?_
      refine va_get (D := D) (ci := 7) (v := .ref (are 0)) (C := RX7) (T := TX7) (N := 8) hx hb hu inX7 hown hK.1 hP 0 rfl rfl 0 (by decide) (hu _ q300) (fun _ h9 => h9) rfl dX7_vote_21 ?_
      refine va_get (D := D) (ci := 2) (v := .ref (af 0)) (C := RX2) (T := TX2) (N := 4) hx hb hu inX2 hown hK.1 hP 2 rfl rfl 0 (by decide) (hu _ q196) (fun _ h9 => h9) rfl dX7_vote_24 ?_
      refine lv_iload_n hx hb dX7_vote_27 rfl (lv_at hl 3 rfl) ?_
      obtain ⟨r6, hg7, hf⟩ := b1_el hf
      refine cc_V (w' := ((kX7 cs ama (.ref (are 0)) (.ref (are2 0)) (.ref (are3 0)) (.ref (ach 0)) (.ref (ata 0)) (.ref (asa 0)) Ma) ++ ((kX2 cs are (.ref (af 0)) (.ref (ac 0)) (.ref (atr 0)) (.ref (ase 0)) ) ++ ((kX1 cs af  Fo))))) (wr := ((kX7 cs ama (.ref (are 0)) (.ref (are2 0)) (.ref (are3 0)) (.ref (ach 0)) (.ref (ata 0)) (.ref (asa 0)) Ma) ++ ((kX2 cs are (.ref (af 0)) (.ref (ac 0)) (.ref (atr 0)) (.ref (ase 0)) )))) (st1 := [.int r6]) [.int y3] hx hb hml hown hu (tX1_isAlive l D cs af y3 Fo r6 hg7) q356 q56 q353 q354 q355 pdX1_isAlive ⟨rfl, rfl, Nat.le_of_ble_eq_true rfl, Nat.le_of_ble_eq_true rfl⟩ hK hZ hP hD hS hA [3, 4, 5, 6, 7, 8, 9] [0, 1, 2] [0, 1, 2, 3, 4, 5, 6, 7, 8, 9] rfl rfl rfl rfl rfl rfl rfl rfl rfl rfl hl.1 rfl (Nat.le_of_ble_eq_true rfl) dX7_vote_28 rfl (fun H locs hP hD hS => ?_)
      refine lv_if_eq (tgt := 63) hx hb dX7_vote_31 (by decide) (fun hc8 => ?_) (fun hc8 => ?_)
      · have hf := ip_el hc8 hf
        obtain ⟨v9, hv9, hf⟩ := lt_el hf
        refine lv_iinc (v := v9) (lv' := [(3, .int v9), (0, .ref (ama 0)), (1, .int y1), (2, .int y2)]) hx hb dX7_vote_63 hl (k := 3) rfl (by rw [hv9]; rfl) (by decide) rfl (fun ls hl => ?_)
        refine lv_goto (tgt := 6) hx hb dX7_vote_66 (by decide) ?_
        exact hk6 y1 y2 v9 Ma _ _ _ hP hD hS (lv_sub hl [1, 2, 3, 0] rfl) hf
      · have hf := in_el hc8 hf
        refine lv_aload_n hx hb dX7_vote_34 rfl (lv_at hl 0 rfl) ?_
        refine va_get (D := D) (ci := 7) (v := .ref (are 0)) (C := RX7) (T := TX7) (N := 8) hx hb hu inX7 hown hK.1 hP 0 rfl rfl 0 (by decide) (hu _ q300) (fun _ h9 => h9) rfl dX7_vote_35 ?_
        refine va_get (D := D) (ci := 2) (v := .ref (af 0)) (C := RX2) (T := TX2) (N := 4) hx hb hu inX2 hown hK.1 hP 2 rfl rfl 0 (by decide) (hu _ q196) (fun _ h9 => h9) rfl dX7_vote_38 ?_
        refine lv_iload_n hx hb dX7_vote_41 rfl (lv_at hl 3 rfl) ?_
        obtain ⟨r10, hg11, hf⟩ := b1_el hf
        refine cc_V (w' := ((kX7 cs ama (.ref (are 0)) (.ref (are2 0)) (.ref (are3 0)) (.ref (ach 0)) (.ref (ata 0)) (.ref (asa 0)) Ma) ++ ((kX2 cs are (.ref (af 0)) (.ref (ac 0)) (.ref (atr 0)) (.ref (ase 0)) ) ++ ((kX1 cs af  Fo))))) (wr := ((kX7 cs ama (.ref (are 0)) (.ref (are2 0)) (.ref (are3 0)) (.ref (ach 0)) (.ref (ata 0)) (.ref (asa 0)) Ma) ++ ((kX2 cs are (.ref (af 0)) (.ref (ac 0)) (.ref (atr 0)) (.ref (ase 0)) )))) (st1 := [.int r10]) [.int y3] hx hb hml hown hu (tX1_likedByOthers l D cs af y3 Fo r10 hg11) q625 q56 q622 q623 q624 pdX1_likedByOthers ⟨rfl, rfl, Nat.le_of_ble_eq_true rfl, Nat.le_of_ble_eq_true rfl⟩ hK hZ hP hD hS hA [3, 4, 5, 6, 7, 8, 9] [0, 1, 2] [0, 1, 2, 3, 4, 5, 6, 7, 8, 9] rfl rfl rfl rfl rfl rfl rfl rfl rfl rfl hl.1 rfl (Nat.le_of_ble_eq_true rfl) dX7_vote_42 rfl (fun H locs hP hD hS => ?_)
        refine lv_istore (lv' := [(4, .int r10), (0, .ref (ama 0)), (1, .int y1), (2, .int y2), (3, .int y3)]) hx hb dX7_vote_45 hl (by decide) rfl (fun ls hl => ?_)
        refine lv_iload_n hx hb dX7_vote_47 rfl (lv_at hl 2 rfl) ?_
        refine lv_iconst (v := (-1)) hx hb dX7_vote_48 (by decide) ?_
        refine lv_icmp_eq (tgt := 58) hx hb dX7_vote_49 (by decide) (fun hc12 => ?_) (fun hc12 => ?_)
        · have hf := ip_el hc12 hf
          refine lv_iload_n hx hb dX7_vote_58 rfl (lv_at hl 4 rfl) ?_
          refine lv_istore_n (lv' := [(1, .int y3), (4, .int r10), (0, .ref (ama 0)), (2, .int y2), (3, .int y3)]) hx hb dX7_vote_59 rfl hl (by decide) rfl (fun ls hl => ?_)
          refine lv_iload hx hb dX7_vote_60 (lv_at hl 1 rfl) ?_
          refine lv_istore_n (lv' := [(2, .int r10), (1, .int y3), (4, .int r10), (0, .ref (ama 0)), (3, .int y3)]) hx hb dX7_vote_62 rfl hl (by decide) rfl (fun ls hl => ?_)
          obtain ⟨v13, hv13, hf⟩ := lt_el hf
          refine lv_iinc (v := v13) (lv' := [(3, .int v13), (2, .int r10), (1, .int y3), (4, .int r10), (0, .ref (ama 0))]) hx hb dX7_vote_63 hl (k := 4) rfl (by rw [hv13]; rfl) (by decide) rfl (fun ls hl => ?_)
          refine lv_goto (tgt := 6) hx hb dX7_vote_66 (by decide) ?_
          exact hk6 y3 r10 v13 Ma _ _ _ hP hD hS (lv_sub hl [4, 2, 1, 0] rfl) hf
        · have hf := in_el hc12 hf
          refine lv_iload hx hb dX7_vote_52 (lv_at hl 0 rfl) ?_
          refine lv_iload_n hx hb dX7_vote_54 rfl (lv_at hl 3 rfl) ?_
          refine lv_icmp_le (tgt := 63) hx hb dX7_vote_55 (by decide) (fun hc14 => ?_) (fun hc14 => ?_)
          · have hf := ip_el hc14 hf
            obtain ⟨v15, hv15, hf⟩ := lt_el hf
            refine lv_iinc (v := v15) (lv' := [(3, .int v15), (4, .int r10), (0, .ref (ama 0)), (1, .int y1), (2, .int y2)]) hx hb dX7_vote_63 hl (k := 4) rfl (by rw [hv15]; rfl) (by decide) rfl (fun ls hl => ?_)
            refine lv_goto (tgt := 6) hx hb dX7_vote_66 (by decide) ?_
            exact hk6 y1 y2 v15 Ma _ _ _ hP hD hS (lv_sub hl [2, 3, 4, 0] rfl) hf
          · have hf := in_el hc14 hf
            refine lv_iload_n hx hb dX7_vote_58 rfl (lv_at hl 4 rfl) ?_
            refine lv_istore_n (lv' := [(1, .int y3), (4, .int r10), (0, .ref (ama 0)), (2, .int y2), (3, .int y3)]) hx hb dX7_vote_59 rfl hl (by decide) rfl (fun ls hl => ?_)
            refine lv_iload hx hb dX7_vote_60 (lv_at hl 1 rfl) ?_
            refine lv_istore_n (lv' := [(2, .int r10), (1, .int y3), (4, .int r10), (0, .ref (ama 0)), (3, .int y3)]) hx hb dX7_vote_62 rfl hl (by decide) rfl (fun ls hl => ?_)
            obtain ⟨v16, hv16, hf⟩ := lt_el hf
            refine lv_iinc (v := v16) (lv' := [(3, .int v16), (2, .int r10), (1, .int y3), (4, .int r10), (0, .ref (ama 0))]) hx hb dX7_vote_63 hl (k := 4) rfl (by rw [hv16]; rfl) (by decide) rfl (fun ls hl => ?_)
            refine lv_goto (tgt := 6) hx hb dX7_vote_66 (by decide) ?_
            exact hk6 y3 r10 v16 Ma _ _ _ hP hD hS (lv_sub hl [4, 2, 1, 0] rfl) hf
  have h6 : ∀ (n : Nat), ∀ (y1 : Int32) (y2 : Int32) (y3 : Int32) (Ma : ST) (H : Heap) (locs : List Loc) (ls : Array Slot), va_P D vwCl ((kX7 cs ama (.ref (are 0)) (.ref (are2 0)) (.ref (are3 0)) (.ref (ach 0)) (.ref (ata 0)) (.ref (asa 0)) Ma) ++ ((kX2 cs are (.ref (af 0)) (.ref (ac 0)) (.ref (atr 0)) (.ref (ase 0)) ) ++ ((kX1 cs af  Fo)))) H → va_D A ((kX7 cs ama (.ref (are 0)) (.ref (are2 0)) (.ref (are3 0)) (.ref (ach 0)) (.ref (ata 0)) (.ref (asa 0)) Ma) ++ ((kX2 cs are (.ref (af 0)) (.ref (ac 0)) (.ref (atr 0)) (.ref (ase 0)) ) ++ ((kX1 cs af  Fo)))) → va_S A s.heap H locs → lv_has ls 5 [(0, .ref (ama 0)), (1, .int y1), (2, .int y2), (3, .int y3)] → fX7_vote_6 Fo n y1 y2 y3 Ma = some (r0, Maz) → W p l e rmX7_vote s m [.ref (ama 0)].toArray below meth c H locs 0 0 Q (F0 m 6 ls []) := by
    intro n
    induction n with
    | zero => intro y1 y2 y3 Ma H locs ls hP hD hS hl hf; exact no_el hf
    | succ n ih => intro y1 y2 y3 Ma H locs ls hP hD hS hl hf; exact hs6 _ ih y1 y2 y3 Ma _ _ _ hP hD hS hl hf
  have hl : lv_has ls0 5 [(0, .ref (ama 0))] := hl0
  have hP := hP0
  have hD := hD0
  have hS := hS0
  unfold fX7_vote at hf
  refine lv_iconst (v := (-1)) hx hb dX7_vote_0 (by decide) ?_
  refine lv_istore_n (lv' := [(1, .int (-1)), (0, .ref (ama 0))]) hx hb dX7_vote_1 rfl hl (by decide) rfl (fun ls hl => ?_)
  refine lv_iconst (v := 0) hx hb dX7_vote_2 (by decide) ?_
  refine lv_istore_n (lv' := [(2, .int 0), (1, .int (-1)), (0, .ref (ama 0))]) hx hb dX7_vote_3 rfl hl (by decide) rfl (fun ls hl => ?_)
  refine lv_iconst (v := 0) hx hb dX7_vote_4 (by decide) ?_
  refine lv_istore_n (lv' := [(3, .int 0), (2, .int 0), (1, .int (-1)), (0, .ref (ama 0))]) hx hb dX7_vote_5 rfl hl (by decide) rfl (fun ls hl => ?_)
  exact h6 400 (-1) 0 0 Ma _ _ _ hP hD hS (lv_sub hl [3, 2, 1, 0] rfl) hf
