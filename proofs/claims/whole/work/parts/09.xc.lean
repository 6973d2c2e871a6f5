def fX6_put (x1 : Int32) (Ta : ST) : Option ST :=
  (if 80 ≤ (Ta 0 2) then some Ta else dc_ck (Ta 0 2) 80 (dc_lt (sti Ta 1 (Int32.toNatClampNeg (Ta 0 2)) (vp_nar .char ((x1.toUInt32 % 65536).toInt32))) (fun Ta_3 => dc_lt (sti Ta_3 0 2 ((Ta_3 0 2) + 1)) (fun Ta_4 => some Ta_4))))
abbrev rmX6_put : Room := { frames := 0, cells := 0, slots := 0, locals := 0 }
set_option maxRecDepth 100000 in
set_option maxHeartbeats 4000000 in
theorem tX6_put (l : Launch) (D : va_G) (cs : Nat → ClassId) (ata : Nat → Nat) (adr : Nat → Nat) (x1 : Int32) (Ta : ST) (Taz : ST) (hf : fX6_put x1 Ta = some Taz) : CG l yX6_put (wsm yX6_put cX6_put 2 none) rmX6_put D cs [.ref (ata 0), .int x1] none (kX6 cs ata (.ref (adr 0)) Ta) (kX6 cs ata (.ref (adr 0)) Taz) := by
  refine CG.intro (by decide) (Nat.le_of_ble_eq_true rfl) ?_
  intro p e s m below meth c A Q hx hb hml hown hu hK hZ hP0 hD0 hS0 hA hri hrz hrl hrv hra ls0 hl0
  have hl : lv_has ls0 2 [(0, .ref (ata 0)), (1, .int x1)] := hl0
  have hP := hP0
  have hD := hD0
  have hS := hS0
  unfold fX6_put at hf
  refine lv_aload_n hx hb dX6_put_0 rfl (lv_at hl 0 rfl) ?_
  refine va_get (D := D) (ci := 6) (v := .int (Ta 0 2)) (C := RX6) (T := TX6) (N := 5) hx hb hu inX6 hown hK.1 hP 0 rfl rfl 2 (by decide) (hu _ q262) (fun _ h9 => h9) rfl dX6_put_1 ?_
  refine lv_bipush (v := 80) hx hb dX6_put_4 (by decide) ?_
  refine lv_icmp_ge (tgt := 30) hx hb dX6_put_6 (by decide) (fun hc1 => ?_) (fun hc1 => ?_)
  · have hf := ip_el hc1 hf
    have he := Option.some.inj hf
    have e0 := he
    exact hrv _ _ rfl rfl dX6_put_30 _ _ _ (by rw [e0]) hP hD hS
  · have hf := in_el hc1 hf
    refine lv_aload_n hx hb dX6_put_9 rfl (lv_at hl 0 rfl) ?_
    refine va_get (D := D) (ci := 6) (v := .ref (ata 1)) (C := RX6) (T := TX6) (N := 5) hx hb hu inX6 hown hK.1 hP 0 rfl rfl 0 (by decide) (hu _ q259) (fun _ h9 => h9) rfl dX6_put_10 ?_
    refine lv_aload_n hx hb dX6_put_13 rfl (lv_at hl 0 rfl) ?_
    refine va_get (D := D) (ci := 6) (v := .int (Ta 0 2)) (C := RX6) (T := TX6) (N := 5) hx hb hu inX6 hown hK.1 hP 0 rfl rfl 2 (by decide) (hu _ q262) (fun _ h9 => h9) rfl dX6_put_14 ?_
    refine lv_iload_n hx hb dX6_put_17 rfl (lv_at hl 1 rfl) ?_
    refine lv_i2c (v := ((x1.toUInt32 % 65536).toInt32)) hx hb dX6_put_18 rfl ?_
    obtain ⟨hi2, hf⟩ := ck_el hf
    obtain ⟨Ta_3, hTa_3, hf⟩ := lt_el hf
    refine va_cast hx hb hK.1 hP hD hS 1 2 rfl rfl hi2 dX6_put_19 (fun H locs hP hD hS => ?_)
    have hP : va_P D vwCl (kX6 cs ata (.ref (adr 0)) Ta_3) H := by rw [hTa_3]; exact hP
    have hD : va_D A (kX6 cs ata (.ref (adr 0)) Ta_3) := by rw [hTa_3]; exact hD
    refine lv_aload_n hx hb dX6_put_20 rfl (lv_at hl 0 rfl) ?_
    refine lv_dup hx hb dX6_put_21 rfl ?_
    refine va_get (D := D) (ci := 6) (v := .int (Ta_3 0 2)) (C := RX6) (T := TX6) (N := 5) hx hb hu inX6 hown hK.1 hP 0 rfl rfl 2 (by decide) (hu _ q262) (fun _ h9 => h9) rfl dX6_put_22 ?_
    refine lv_iconst (v := 1) hx hb dX6_put_25 (by decide) ?_
    refine lv_iadd hx hb dX6_put_26 ?_
    obtain ⟨Ta_4, hTa_4, hf⟩ := lt_el hf
    refine va_put (D := D) (ci := 6) (v := .int ((Ta_3 0 2) + 1)) (ty := .int) (C := RX6) (T := TX6) (N := 5) hx hb hu inX6 tyX6 tyX6_ok nmX6 hown hK.1 hP hD hS 0 rfl rfl 2 (by decide) (hu _ q262) (fun _ h9 => h9) rfl (by decide +kernel) rfl rfl (Nat.le_of_ble_eq_true rfl) dX6_put_27 (fun H locs hP hD hS => ?_)
    have hP : va_P D vwCl (kX6 cs ata (.ref (adr 0)) Ta_4) H := by rw [hTa_4]; exact hP
    have hD : va_D A (kX6 cs ata (.ref (adr 0)) Ta_4) := by rw [hTa_4]; exact hD
    have he := Option.some.inj hf
    have e0 := he
    exact hrv _ _ rfl rfl dX6_put_30 _ _ _ (by rw [e0]) hP hD hS

def fX6_sees (x1 : Int32) (Ta : ST) : Option Int32 :=
  (if (Ta 0 4) = 0 then (if (Ta 0 2) ≤ (Ta 0 3) then some 0 else dc_ck (Ta 0 3) 80 ((if (Ta 1 (Int32.toNatClampNeg (Ta 0 3))) = x1 then some 1 else some 0))) else some 0)
abbrev rmX6_sees : Room := { frames := 0, cells := 0, slots := 0, locals := 0 }
set_option maxRecDepth 100000 in
set_option maxHeartbeats 4000000 in
theorem tX6_sees (l : Launch) (D : va_G) (cs : Nat → ClassId) (ata : Nat → Nat) (adr : Nat → Nat) (x1 : Int32) (Ta : ST) (r0 : Int32) (hf : fX6_sees x1 Ta = some r0) : CG l yX6_sees (wsm yX6_sees cX6_sees 2 (some .boolean)) rmX6_sees D cs [.ref (ata 0), .int x1] (some (.int r0)) (kX6 cs ata (.ref (adr 0)) Ta) (kX6 cs ata (.ref (adr 0)) Ta) := by
  refine CG.intro (by decide) (Nat.le_of_ble_eq_true rfl) ?_
  intro p e s m below meth c A Q hx hb hml hown hu hK hZ hP0 hD0 hS0 hA hri hrz hrl hrv hra ls0 hl0
  have hl : lv_has ls0 2 [(0, .ref (ata 0)), (1, .int x1)] := hl0
  have hP := hP0
  have hD := hD0
  have hS := hS0
  unfold fX6_sees at hf
  refine lv_aload_n hx hb dX6_sees_0 rfl (lv_at hl 0 rfl) ?_
  refine va_get (D := D) (ci := 6) (v := .int (Ta 0 4)) (C := RX6) (T := TX6) (N := 5) hx hb hu inX6 hown hK.1 hP 0 rfl rfl 4 (by decide) (hu _ q266) (fun _ h9 => h9) rfl dX6_sees_1 ?_
  refine lv_if_ne (tgt := 35) hx hb dX6_sees_4 (by decide) (fun hc1 => ?_) (fun hc1 => ?_)
  · have hf := in_el hc1 hf
    refine lv_iconst (v := 0) hx hb dX6_sees_35 (by decide) ?_
    have he := Option.some.inj hf
    have e0 := he
    exact hrz _ _ _ .boolean rfl rfl (congrArg (fun z => some (Value.int z)) e0.symm) dX6_sees_36 _ _ _ rfl hP hD hS
  · have hf := ip_el hc1 hf
    refine lv_aload_n hx hb dX6_sees_7 rfl (lv_at hl 0 rfl) ?_
    refine va_get (D := D) (ci := 6) (v := .int (Ta 0 3)) (C := RX6) (T := TX6) (N := 5) hx hb hu inX6 hown hK.1 hP 0 rfl rfl 3 (by decide) (hu _ q264) (fun _ h9 => h9) rfl dX6_sees_8 ?_
    refine lv_aload_n hx hb dX6_sees_11 rfl (lv_at hl 0 rfl) ?_
    refine va_get (D := D) (ci := 6) (v := .int (Ta 0 2)) (C := RX6) (T := TX6) (N := 5) hx hb hu inX6 hown hK.1 hP 0 rfl rfl 2 (by decide) (hu _ q262) (fun _ h9 => h9) rfl dX6_sees_12 ?_
    refine lv_icmp_ge (tgt := 35) hx hb dX6_sees_15 (by decide) (fun hc2 => ?_) (fun hc2 => ?_)
    · have hf := ip_el hc2 hf
      refine lv_iconst (v := 0) hx hb dX6_sees_35 (by decide) ?_
      have he := Option.some.inj hf
      have e0 := he
      exact hrz _ _ _ .boolean rfl rfl (congrArg (fun z => some (Value.int z)) e0.symm) dX6_sees_36 _ _ _ rfl hP hD hS
    · have hf := in_el hc2 hf
      refine lv_aload_n hx hb dX6_sees_18 rfl (lv_at hl 0 rfl) ?_
      refine va_get (D := D) (ci := 6) (v := .ref (ata 1)) (C := RX6) (T := TX6) (N := 5) hx hb hu inX6 hown hK.1 hP 0 rfl rfl 0 (by decide) (hu _ q259) (fun _ h9 => h9) rfl dX6_sees_19 ?_
      refine lv_aload_n hx hb dX6_sees_22 rfl (lv_at hl 0 rfl) ?_
      refine va_get (D := D) (ci := 6) (v := .int (Ta 0 3)) (C := RX6) (T := TX6) (N := 5) hx hb hu inX6 hown hK.1 hP 0 rfl rfl 3 (by decide) (hu _ q264) (fun _ h9 => h9) rfl dX6_sees_23 ?_
      obtain ⟨hi3, hf⟩ := ck_el hf
      refine va_cald hx hb hK.1 hP 1 2 rfl rfl hi3 dX6_sees_26 ?_
      refine lv_iload_n hx hb dX6_sees_27 rfl (lv_at hl 1 rfl) ?_
      refine lv_icmp_ne (tgt := 35) hx hb dX6_sees_28 (by decide) (fun hc4 => ?_) (fun hc4 => ?_)
      · have hf := in_el hc4 hf
        refine lv_iconst (v := 0) hx hb dX6_sees_35 (by decide) ?_
        have he := Option.some.inj hf
        have e0 := he
        exact hrz _ _ _ .boolean rfl rfl (congrArg (fun z => some (Value.int z)) e0.symm) dX6_sees_36 _ _ _ rfl hP hD hS
      · have hf := ip_el hc4 hf
        refine lv_iconst (v := 1) hx hb dX6_sees_31 (by decide) ?_
        refine lv_goto (tgt := 36) hx hb dX6_sees_32 (by decide) ?_
        have he := Option.some.inj hf
        have e0 := he
        exact hrz _ _ _ .boolean rfl rfl (congrArg (fun z => some (Value.int z)) e0.symm) dX6_sees_36 _ _ _ rfl hP hD hS

def fX6_takes (x1 : Int32) (Ta : ST) : Option (Int32 × ST) :=
  dc_b1 (fX6_sees x1 Ta) (fun r1 => (if r1 = 0 then dc_bl r1 (some (r1, Ta)) else dc_lt (sti Ta 0 3 ((Ta 0 3) + 1)) (fun Ta_4 => dc_bl r1 (some (r1, Ta_4)))))
abbrev rmX6_takes : Room := { frames := 1, cells := 0, slots := 0, locals := 21 }
set_option maxRecDepth 100000 in
set_option maxHeartbeats 4000000 in
theorem tX6_takes (l : Launch) (D : va_G) (cs : Nat → ClassId) (ata : Nat → Nat) (adr : Nat → Nat) (x1 : Int32) (Ta : ST) (r0 : Int32) (Taz : ST) (hf : fX6_takes x1 Ta = some (r0, Taz)) : CG l yX6_takes (wsm yX6_takes cX6_takes 3 (some .boolean)) rmX6_takes D cs [.ref (ata 0), .int x1] (some (.int r0)) (kX6 cs ata (.ref (adr 0)) Ta) (kX6 cs ata (.ref (adr 0)) Taz) := by
  refine CG.intro (by decide) (Nat.le_of_ble_eq_true rfl) ?_
  intro p e s m below meth c A Q hx hb hml hown hu hK hZ hP0 hD0 hS0 hA hri hrz hrl hrv hra ls0 hl0
  have hl : lv_has ls0 3 [(0, .ref (ata 0)), (1, .int x1)] := hl0
  have hP := hP0
  have hD := hD0
  have hS := hS0
  unfold fX6_takes at hf
  refine lv_aload_n hx hb dX6_takes_0 rfl (lv_at hl 0 rfl) ?_
  refine lv_iload_n hx hb dX6_takes_1 rfl (lv_at hl 1 rfl) ?_
  obtain ⟨r1, hg2, hf⟩ := b1_el hf
  refine cc_V1 (w' := (kX6 cs ata (.ref (adr 0)) Ta)) (st1 := [.int r1]) [.int x1] hx hb hml hown hu (tX6_sees l D cs ata adr x1 Ta r1 hg2) q825 q60 q822 q824 q18 pdX6_sees ⟨rfl, rfl, Nat.le_of_ble_eq_true rfl, Nat.le_of_ble_eq_true rfl⟩ hK hZ hP hD hS hA rfl rfl rfl rfl hl.1 rfl (Nat.le_of_ble_eq_true rfl) dX6_takes_2 rfl (fun H locs hP hD hS => ?_)
  refine lv_istore_n (lv' := [(2, .int r1), (0, .ref (ata 0)), (1, .int x1)]) hx hb dX6_takes_5 rfl hl (by decide) rfl (fun ls hl => ?_)
  refine lv_iload_n hx hb dX6_takes_6 rfl (lv_at hl 0 rfl) ?_
  refine lv_if_eq (tgt := 20) hx hb dX6_takes_7 (by decide) (fun hc3 => ?_) (fun hc3 => ?_)
  · have hf := ip_el hc3 hf
    refine lv_iload_n hx hb dX6_takes_20 rfl (lv_at hl 0 rfl) ?_
    obtain ⟨hbl, hf⟩ := bl_el hf
    have he := Option.some.inj hf
    obtain ⟨e0, e1⟩ := Prod.mk.inj he
    exact hrz _ _ _ .boolean rfl (bl_nar hbl) (congrArg (fun z => some (Value.int z)) e0.symm) dX6_takes_21 _ _ _ (by rw [e1]) hP hD hS
  · have hf := in_el hc3 hf
    refine lv_aload_n hx hb dX6_takes_10 rfl (lv_at hl 1 rfl) ?_
    refine lv_dup hx hb dX6_takes_11 rfl ?_
    refine va_get (D := D) (ci := 6) (v := .int (Ta 0 3)) (C := RX6) (T := TX6) (N := 5) hx hb hu inX6 hown hK.1 hP 0 rfl rfl 3 (by decide) (hu _ q264) (fun _ h9 => h9) rfl dX6_takes_12 ?_
    refine lv_iconst (v := 1) hx hb dX6_takes_15 (by decide) ?_
    refine lv_iadd hx hb dX6_takes_16 ?_
    obtain ⟨Ta_4, hTa_4, hf⟩ := lt_el hf
    refine va_put (D := D) (ci := 6) (v := .int ((Ta 0 3) + 1)) (ty := .int) (C := RX6) (T := TX6) (N := 5) hx hb hu inX6 tyX6 tyX6_ok nmX6 hown hK.1 hP hD hS 0 rfl rfl 3 (by decide) (hu _ q264) (fun _ h9 => h9) rfl (by decide +kernel) rfl rfl (Nat.le_of_ble_eq_true rfl) dX6_takes_17 (fun H locs hP hD hS => ?_)
    have hP : va_P D vwCl (kX6 cs ata (.ref (adr 0)) Ta_4) H := by rw [hTa_4]; exact hP
    have hD : va_D A (kX6 cs ata (.ref (adr 0)) Ta_4) := by rw [hTa_4]; exact hD
    refine lv_iload_n hx hb dX6_takes_20 rfl (lv_at hl 0 rfl) ?_
    obtain ⟨hbl, hf⟩ := bl_el hf
    have he := Option.some.inj hf
    obtain ⟨e0, e1⟩ := Prod.mk.inj he
    exact hrz _ _ _ .boolean rfl (bl_nar hbl) (congrArg (fun z => some (Value.int z)) e0.symm) dX6_takes_21 _ _ _ (by rw [e1]) hP hD hS

def fX6_seesDigit (Ta : ST) : Option Int32 :=
  (if (Ta 0 4) = 0 then (if (Ta 0 2) ≤ (Ta 0 3) then some 0 else dc_ck (Ta 0 3) 80 ((if (Ta 1 (Int32.toNatClampNeg (Ta 0 3))) < 48 then some 0 else dc_ck (Ta 0 3) 80 ((if 57 < (Ta 1 (Int32.toNatClampNeg (Ta 0 3))) then some 0 else some 1))))) else some 0)
abbrev rmX6_seesDigit : Room := { frames := 0, cells := 0, slots := 0, locals := 0 }
set_option maxRecDepth 100000 in
set_option maxHeartbeats 4000000 in
theorem tX6_seesDigit (l : Launch) (D : va_G) (cs : Nat → ClassId) (ata : Nat → Nat) (adr : Nat → Nat) (Ta : ST) (r0 : Int32) (hf : fX6_seesDigit Ta = some r0) : CG l yX6_seesDigit (wsm yX6_seesDigit cX6_seesDigit 1 (some .boolean)) rmX6_seesDigit D cs [.ref (ata 0)] (some (.int r0)) (kX6 cs ata (.ref (adr 0)) Ta) (kX6 cs ata (.ref (adr 0)) Ta) := by
  refine CG.intro (by decide) (Nat.le_of_ble_eq_true rfl) ?_
  intro p e s m below meth c A Q hx hb hml hown hu hK hZ hP0 hD0 hS0 hA hri hrz hrl hrv hra ls0 hl0
  have hl : lv_has ls0 1 [(0, .ref (ata 0))] := hl0
  have hP := hP0
  have hD := hD0
  have hS := hS0
  unfold fX6_seesDigit at hf
  refine lv_aload_n hx hb dX6_seesDigit_0 rfl (lv_at hl 0 rfl) ?_
  refine va_get (D := D) (ci := 6) (v := .int (Ta 0 4)) (C := RX6) (T := TX6) (N := 5) hx hb hu inX6 hown hK.1 hP 0 rfl rfl 4 (by decide) (hu _ q266) (fun _ h9 => h9) rfl dX6_seesDigit_1 ?_
  refine lv_if_ne (tgt := 50) hx hb dX6_seesDigit_4 (by decide) (fun hc1 => ?_) (fun hc1 => ?_)
  · have hf := in_el hc1 hf
    refine lv_iconst (v := 0) hx hb dX6_seesDigit_50 (by decide) ?_
    have he := Option.some.inj hf
    have e0 := he
    exact hrz _ _ _ .boolean rfl rfl (congrArg (fun z => some (Value.int z)) e0.symm) dX6_seesDigit_51 _ _ _ rfl hP hD hS
  · have hf := ip_el hc1 hf
    refine lv_aload_n hx hb dX6_seesDigit_7 rfl (lv_at hl 0 rfl) ?_
    refine va_get (D := D) (ci := 6) (v := .int (Ta 0 3)) (C := RX6) (T := TX6) (N := 5) hx hb hu inX6 hown hK.1 hP 0 rfl rfl 3 (by decide) (hu _ q264) (fun _ h9 => h9) rfl dX6_seesDigit_8 ?_
    refine lv_aload_n hx hb dX6_seesDigit_11 rfl (lv_at hl 0 rfl) ?_
    refine va_get (D := D) (ci := 6) (v := .int (Ta 0 2)) (C := RX6) (T := TX6) (N := 5) hx hb hu inX6 hown hK.1 hP 0 rfl rfl 2 (by decide) (hu _ q262) (fun _ h9 => h9) rfl dX6_seesDigit_12 ?_
    refine lv_icmp_ge (tgt := 50) hx hb dX6_seesDigit_15 (by decide) (fun hc2 => ?_) (fun hc2 => ?_)
    · have hf := ip_el hc2 hf
      refine lv_iconst (v := 0) hx hb dX6_seesDigit_50 (by decide) ?_
      have he := Option.some.inj hf
      have e0 := he
      exact hrz _ _ _ .boolean rfl rfl (congrArg (fun z => some (Value.int z)) e0.symm) dX6_seesDigit_51 _ _ _ rfl hP hD hS
    · have hf := in_el hc2 hf
      refine lv_aload_n hx hb dX6_seesDigit_18 rfl (lv_at hl 0 rfl) ?_
      refine va_get (D := D) (ci := 6) (v := .ref (ata 1)) (C := RX6) (T := TX6) (N := 5) hx hb hu inX6 hown hK.1 hP 0 rfl rfl 0 (by decide) (hu _ q259) (fun _ h9 => h9) rfl dX6_seesDigit_19 ?_
      refine lv_aload_n hx hb dX6_seesDigit_22 rfl (lv_at hl 0 rfl) ?_
      refine va_get (D := D) (ci := 6) (v := .int (Ta 0 3)) (C := RX6) (T := TX6) (N := 5) hx hb hu inX6 hown hK.1 hP 0 rfl rfl 3 (by decide) (hu _ q264) (fun _ h9 => h9) rfl dX6_seesDigit_23 ?_
      obtain ⟨hi3, hf⟩ := ck_el hf
      refine va_cald hx hb hK.1 hP 1 2 rfl rfl hi3 dX6_seesDigit_26 ?_
      refine lv_bipush (v := 48) hx hb dX6_seesDigit_27 (by decide) ?_
      refine lv_icmp_lt (tgt := 50) hx hb dX6_seesDigit_29 (by decide) (fun hc4 => ?_) (fun hc4 => ?_)
      · have hf := ip_el hc4 hf
        refine lv_iconst (v := 0) hx hb dX6_seesDigit_50 (by decide) ?_
        have he := Option.some.inj hf
        have e0 := he
        exact hrz _ _ _ .boolean rfl rfl (congrArg (fun z => some (Value.int z)) e0.symm) dX6_seesDigit_51 _ _ _ rfl hP hD hS
      · have hf := in_el hc4 hf
        refine lv_aload_n hx hb dX6_seesDigit_32 rfl (lv_at hl 0 rfl) ?_
        refine va_get (D := D) (ci := 6) (v := .ref (ata 1)) (C := RX6) (T := TX6) (N := 5) hx hb hu inX6 hown hK.1 hP 0 rfl rfl 0 (by decide) (hu _ q259) (fun _ h9 => h9) rfl dX6_seesDigit_33 ?_
        refine lv_aload_n hx hb dX6_seesDigit_36 rfl (lv_at hl 0 rfl) ?_
        refine va_get (D := D) (ci := 6) (v := .int (Ta 0 3)) (C := RX6) (T := TX6) (N := 5) hx hb hu inX6 hown hK.1 hP 0 rfl rfl 3 (by decide) (hu _ q264) (fun _ h9 => h9) rfl dX6_seesDigit_37 ?_
        obtain ⟨hi5, hf⟩ := ck_el hf
        refine va_cald hx hb hK.1 hP 1 2 rfl rfl hi5 dX6_seesDigit_40 ?_
        refine lv_bipush (v := 57) hx hb dX6_seesDigit_41 (by decide) ?_
        refine lv_icmp_gt (tgt := 50) hx hb dX6_seesDigit_43 (by decide) (fun hc6 => ?_) (fun hc6 => ?_)
        · have hf := ip_el hc6 hf
          refine lv_iconst (v := 0) hx hb dX6_seesDigit_50 (by decide) ?_
          have he := Option.some.inj hf
          have e0 := he
          exact hrz _ _ _ .boolean rfl rfl (congrArg (fun z => some (Value.int z)) e0.symm) dX6_seesDigit_51 _ _ _ rfl hP hD hS
        · have hf := in_el hc6 hf
          refine lv_iconst (v := 1) hx hb dX6_seesDigit_46 (by decide) ?_
          refine lv_goto (tgt := 51) hx hb dX6_seesDigit_47 (by decide) ?_
          have he := Option.some.inj hf
          have e0 := he
          exact hrz _ _ _ .boolean rfl rfl (congrArg (fun z => some (Value.int z)) e0.symm) dX6_seesDigit_51 _ _ _ rfl hP hD hS

def fX6_readNumber_50 (y1 : Int32) (Ta : ST) (Dr : ST) : Option (ST × ST) :=
  dc_b1 (fX3_putNumber y1 Dr) (fun Dr_2 => some (Ta, Dr_2))
def fX6_readNumber_4_s (k4 : Int32 → Int32 → ST → ST → Option (ST × ST)) (y1 : Int32) (y2 : Int32) (Ta : ST) (Dr : ST) : Option (ST × ST) :=
  (if 4 ≤ y2 then fX6_readNumber_50 y1 Ta Dr else dc_b1 (fX6_seesDigit Ta) (fun r4 => (if r4 = 0 then fX6_readNumber_50 y1 Ta Dr else dc_ck (Ta 0 3) 80 (dc_lt ((y1 * 10) + ((Ta 1 (Int32.toNatClampNeg (Ta 0 3))) - 48)) (fun v8 => dc_lt (sti Ta 0 3 ((Ta 0 3) + 1)) (fun Ta_9 => dc_lt (y2 + 1) (fun v10 => k4 v8 v10 Ta_9 Dr)))))))
def fX6_readNumber_4 : Nat → Int32 → Int32 → ST → ST → Option (ST × ST)
  | 0 => fun _ _ _ _ => none
  | n + 1 => fX6_readNumber_4_s (fX6_readNumber_4 n)
def fX6_readNumber (Ta : ST) (Dr : ST) : Option (ST × ST) :=
  fX6_readNumber_4 400 0 0 Ta Dr
abbrev rmX6_readNumber : Room := { frames := 1, cells := 0, slots := 0, locals := 21 }
set_option maxRecDepth 100000 in
set_option maxHeartbeats 4000000 in
theorem tX6_readNumber (l : Launch) (D : va_G) (cs : Nat → ClassId) (ata : Nat → Nat) (adr : Nat → Nat) (Ta : ST) (Dr : ST) (Taz : ST) (Drz : ST) (hf : fX6_readNumber Ta Dr = some (Taz, Drz)) : CG l yX6_readNumber (wsm yX6_readNumber cX6_readNumber 3 none) rmX6_readNumber D cs [.ref (ata 0)] none ((kX6 cs ata (.ref (adr 0)) Ta) ++ ((kX3 cs adr  Dr))) ((kX6 cs ata (.ref (adr 0)) Taz) ++ ((kX3 cs adr  Drz))) := by
  refine CG.intro (by decide) (Nat.le_of_ble_eq_true rfl) ?_
  intro p e s m below meth c A Q hx hb hml hown hu hK hZ hP0 hD0 hS0 hA hri hrz hrl hrv hra ls0 hl0
  have h50 : ∀ (y1 : Int32) (Ta : ST) (Dr : ST) (H : Heap) (locs : List Loc) (ls : Array Slot), va_P D vwCl ((kX6 cs ata (.ref (adr 0)) Ta) ++ ((kX3 cs adr  Dr))) H → va_D A ((kX6 cs ata (.ref (adr 0)) Ta) ++ ((kX3 cs adr  Dr))) → va_S A s.heap H locs → lv_has ls 3 [(0, .ref (ata 0)), (1, .int y1)] → fX6_readNumber_50 y1 Ta Dr = some (Taz, Drz) → W p l e rmX6_readNumber s m [.ref (ata 0)].toArray below meth c H locs 0 0 Q (F0 m 50 ls []) := by
    intro y1 Ta Dr H locs ls hP hD hS hl hf
    unfold fX6_readNumber_50 at hf
    refine lv_aload_n hx hb dX6_readNumber_50 rfl (lv_at hl 0 rfl) ?_
    refine va_get (D := D) (ci := 6) (v := .ref (adr 0)) (C := RX6) (T := TX6) (N := 5) hx hb hu inX6 hown hK.1 hP 0 rfl rfl 1 (by decide) (hu _ q260) (fun _ h9 => h9) rfl dX6_readNumber_51 ?_
    refine lv_iload_n hx hb dX6_readNumber_54 rfl (lv_at hl 1 rfl) ?_
    obtain ⟨Dr_2, hg3, hf⟩ := b1_el hf
    refine cc_V (w' := ((kX6 cs ata (.ref (adr 0)) Ta) ++ ((kX3 cs adr  Dr_2)))) (wr := (kX6 cs ata (.ref (adr 0)) Ta)) (st1 := []) [.int y1] hx hb hml hown hu (tX3_putNumber l D cs adr y1 Dr Dr_2 hg3) q725 q57 q722 q723 q724 pdX3_putNumber ⟨rfl, rfl, Nat.le_of_ble_eq_true rfl, Nat.le_of_ble_eq_true rfl⟩ hK hZ hP hD hS hA [2, 3, 4] [0, 1] [0, 1, 2, 3, 4] rfl rfl rfl rfl rfl rfl rfl rfl rfl rfl hl.1 rfl (Nat.le_of_ble_eq_true rfl) dX6_readNumber_55 rfl (fun H locs hP hD hS => ?_)
    have he := Option.some.inj hf
    obtain ⟨e0, e1⟩ := Prod.mk.inj he
    exact hrv _ _ rfl rfl dX6_readNumber_58 _ _ _ (by rw [e0, e1]) hP hD hS
  have hs4 : ∀ (k4 : Int32 → Int32 → ST → ST → Option (ST × ST)), (∀ (y1 : Int32) (y2 : Int32) (Ta : ST) (Dr : ST) (H : Heap) (locs : List Loc) (ls : Array Slot), va_P D vwCl ((kX6 cs ata (.ref (adr 0)) Ta) ++ ((kX3 cs adr  Dr))) H → va_D A ((kX6 cs ata (.ref (adr 0)) Ta) ++ ((kX3 cs adr  Dr))) → va_S A s.heap H locs → lv_has ls 3 [(0, .ref (ata 0)), (1, .int y1), (2, .int y2)] → k4 y1 y2 Ta Dr = some (Taz, Drz) → W p l e rmX6_readNumber s m [.ref (ata 0)].toArray below meth c H locs 0 0 Q (F0 m 4 ls [])) → ∀ (y1 : Int32) (y2 : Int32) (Ta : ST) (Dr : ST) (H : Heap) (locs : List Loc) (ls : Array Slot), va_P D vwCl ((kX6 cs ata (.ref (adr 0)) Ta) ++ ((kX3 cs adr  Dr))) H → va_D A ((kX6 cs ata (.ref (adr 0)) Ta) ++ ((kX3 cs adr  Dr))) → va_S A s.heap H locs → lv_has ls 3 [(0, .ref (ata 0)), (1, .int y1), (2, .int y2)] → fX6_readNumber_4_s k4 y1 y2 Ta Dr = some (Taz, Drz) → W p l e rmX6_readNumber s m [.ref (ata 0)].toArray below meth c H locs 0 0 Q (F0 m 4 ls []) := by
    intro k4 hk4 y1 y2 Ta Dr H locs ls hP hD hS hl hf
    unfold fX6_readNumber_4_s at hf
    refine lv_iload_n hx hb dX6_readNumber_4 rfl (lv_at hl 2 rfl) ?_
    refine lv_iconst (v := 4) hx hb dX6_readNumber_5 (by decide) ?_
    refine lv_icmp_ge (tgt := 50) hx hb dX6_readNumber_6 (by decide) (fun hc1 => ?_) (fun hc1 => ?_)
    · have hf := ip_el hc1 hf
      exact h50 y1 Ta Dr _ _ _ hP hD hS (lv_sub hl [0, 1] rfl) hf
    · have hf := in_el hc1 hf
      refine lv_aload_n hx hb dX6_readNumber_9 rfl (lv_at hl 0 rfl) ?_
      obtain ⟨r4, hg5, hf⟩ := b1_el hf
      refine cc_V (w' := ((kX6 cs ata (.ref (adr 0)) Ta) ++ ((kX3 cs adr  Dr)))) (wr := (kX3 cs adr  Dr)) (st1 := [.int r4]) [] hx hb hml hown hu (tX6_seesDigit l D cs ata adr Ta r4 hg5) q717 q60 q714 q716 q15 pdX6_seesDigit ⟨rfl, rfl, Nat.le_of_ble_eq_true rfl, Nat.le_of_ble_eq_true rfl⟩ hK hZ hP hD hS hA [0, 1] [2, 3, 4] [3, 4, 0, 1, 2] rfl rfl rfl rfl rfl rfl rfl rfl rfl rfl hl.1 rfl (Nat.le_of_ble_eq_true rfl) dX6_readNumber_10 rfl (fun H locs hP hD hS => ?_)
      refine lv_if_eq (tgt := 50) hx hb dX6_readNumber_13 (by decide) (fun hc6 => ?_) (fun hc6 => ?_)
      · have hf := ip_el hc6 hf
        exact h50 y1 Ta Dr _ _ _ hP hD hS (lv_sub hl [0, 1] rfl) hf
      · have hf := in_el hc6 hf
        refine lv_iload_n hx hb dX6_readNumber_16 rfl (lv_at hl 1 rfl) ?_
        refine lv_bipush (v := 10) hx hb dX6_readNumber_17 (by decide) ?_
        refine lv_imul hx hb dX6_readNumber_19 ?_
        refine lv_aload_n hx hb dX6_readNumber_20 rfl (lv_at hl 0 rfl) ?_
        refine va_get (D := D) (ci := 6) (v := .ref (ata 1)) (C := RX6) (T := TX6) (N := 5) hx hb hu inX6 hown hK.1 hP 0 rfl rfl 0 (by decide) (hu _ q259) (fun _ h9 => h9) rfl dX6_readNumber_21 ?_
        refine lv_aload_n hx hb dX6_readNumber_24 rfl (lv_at hl 0 rfl) ?_
        refine va_get (D := D) (ci := 6) (v := .int (Ta 0 3)) (C := RX6) (T := TX6) (N := 5) hx hb hu inX6 hown hK.1 hP 0 rfl rfl 3 (by decide) (hu _ q264) (fun _ h9 => h9) rfl dX6_readNumber_25 ?_
        obtain ⟨hi7, hf⟩ := ck_el hf
        refine va_cald hx hb hK.1 hP 1 2 rfl rfl hi7 dX6_readNumber_28 ?_
        refine lv_bipush (v := 48) hx hb dX6_readNumber_29 (by decide) ?_
        refine lv_isub hx hb dX6_readNumber_31 ?_
        refine lv_iadd hx hb dX6_readNumber_32 ?_
        obtain ⟨v8, hv8, hf⟩ := lt_el hf
        refine lv_tope hv8 ?_
        refine lv_istore_n (lv' := [(1, .int v8), (0, .ref (ata 0)), (2, .int y2)]) hx hb dX6_readNumber_33 rfl hl (by decide) rfl (fun ls hl => ?_)
        refine lv_aload_n hx hb dX6_readNumber_34 rfl (lv_at hl 1 rfl) ?_
        refine lv_dup hx hb dX6_readNumber_35 rfl ?_
        refine va_get (D := D) (ci := 6) (v := .int (Ta 0 3)) (C := RX6) (T := TX6) (N := 5) hx hb hu inX6 hown hK.1 hP 0 rfl rfl 3 (by decide) (hu _ q264) (fun _ h9 => h9) rfl dX6_readNumber_36 ?_
        refine lv_iconst (v := 1) hx hb dX6_readNumber_39 (by decide) ?_
        refine lv_iadd hx hb dX6_readNumber_40 ?_
        obtain ⟨Ta_9, hTa_9, hf⟩ := lt_el hf
        refine va_put (D := D) (ci := 6) (v := .int ((Ta 0 3) + 1)) (ty := .int) (C := RX6) (T := TX6) (N := 5) hx hb hu inX6 tyX6 tyX6_ok nmX6 hown hK.1 hP hD hS 0 rfl rfl 3 (by decide) (hu _ q264) (fun _ h9 => h9) rfl (by decide +kernel) rfl rfl (Nat.le_of_ble_eq_true rfl) dX6_readNumber_41 (fun H locs hP hD hS => ?_)
        have hP : va_P D vwCl ((kX6 cs ata (.ref (adr 0)) Ta_9) ++ ((kX3 cs adr  Dr))) H := by rw [hTa_9]; exact hP
        have hD : va_D A ((kX6 cs ata (.ref (adr 0)) Ta_9) ++ ((kX3 cs adr  Dr))) := by rw [hTa_9]; exact hD
        obtain ⟨v10, hv10, hf⟩ := lt_el hf
        refine lv_iinc (v := v10) (lv' := [(2, .int v10), (1, .int v8), (0, .ref (ata 0))]) hx hb dX6_readNumber_44 hl (k := 2) rfl (by rw [hv10]; rfl) (by decide) rfl (fun ls hl => ?_)
        refine lv_goto (tgt := 4) hx hb dX6_readNumber_47 (by decide) ?_
        exact hk4 v8 v10 Ta_9 Dr _ _ _ hP hD hS (lv_sub hl [2, 1, 0] rfl) hf
  have h4 : ∀ (n : Nat), ∀ (y1 : Int32) (y2 : Int32) (Ta : ST) (Dr : ST) (H : Heap) (locs : List Loc) (ls : Array Slot), va_P D vwCl ((kX6 cs ata (.ref (adr 0)) Ta) ++ ((kX3 cs adr  Dr))) H → va_D A ((kX6 cs ata (.ref (adr 0)) Ta) ++ ((kX3 cs adr  Dr))) → va_S A s.heap H locs → lv_has ls 3 [(0, .ref (ata 0)), (1, .int y1), (2, .int y2)] → fX6_readNumber_4 n y1 y2 Ta Dr = some (Taz, Drz) → W p l e rmX6_readNumber s m [.ref (ata 0)].toArray below meth c H locs 0 0 Q (F0 m 4 ls []) := by
    intro n
    induction n with
    | zero => intro y1 y2 Ta Dr H locs ls hP hD hS hl hf; exact no_el hf
    | succ n ih => intro y1 y2 Ta Dr H locs ls hP hD hS hl hf; exact hs4 _ ih y1 y2 Ta Dr _ _ _ hP hD hS hl hf
  have hl : lv_has ls0 3 [(0, .ref (ata 0))] := hl0
  have hP := hP0
  have hD := hD0
  have hS := hS0
  unfold fX6_readNumber at hf
  refine lv_iconst (v := 0) hx hb dX6_readNumber_0 (by decide) ?_
  refine lv_istore_n (lv' := [(1, .int 0), (0, .ref (ata 0))]) hx hb dX6_readNumber_1 rfl hl (by decide) rfl (fun ls hl => ?_)
  refine lv_iconst (v := 0) hx hb dX6_readNumber_2 (by decide) ?_
  refine lv_istore_n (lv' := [(2, .int 0), (1, .int 0), (0, .ref (ata 0))]) hx hb dX6_readNumber_3 rfl hl (by decide) rfl (fun ls hl => ?_)
  exact h4 400 0 0 Ta Dr _ _ _ hP hD hS (lv_sub hl [2, 1, 0] rfl) hf

def fX6_readQ_5_144 (y1 : Int32) (Ta : ST) (Dr : ST) : Option (ST × ST) :=
  (if 5 ≤ y1 then dc_lt (sti Ta 0 4 1) (fun Ta_8 => some (Ta_8, Dr)) else dc_b2 (fX6_takes 40 Ta) (fun r9 Ta_10 => (if r9 = 0 then dc_lt (sti Ta_10 0 4 1) (fun Ta_13 => some (Ta_13, Dr)) else none)))
def fX6_readQ_5_111 (y1 : Int32) (Ta : ST) (Dr : ST) : Option (ST × ST) :=
  (if 5 ≤ y1 then fX6_readQ_5_144 y1 Ta Dr else dc_b2 (fX6_takes 45 Ta) (fun r14 Ta_15 => (if r14 = 0 then fX6_readQ_5_144 y1 Ta_15 Dr else none)))
def fX6_readQ_5_78 (y1 : Int32) (Ta : ST) (Dr : ST) : Option (ST × ST) :=
  (if 5 ≤ y1 then fX6_readQ_5_111 y1 Ta Dr else dc_b2 (fX6_takes 33 Ta) (fun r18 Ta_19 => (if r18 = 0 then fX6_readQ_5_111 y1 Ta_19 Dr else none)))
def fX6_readQ_5 (x1 : Int32) (Ta : ST) (Dr : ST) : Option (ST × ST) :=
  dc_b1 (fX6_seesDigit Ta) (fun r1 => (if r1 = 0 then (if (Ta 0 4) = 0 then (if (Ta 0 2) ≤ (Ta 0 3) then fX6_readQ_5_78 x1 Ta Dr else dc_ck (Ta 0 3) 80 (dc_b1 (fJ0_indexOf_0f7a4 (Ta 1 (Int32.toNatClampNeg (Ta 0 3)))) (fun r24 => (if r24 < 0 then fX6_readQ_5_78 x1 Ta Dr else dc_ck (Ta 0 3) 80 (dc_b1 (fX3_putSign (Ta 1 (Int32.toNatClampNeg (Ta 0 3))) Dr) (fun Dr_28 => dc_lt (sti Ta 0 3 ((Ta 0 3) + 1)) (fun Ta_30 => some (Ta_30, Dr_28)))))))) else fX6_readQ_5_78 x1 Ta Dr) else dc_b2 (fX6_readNumber Ta Dr) (fun Ta_31 Dr_32 => some (Ta_31, Dr_32))))
abbrev rmX6_readQ_5 : Room := { frames := 4, cells := 0, slots := 0, locals := 106 }
set_option maxRecDepth 100000 in
set_option maxHeartbeats 4000000 in
theorem tX6_readQ_5 (l : Launch) (D : va_G) (cs : Nat → ClassId) (ata : Nat → Nat) (adr : Nat → Nat) (x1 : Int32) (Ta : ST) (Dr : ST) (Taz : ST) (Drz : ST) (hf : fX6_readQ_5 x1 Ta Dr = some (Taz, Drz)) : CG l yX6_readQ (wsm yX6_readQ cX6_readQ 2 none) rmX6_readQ_5 D cs [.ref (ata 0), .int x1] none ((kX6 cs ata (.ref (adr 0)) Ta) ++ ((kX3 cs adr  Dr))) ((kX6 cs ata (.ref (adr 0)) Taz) ++ ((kX3 cs adr  Drz))) := by
  refine CG.intro (by decide) (Nat.le_of_ble_eq_true rfl) ?_
  intro p e s m below meth c A Q hx hb hml hown hu hK hZ hP0 hD0 hS0 hA hri hrz hrl hrv hra ls0 hl0
  have h144 : ∀ (y1 : Int32) (Ta : ST) (Dr : ST) (H : Heap) (locs : List Loc) (ls : Array Slot), va_P D vwCl ((kX6 cs ata (.ref (adr 0)) Ta) ++ ((kX3 cs adr  Dr))) H → va_D A ((kX6 cs ata (.ref (adr 0)) Ta) ++ ((kX3 cs adr  Dr))) → va_S A s.heap H locs → lv_has ls 2 [(0, .ref (ata 0)), (1, .int y1)] → fX6_readQ_5_144 y1 Ta Dr = some (Taz, Drz) → W p l e rmX6_readQ_5 s m [.ref (ata 0), .int x1].toArray below meth c H locs 0 0 Q (F0 m 144 ls []) := by
    intro y1 Ta Dr H locs ls hP hD hS hl hf
    unfold fX6_readQ_5_144 at hf
    refine lv_iload_n hx hb dX6_readQ_144 rfl (lv_at hl 1 rfl) ?_
    refine lv_iconst (v := 5) hx hb dX6_readQ_145 (by decide) ?_
    refine lv_icmp_ge (tgt := 182) hx hb dX6_readQ_146 (by decide) (fun hc7 => ?_) (fun hc7 => ?_)
    · have hf := ip_el hc7 hf
      refine lv_aload_n hx hb dX6_readQ_182 rfl (lv_at hl 0 rfl) ?_
      refine lv_iconst (v := 1) hx hb dX6_readQ_183 (by decide) ?_
      obtain ⟨Ta_8, hTa_8, hf⟩ := lt_el hf
      refine va_put (D := D) (ci := 6) (v := .int 1) (ty := .boolean) (C := RX6) (T := TX6) (N := 5) hx hb hu inX6 tyX6 tyX6_ok nmX6 hown hK.1 hP hD hS 0 rfl rfl 4 (by decide) (hu _ q266) (fun _ h9 => h9) rfl (by decide +kernel) rfl rfl (Nat.le_of_ble_eq_true rfl) dX6_readQ_184 (fun H locs hP hD hS => ?_)
      have hP : va_P D vwCl ((kX6 cs ata (.ref (adr 0)) Ta_8) ++ ((kX3 cs adr  Dr))) H := by rw [hTa_8]; exact hP
      have hD : va_D A ((kX6 cs ata (.ref (adr 0)) Ta_8) ++ ((kX3 cs adr  Dr))) := by rw [hTa_8]; exact hD
      have he := Option.some.inj hf
      obtain ⟨e0, e1⟩ := Prod.mk.inj he
      exact hrv _ _ rfl rfl dX6_readQ_187 _ _ _ (by rw [e0, e1]) hP hD hS
    · have hf := in_el hc7 hf
      refine lv_aload_n hx hb dX6_readQ_149 rfl (lv_at hl 0 rfl) ?_
      refine lv_bipush (v := 40) hx hb dX6_readQ_150 (by decide) ?_
      obtain ⟨r9, Ta_10, hg11, hf⟩ := b2_el hf
      refine cc_V (w' := ((kX6 cs ata (.ref (adr 0)) Ta_10) ++ ((kX3 cs adr  Dr)))) (wr := (kX3 cs adr  Dr)) (st1 := [.int r9]) [.int 40] hx hb hml hown hu (tX6_takes l D cs ata adr 40 Ta r9 Ta_10 hg11) q821 q60 q818 q820 q17 pdX6_takes ⟨rfl, rfl, Nat.le_of_ble_eq_true rfl, Nat.le_of_ble_eq_true rfl⟩ hK hZ hP hD hS hA [0, 1] [2, 3, 4] [3, 4, 0, 1, 2] rfl rfl rfl rfl rfl rfl rfl rfl rfl rfl hl.1 rfl (Nat.le_of_ble_eq_true rfl) dX6_readQ_152 rfl (fun H locs hP hD hS => ?_)
      refine lv_if_eq (tgt := 182) hx hb dX6_readQ_155 (by decide) (fun hc12 => ?_) (fun hc12 => ?_)
      · have hf := ip_el hc12 hf
        refine lv_aload_n hx hb dX6_readQ_182 rfl (lv_at hl 0 rfl) ?_
        refine lv_iconst (v := 1) hx hb dX6_readQ_183 (by decide) ?_
        obtain ⟨Ta_13, hTa_13, hf⟩ := lt_el hf
        refine va_put (D := D) (ci := 6) (v := .int 1) (ty := .boolean) (C := RX6) (T := TX6) (N := 5) hx hb hu inX6 tyX6 tyX6_ok nmX6 hown hK.1 hP hD hS 0 rfl rfl 4 (by decide) (hu _ q266) (fun _ h9 => h9) rfl (by decide +kernel) rfl rfl (Nat.le_of_ble_eq_true rfl) dX6_readQ_184 (fun H locs hP hD hS => ?_)
        have hP : va_P D vwCl ((kX6 cs ata (.ref (adr 0)) Ta_13) ++ ((kX3 cs adr  Dr))) H := by rw [hTa_13]; exact hP
        have hD : va_D A ((kX6 cs ata (.ref (adr 0)) Ta_13) ++ ((kX3 cs adr  Dr))) := by rw [hTa_13]; exact hD
        have he := Option.some.inj hf
        obtain ⟨e0, e1⟩ := Prod.mk.inj he
        exact hrv _ _ rfl rfl dX6_readQ_187 _ _ _ (by rw [e0, e1]) hP hD hS
      · have hf := in_el hc12 hf
        refine lv_aload_n hx hb dX6_readQ_158 rfl (lv_at hl 0 rfl) ?_
        refine lv_iload_n hx hb dX6_readQ_159 rfl (lv_at hl 1 rfl) ?_
        refine lv_iconst (v := 1) hx hb dX6_readQ_160 (by decide) ?_
        refine lv_iadd hx hb dX6_readQ_161 ?_
        exact no_el hf
  have h111 : ∀ (y1 : Int32) (Ta : ST) (Dr : ST) (H : Heap) (locs : List Loc) (ls : Array Slot), va_P D vwCl ((kX6 cs ata (.ref (adr 0)) Ta) ++ ((kX3 cs adr  Dr))) H → va_D A ((kX6 cs ata (.ref (adr 0)) Ta) ++ ((kX3 cs adr  Dr))) → va_S A s.heap H locs → lv_has ls 2 [(0, .ref (ata 0)), (1, .int y1)] → fX6_readQ_5_111 y1 Ta Dr = some (Taz, Drz) → W p l e rmX6_readQ_5 s m [.ref (ata 0), .int x1].toArray below meth c H locs 0 0 Q (F0 m 111 ls []) := by
    intro y1 Ta Dr H locs ls hP hD hS hl hf
    unfold fX6_readQ_5_111 at hf
    refine lv_iload_n hx hb dX6_readQ_111 rfl (lv_at hl 1 rfl) ?_
    refine lv_iconst (v := 5) hx hb dX6_readQ_112 (by decide) ?_
    refine lv_icmp_ge (tgt := 144) hx hb dX6_readQ_113 (by decide) (fun hc6 => ?_) (fun hc6 => ?_)
    · have hf := ip_el hc6 hf
      exact h144 y1 Ta Dr _ _ _ hP hD hS (lv_sub hl [0, 1] rfl) hf
    · have hf := in_el hc6 hf
      refine lv_aload_n hx hb dX6_readQ_116 rfl (lv_at hl 0 rfl) ?_
      refine lv_bipush (v := 45) hx hb dX6_readQ_117 (by decide) ?_
      obtain ⟨r14, Ta_15, hg16, hf⟩ := b2_el hf
      refine cc_V (w' := ((kX6 cs ata (.ref (adr 0)) Ta_15) ++ ((kX3 cs adr  Dr)))) (wr := (kX3 cs adr  Dr)) (st1 := [.int r14]) [.int 45] hx hb hml hown hu (tX6_takes l D cs ata adr 45 Ta r14 Ta_15 hg16) q821 q60 q818 q820 q17 pdX6_takes ⟨rfl, rfl, Nat.le_of_ble_eq_true rfl, Nat.le_of_ble_eq_true rfl⟩ hK hZ hP hD hS hA [0, 1] [2, 3, 4] [3, 4, 0, 1, 2] rfl rfl rfl rfl rfl rfl rfl rfl rfl rfl hl.1 rfl (Nat.le_of_ble_eq_true rfl) dX6_readQ_119 rfl (fun H locs hP hD hS => ?_)
      refine lv_if_eq (tgt := 144) hx hb dX6_readQ_122 (by decide) (fun hc17 => ?_) (fun hc17 => ?_)
      · have hf := ip_el hc17 hf
        exact h144 y1 Ta_15 Dr _ _ _ hP hD hS (lv_sub hl [0, 1] rfl) hf
      · have hf := in_el hc17 hf
        refine lv_aload_n hx hb dX6_readQ_125 rfl (lv_at hl 0 rfl) ?_
        refine lv_iload_n hx hb dX6_readQ_126 rfl (lv_at hl 1 rfl) ?_
        refine lv_iconst (v := 1) hx hb dX6_readQ_127 (by decide) ?_
        refine lv_iadd hx hb dX6_readQ_128 ?_
        exact no_el hf
  have h78 : ∀ (y1 : Int32) (Ta : ST) (Dr : ST) (H : Heap) (locs : List Loc) (ls : Array Slot), va_P D vwCl ((kX6 cs ata (.ref (adr 0)) Ta) ++ ((kX3 cs adr  Dr))) H → va_D A ((kX6 cs ata (.ref (adr 0)) Ta) ++ ((kX3 cs adr  Dr))) → va_S A s.heap H locs → lv_has ls 2 [(0, .ref (ata 0)), (1, .int y1)] → fX6_readQ_5_78 y1 Ta Dr = some (Taz, Drz) → W p l e rmX6_readQ_5 s m [.ref (ata 0), .int x1].toArray below meth c H locs 0 0 Q (F0 m 78 ls []) := by
    intro y1 Ta Dr H locs ls hP hD hS hl hf
    unfold fX6_readQ_5_78 at hf
    refine lv_iload_n hx hb dX6_readQ_78 rfl (lv_at hl 1 rfl) ?_
    refine lv_iconst (v := 5) hx hb dX6_readQ_79 (by decide) ?_
    refine lv_icmp_ge (tgt := 111) hx hb dX6_readQ_80 (by decide) (fun hc5 => ?_) (fun hc5 => ?_)
    · have hf := ip_el hc5 hf
      exact h111 y1 Ta Dr _ _ _ hP hD hS (lv_sub hl [0, 1] rfl) hf
    · have hf := in_el hc5 hf
      refine lv_aload_n hx hb dX6_readQ_83 rfl (lv_at hl 0 rfl) ?_
      refine lv_bipush (v := 33) hx hb dX6_readQ_84 (by decide) ?_
      obtain ⟨r18, Ta_19, hg20, hf⟩ := b2_el hf
      refine cc_V (w' := ((kX6 cs ata (.ref (adr 0)) Ta_19) ++ ((kX3 cs adr  Dr)))) (wr := (kX3 cs adr  Dr)) (st1 := [.int r18]) [.int 33] hx hb hml hown hu (tX6_takes l D cs ata adr 33 Ta r18 Ta_19 hg20) q821 q60 q818 q820 q17 pdX6_takes ⟨rfl, rfl, Nat.le_of_ble_eq_true rfl, Nat.le_of_ble_eq_true rfl⟩ hK hZ hP hD hS hA [0, 1] [2, 3, 4] [3, 4, 0, 1, 2] rfl rfl rfl rfl rfl rfl rfl rfl rfl rfl hl.1 rfl (Nat.le_of_ble_eq_true rfl) dX6_readQ_86 rfl (fun H locs hP hD hS => ?_)
      refine lv_if_eq (tgt := 111) hx hb dX6_readQ_89 (by decide) (fun hc21 => ?_) (fun hc21 => ?_)
      · have hf := ip_el hc21 hf
        exact h111 y1 Ta_19 Dr _ _ _ hP hD hS (lv_sub hl [0, 1] rfl) hf
      · have hf := in_el hc21 hf
        refine lv_aload_n hx hb dX6_readQ_92 rfl (lv_at hl 0 rfl) ?_
        refine lv_iload_n hx hb dX6_readQ_93 rfl (lv_at hl 1 rfl) ?_
        refine lv_iconst (v := 1) hx hb dX6_readQ_94 (by decide) ?_
        refine lv_iadd hx hb dX6_readQ_95 ?_
        exact no_el hf
  have hl : lv_has ls0 2 [(0, .ref (ata 0)), (1, .int x1)] := hl0
  have hP := hP0
  have hD := hD0
  have hS := hS0
  unfold fX6_readQ_5 at hf
  refine lv_aload_n hx hb dX6_readQ_0 rfl (lv_at hl 0 rfl) ?_
  obtain ⟨r1, hg2, hf⟩ := b1_el hf
  refine cc_V (w' := ((kX6 cs ata (.ref (adr 0)) Ta) ++ ((kX3 cs adr  Dr)))) (wr := (kX3 cs adr  Dr)) (st1 := [.int r1]) [] hx hb hml hown hu (tX6_seesDigit l D cs ata adr Ta r1 hg2) q717 q60 q714 q716 q15 pdX6_seesDigit ⟨rfl, rfl, Nat.le_of_ble_eq_true rfl, Nat.le_of_ble_eq_true rfl⟩ hK hZ hP hD hS hA [0, 1] [2, 3, 4] [3, 4, 0, 1, 2] rfl rfl rfl rfl rfl rfl rfl rfl rfl rfl hl.1 rfl (Nat.le_of_ble_eq_true rfl) dX6_readQ_1 rfl (fun H locs hP hD hS => ?_)
  refine lv_if_eq (tgt := 14) hx hb dX6_readQ_4 (by decide) (fun hc3 => ?_) (fun hc3 => ?_)
  · have hf := ip_el hc3 hf
    refine lv_aload_n hx hb dX6_readQ_14 rfl (lv_at hl 0 rfl) ?_
    refine va_get (D := D) (ci := 6) (v := .int (Ta 0 4)) (C := RX6) (T := TX6) (N := 5) hx hb hu inX6 hown hK.1 hP 0 rfl rfl 4 (by decide) (hu _ q266) (fun _ h9 => h9) rfl dX6_readQ_15 ?_
    refine lv_if_ne (tgt := 78) hx hb dX6_readQ_18 (by decide) (fun hc4 => ?_) (fun hc4 => ?_)
    · have hf := in_el hc4 hf
      exact h78 x1 Ta Dr _ _ _ hP hD hS (lv_sub hl [0, 1] rfl) hf
    · have hf := ip_el hc4 hf
      refine lv_aload_n hx hb dX6_readQ_21 rfl (lv_at hl 0 rfl) ?_
      refine va_get (D := D) (ci := 6) (v := .int (Ta 0 3)) (C := RX6) (T := TX6) (N := 5) hx hb hu inX6 hown hK.1 hP 0 rfl rfl 3 (by decide) (hu _ q264) (fun _ h9 => h9) rfl dX6_readQ_22 ?_
      refine lv_aload_n hx hb dX6_readQ_25 rfl (lv_at hl 0 rfl) ?_
      refine va_get (D := D) (ci := 6) (v := .int (Ta 0 2)) (C := RX6) (T := TX6) (N := 5) hx hb hu inX6 hown hK.1 hP 0 rfl rfl 2 (by decide) (hu _ q262) (fun _ h9 => h9) rfl dX6_readQ_26 ?_
      refine lv_icmp_ge (tgt := 78) hx hb dX6_readQ_29 (by decide) (fun hc22 => ?_) (fun hc22 => ?_)
      · have hf := ip_el hc22 hf
        exact h78 x1 Ta Dr _ _ _ hP hD hS (lv_sub hl [0, 1] rfl) hf
      · have hf := in_el hc22 hf
        refine va_ldcS hx hb hown hZ.2.2.2.2.1 dX6_readQ_32 ?_
        refine lv_aload_n hx hb dX6_readQ_34 rfl (lv_at hl 0 rfl) ?_
        refine va_get (D := D) (ci := 6) (v := .ref (ata 1)) (C := RX6) (T := TX6) (N := 5) hx hb hu inX6 hown hK.1 hP 0 rfl rfl 0 (by decide) (hu _ q259) (fun _ h9 => h9) rfl dX6_readQ_35 ?_
        refine lv_aload_n hx hb dX6_readQ_38 rfl (lv_at hl 0 rfl) ?_
        refine va_get (D := D) (ci := 6) (v := .int (Ta 0 3)) (C := RX6) (T := TX6) (N := 5) hx hb hu inX6 hown hK.1 hP 0 rfl rfl 3 (by decide) (hu _ q264) (fun _ h9 => h9) rfl dX6_readQ_39 ?_
        obtain ⟨hi23, hf⟩ := ck_el hf
        refine va_cald hx hb hK.1 hP 1 2 rfl rfl hi23 dX6_readQ_42 ?_
        obtain ⟨r24, hg25, hf⟩ := b1_el hf
        refine cc_Z0 (st1 := [.int r24]) [.int (Ta 1 (Int32.toNatClampNeg (Ta 0 3)))] hx hb hml hown hu (tJ0_indexOf_0f7a4 l D cs (Ta 1 (Int32.toNatClampNeg (Ta 0 3))) r24 hg25) q730 q66 q727 q728 q729 pdJ0_indexOf_0f7a4 ⟨rfl, rfl, Nat.le_of_ble_eq_true rfl, Nat.le_of_ble_eq_true rfl⟩ hK hZ hP hD hS hA (vk_recv hZ.2.2.2.2.2 (i := 0) (by decide) hS) rfl hl.1 rfl (Nat.le_of_ble_eq_true rfl) dX6_readQ_43 rfl (fun H locs hP hD hS => ?_)
        refine lv_if_lt (tgt := 78) hx hb dX6_readQ_46 (by decide) (fun hc26 => ?_) (fun hc26 => ?_)
        · have hf := ip_el hc26 hf
          exact h78 x1 Ta Dr _ _ _ hP hD hS (lv_sub hl [0, 1] rfl) hf
        · have hf := in_el hc26 hf
          refine lv_aload_n hx hb dX6_readQ_49 rfl (lv_at hl 0 rfl) ?_
          refine va_get (D := D) (ci := 6) (v := .ref (adr 0)) (C := RX6) (T := TX6) (N := 5) hx hb hu inX6 hown hK.1 hP 0 rfl rfl 1 (by decide) (hu _ q260) (fun _ h9 => h9) rfl dX6_readQ_50 ?_
          refine lv_aload_n hx hb dX6_readQ_53 rfl (lv_at hl 0 rfl) ?_
          refine va_get (D := D) (ci := 6) (v := .ref (ata 1)) (C := RX6) (T := TX6) (N := 5) hx hb hu inX6 hown hK.1 hP 0 rfl rfl 0 (by decide) (hu _ q259) (fun _ h9 => h9) rfl dX6_readQ_54 ?_
          refine lv_aload_n hx hb dX6_readQ_57 rfl (lv_at hl 0 rfl) ?_
          refine va_get (D := D) (ci := 6) (v := .int (Ta 0 3)) (C := RX6) (T := TX6) (N := 5) hx hb hu inX6 hown hK.1 hP 0 rfl rfl 3 (by decide) (hu _ q264) (fun _ h9 => h9) rfl dX6_readQ_58 ?_
          obtain ⟨hi27, hf⟩ := ck_el hf
          refine va_cald hx hb hK.1 hP 1 2 rfl rfl hi27 dX6_readQ_61 ?_
          obtain ⟨Dr_28, hg29, hf⟩ := b1_el hf
          refine cc_V (w' := ((kX6 cs ata (.ref (adr 0)) Ta) ++ ((kX3 cs adr  Dr_28)))) (wr := (kX6 cs ata (.ref (adr 0)) Ta)) (st1 := []) [.int (Ta 1 (Int32.toNatClampNeg (Ta 0 3)))] hx hb hml hown hu (tX3_putSign l D cs adr (Ta 1 (Int32.toNatClampNeg (Ta 0 3))) Dr Dr_28 hg29) q816 q57 q813 q814 q815 pdX3_putSign ⟨rfl, rfl, Nat.le_of_ble_eq_true rfl, Nat.le_of_ble_eq_true rfl⟩ hK hZ hP hD hS hA [2, 3, 4] [0, 1] [0, 1, 2, 3, 4] rfl rfl rfl rfl rfl rfl rfl rfl rfl rfl hl.1 rfl (Nat.le_of_ble_eq_true rfl) dX6_readQ_62 rfl (fun H locs hP hD hS => ?_)
          refine lv_aload_n hx hb dX6_readQ_65 rfl (lv_at hl 0 rfl) ?_
          refine lv_dup hx hb dX6_readQ_66 rfl ?_
          refine va_get (D := D) (ci := 6) (v := .int (Ta 0 3)) (C := RX6) (T := TX6) (N := 5) hx hb hu inX6 hown hK.1 hP 0 rfl rfl 3 (by decide) (hu _ q264) (fun _ h9 => h9) rfl dX6_readQ_67 ?_
          refine lv_iconst (v := 1) hx hb dX6_readQ_70 (by decide) ?_
          refine lv_iadd hx hb dX6_readQ_71 ?_
          obtain ⟨Ta_30, hTa_30, hf⟩ := lt_el hf
          refine va_put (D := D) (ci := 6) (v := .int ((Ta 0 3) + 1)) (ty := .int) (C := RX6) (T := TX6) (N := 5) hx hb hu inX6 tyX6 tyX6_ok nmX6 hown hK.1 hP hD hS 0 rfl rfl 3 (by decide) (hu _ q264) (fun _ h9 => h9) rfl (by decide +kernel) rfl rfl (Nat.le_of_ble_eq_true rfl) dX6_readQ_72 (fun H locs hP hD hS => ?_)
          have hP : va_P D vwCl ((kX6 cs ata (.ref (adr 0)) Ta_30) ++ ((kX3 cs adr  Dr_28))) H := by rw [hTa_30]; exact hP
          have hD : va_D A ((kX6 cs ata (.ref (adr 0)) Ta_30) ++ ((kX3 cs adr  Dr_28))) := by rw [hTa_30]; exact hD
          refine lv_goto (tgt := 187) hx hb dX6_readQ_75 (by decide) ?_
          have he := Option.some.inj hf
          obtain ⟨e0, e1⟩ := Prod.mk.inj he
          exact hrv _ _ rfl rfl dX6_readQ_187 _ _ _ (by rw [e0, e1]) hP hD hS
  · have hf := in_el hc3 hf
    refine lv_aload_n hx hb dX6_readQ_7 rfl (lv_at hl 0 rfl) ?_
    obtain ⟨Ta_31, Dr_32, hg33, hf⟩ := b2_el hf
    refine cc_V1 (w' := ((kX6 cs ata (.ref (adr 0)) Ta_31) ++ ((kX3 cs adr  Dr_32)))) (st1 := []) [] hx hb hml hown hu (tX6_readNumber l D cs ata adr Ta Dr Ta_31 Dr_32 hg33) q721 q60 q718 q720 q16 pdX6_readNumber ⟨rfl, rfl, Nat.le_of_ble_eq_true rfl, Nat.le_of_ble_eq_true rfl⟩ hK hZ hP hD hS hA rfl rfl rfl rfl hl.1 rfl (Nat.le_of_ble_eq_true rfl) dX6_readQ_8 rfl (fun H locs hP hD hS => ?_)
    refine lv_goto (tgt := 187) hx hb dX6_readQ_11 (by decide) ?_
    have he := Option.some.inj hf
    obtain ⟨e0, e1⟩ := Prod.mk.inj he
    exact hrv _ _ rfl rfl dX6_readQ_187 _ _ _ (by rw [e0, e1]) hP hD hS

def fX6_readP_5_40 (k7 : Int32 → Int32 → ST → ST → Option (ST × ST)) (y1 : Int32) (y2 : Int32) (Ta : ST) (Dr : ST) : Option (ST × ST) :=
  dc_ck (Ta 0 3) 80 (dc_lt (Ta 1 (Int32.toNatClampNeg (Ta 0 3))) (fun v9 => dc_lt (sti Ta 0 3 ((Ta 0 3) + 1)) (fun Ta_10 => dc_b2 (fX6_readQ_5 y1 Ta_10 Dr) (fun Ta_11 Dr_12 => dc_b1 (fX3_putSign v9 Dr_12) (fun Dr_14 => dc_lt (y2 + 1) (fun v16 => k7 y1 v16 Ta_11 Dr_14))))))
def fX6_readP_5_7_s (k7 : Int32 → Int32 → ST → ST → Option (ST × ST)) (y1 : Int32) (y2 : Int32) (Ta : ST) (Dr : ST) : Option (ST × ST) :=
  (if 80 ≤ y2 then some (Ta, Dr) else dc_b1 (fX6_sees 42 Ta) (fun r5 => (if r5 = 0 then dc_b1 (fX6_sees 47 Ta) (fun r17 => (if r17 = 0 then dc_b1 (fX6_sees 37 Ta) (fun r20 => (if r20 = 0 then some (Ta, Dr) else fX6_readP_5_40 k7 y1 y2 Ta Dr)) else fX6_readP_5_40 k7 y1 y2 Ta Dr)) else fX6_readP_5_40 k7 y1 y2 Ta Dr)))
def fX6_readP_5_7 : Nat → Int32 → Int32 → ST → ST → Option (ST × ST)
  | 0 => fun _ _ _ _ => none
  | n + 1 => fX6_readP_5_7_s (fX6_readP_5_7 n)
def fX6_readP_5 (x1 : Int32) (Ta : ST) (Dr : ST) : Option (ST × ST) :=
  dc_b2 (fX6_readQ_5 x1 Ta Dr) (fun Ta_1 Dr_2 => fX6_readP_5_7 400 x1 0 Ta_1 Dr_2)
abbrev rmX6_readP_5 : Room := { frames := 5, cells := 0, slots := 0, locals := 127 }
set_option maxRecDepth 100000 in
set_option maxHeartbeats 4000000 in
theorem tX6_readP_5 (l : Launch) (D : va_G) (cs : Nat → ClassId) (ata : Nat → Nat) (adr : Nat → Nat) (x1 : Int32) (Ta : ST) (Dr : ST) (Taz : ST) (Drz : ST) (hf : fX6_readP_5 x1 Ta Dr = some (Taz, Drz)) : CG l yX6_readP (wsm yX6_readP cX6_readP 4 none) rmX6_readP_5 D cs [.ref (ata 0), .int x1] none ((kX6 cs ata (.ref (adr 0)) Ta) ++ ((kX3 cs adr  Dr))) ((kX6 cs ata (.ref (adr 0)) Taz) ++ ((kX3 cs adr  Drz))) := by
  refine CG.intro (by decide) (Nat.le_of_ble_eq_true rfl) ?_
  intro p e s m below meth c A Q hx hb hml hown hu hK hZ hP0 hD0 hS0 hA hri hrz hrl hrv hra ls0 hl0
  have h40 : ∀ (k7 : Int32 → Int32 → ST → ST → Option (ST × ST)), (∀ (y1 : Int32) (y2 : Int32) (Ta : ST) (Dr : ST) (H : Heap) (locs : List Loc) (ls : Array Slot), va_P D vwCl ((kX6 cs ata (.ref (adr 0)) Ta) ++ ((kX3 cs adr  Dr))) H → va_D A ((kX6 cs ata (.ref (adr 0)) Ta) ++ ((kX3 cs adr  Dr))) → va_S A s.heap H locs → lv_has ls 4 [(0, .ref (ata 0)), (1, .int y1), (2, .int y2)] → k7 y1 y2 Ta Dr = some (Taz, Drz) → W p l e rmX6_readP_5 s m [.ref (ata 0), .int x1].toArray below meth c H locs 0 0 Q (F0 m 7 ls [])) → ∀ (y1 : Int32) (y2 : Int32) (Ta : ST) (Dr : ST) (H : Heap) (locs : List Loc) (ls : Array Slot), va_P D vwCl ((kX6 cs ata (.ref (adr 0)) Ta) ++ ((kX3 cs adr  Dr))) H → va_D A ((kX6 cs ata (.ref (adr 0)) Ta) ++ ((kX3 cs adr  Dr))) → va_S A s.heap H locs → lv_has ls 4 [(0, .ref (ata 0)), (1, .int y1), (2, .int y2)] → fX6_readP_5_40 k7 y1 y2 Ta Dr = some (Taz, Drz) → W p l e rmX6_readP_5 s m [.ref (ata 0), .int x1].toArray below meth c H locs 0 0 Q (F0 m 40 ls []) := by
    intro k7 hk7 y1 y2 Ta Dr H locs ls hP hD hS hl hf
    unfold fX6_readP_5_40 at hf
    refine lv_aload_n hx hb dX6_readP_40 rfl (lv_at hl 0 rfl) ?_
    refine va_get (D := D) (ci := 6) (v := .ref (ata 1)) (C := RX6) (T := TX6) (N := 5) hx hb hu inX6 hown hK.1 hP 0 rfl rfl 0 (by decide) (hu _ q259) (fun _ h9 => h9) rfl dX6_readP_41 ?_
    refine lv_aload_n hx hb dX6_readP_44 rfl (lv_at hl 0 rfl) ?_
    refine va_get (D := D) (ci := 6) (v := .int (Ta 0 3)) (C := RX6) (T := TX6) (N := 5) hx hb hu inX6 hown hK.1 hP 0 rfl rfl 3 (by decide) (hu _ q264) (fun _ h9 => h9) rfl dX6_readP_45 ?_
    obtain ⟨hi8, hf⟩ := ck_el hf
    refine va_cald hx hb hK.1 hP 1 2 rfl rfl hi8 dX6_readP_48 ?_
    obtain ⟨v9, hv9, hf⟩ := lt_el hf
    refine lv_tope hv9 ?_
    refine lv_istore_n (lv' := [(3, .int v9), (0, .ref (ata 0)), (1, .int y1), (2, .int y2)]) hx hb dX6_readP_49 rfl hl (by decide) rfl (fun ls hl => ?_)
    refine lv_aload_n hx hb dX6_readP_50 rfl (lv_at hl 1 rfl) ?_
    refine lv_dup hx hb dX6_readP_51 rfl ?_
    refine va_get (D := D) (ci := 6) (v := .int (Ta 0 3)) (C := RX6) (T := TX6) (N := 5) hx hb hu inX6 hown hK.1 hP 0 rfl rfl 3 (by decide) (hu _ q264) (fun _ h9 => h9) rfl dX6_readP_52 ?_
    refine lv_iconst (v := 1) hx hb dX6_readP_55 (by decide) ?_
    refine lv_iadd hx hb dX6_readP_56 ?_
    obtain ⟨Ta_10, hTa_10, hf⟩ := lt_el hf
    refine va_put (D := D) (ci := 6) (v := .int ((Ta 0 3) + 1)) (ty := .int) (C := RX6) (T := TX6) (N := 5) hx hb hu inX6 tyX6 tyX6_ok nmX6 hown hK.1 hP hD hS 0 rfl rfl 3 (by decide) (hu _ q264) (fun _ h9 => h9) rfl (by decide +kernel) rfl rfl (Nat.le_of_ble_eq_true rfl) dX6_readP_57 (fun H locs hP hD hS => ?_)
    have hP : va_P D vwCl ((kX6 cs ata (.ref (adr 0)) Ta_10) ++ ((kX3 cs adr  Dr))) H := by rw [hTa_10]; exact hP
    have hD : va_D A ((kX6 cs ata (.ref (adr 0)) Ta_10) ++ ((kX3 cs adr  Dr))) := by rw [hTa_10]; exact hD
    refine lv_aload_n hx hb dX6_readP_60 rfl (lv_at hl 1 rfl) ?_
    refine lv_iload_n hx hb dX6_readP_61 rfl (lv_at hl 2 rfl) ?_
    obtain ⟨Ta_11, Dr_12, hg13, hf⟩ := b2_el hf
    refine cc_V1 (w' := ((kX6 cs ata (.ref (adr 0)) Ta_11) ++ ((kX3 cs adr  Dr_12)))) (st1 := []) [.int y1] hx hb hml hown hu (tX6_readQ_5 l D cs ata adr y1 Ta_10 Dr Ta_11 Dr_12 hg13) q713 q60 q710 q712 q14 pdX6_readQ ⟨rfl, rfl, Nat.le_of_ble_eq_true rfl, Nat.le_of_ble_eq_true rfl⟩ hK hZ hP hD hS hA rfl rfl rfl rfl hl.1 rfl (Nat.le_of_ble_eq_true rfl) dX6_readP_62 rfl (fun H locs hP hD hS => ?_)
    refine lv_aload_n hx hb dX6_readP_65 rfl (lv_at hl 1 rfl) ?_
    refine va_get (D := D) (ci := 6) (v := .ref (adr 0)) (C := RX6) (T := TX6) (N := 5) hx hb hu inX6 hown hK.1 hP 0 rfl rfl 1 (by decide) (hu _ q260) (fun _ h9 => h9) rfl dX6_readP_66 ?_
    refine lv_iload_n hx hb dX6_readP_69 rfl (lv_at hl 0 rfl) ?_
    obtain ⟨Dr_14, hg15, hf⟩ := b1_el hf
    refine cc_V (w' := ((kX6 cs ata (.ref (adr 0)) Ta_11) ++ ((kX3 cs adr  Dr_14)))) (wr := (kX6 cs ata (.ref (adr 0)) Ta_11)) (st1 := []) [.int v9] hx hb hml hown hu (tX3_putSign l D cs adr v9 Dr_12 Dr_14 hg15) q816 q57 q813 q814 q815 pdX3_putSign ⟨rfl, rfl, Nat.le_of_ble_eq_true rfl, Nat.le_of_ble_eq_true rfl⟩ hK hZ hP hD hS hA [2, 3, 4] [0, 1] [0, 1, 2, 3, 4] rfl rfl rfl rfl rfl rfl rfl rfl rfl rfl hl.1 rfl (Nat.le_of_ble_eq_true rfl) dX6_readP_70 rfl (fun H locs hP hD hS => ?_)
    obtain ⟨v16, hv16, hf⟩ := lt_el hf
    refine lv_iinc (v := v16) (lv' := [(2, .int v16), (3, .int v9), (0, .ref (ata 0)), (1, .int y1)]) hx hb dX6_readP_73 hl (k := 3) rfl (by rw [hv16]; rfl) (by decide) rfl (fun ls hl => ?_)
    refine lv_goto (tgt := 7) hx hb dX6_readP_76 (by decide) ?_
    exact hk7 y1 v16 Ta_11 Dr_14 _ _ _ hP hD hS (lv_sub hl [2, 3, 0] rfl) hf
  have hs7 : ∀ (k7 : Int32 → Int32 → ST → ST → Option (ST × ST)), (∀ (y1 : Int32) (y2 : Int32) (Ta : ST) (Dr : ST) (H : Heap) (locs : List Loc) (ls : Array Slot), va_P D vwCl ((kX6 cs ata (.ref (adr 0)) Ta) ++ ((kX3 cs adr  Dr))) H → va_D A ((kX6 cs ata (.ref (adr 0)) Ta) ++ ((kX3 cs adr  Dr))) → va_S A s.heap H locs → lv_has ls 4 [(0, .ref (ata 0)), (1, .int y1), (2, .int y2)] → k7 y1 y2 Ta Dr = some (Taz, Drz) → W p l e rmX6_readP_5 s m [.ref (ata 0), .int x1].toArray below meth c H locs 0 0 Q (F0 m 7 ls [])) → ∀ (y1 : Int32) (y2 : Int32) (Ta : ST) (Dr : ST) (H : Heap) (locs : List Loc) (ls : Array Slot), va_P D vwCl ((kX6 cs ata (.ref (adr 0)) Ta) ++ ((kX3 cs adr  Dr))) H → va_D A ((kX6 cs ata (.ref (adr 0)) Ta) ++ ((kX3 cs adr  Dr))) → va_S A s.heap H locs → lv_has ls 4 [(0, .ref (ata 0)), (1, .int y1), (2, .int y2)] → fX6_readP_5_7_s k7 y1 y2 Ta Dr = some (Taz, Drz) → W p l e rmX6_readP_5 s m [.ref (ata 0), .int x1].toArray below meth c H locs 0 0 Q (F0 m 7 ls []) := by
    intro k7 hk7 y1 y2 Ta Dr H locs ls hP hD hS hl hf
    unfold fX6_readP_5_7_s at hf
    refine lv_iload_n hx hb dX6_readP_7 rfl (lv_at hl 2 rfl) ?_
    refine lv_bipush (v := 80) hx hb dX6_readP_8 (by decide) ?_
    refine lv_icmp_ge (tgt := 79) hx hb dX6_readP_10 (by decide) (fun hc4 => ?_) (fun hc4 => ?_)
    · have hf := ip_el hc4 hf
      have he := Option.some.inj hf
      obtain ⟨e0, e1⟩ := Prod.mk.inj he
      exact hrv _ _ rfl rfl dX6_readP_79 _ _ _ (by rw [e0, e1]) hP hD hS
    · have hf := in_el hc4 hf
      refine lv_aload_n hx hb dX6_readP_13 rfl (lv_at hl 0 rfl) ?_
      refine lv_bipush (v := 42) hx hb dX6_readP_14 (by decide) ?_
      obtain ⟨r5, hg6, hf⟩ := b1_el hf
      refine cc_V (w' := ((kX6 cs ata (.ref (adr 0)) Ta) ++ ((kX3 cs adr  Dr)))) (wr := (kX3 cs adr  Dr)) (st1 := [.int r5]) [.int 42] hx hb hml hown hu (tX6_sees l D cs ata adr 42 Ta r5 hg6) q825 q60 q822 q824 q18 pdX6_sees ⟨rfl, rfl, Nat.le_of_ble_eq_true rfl, Nat.le_of_ble_eq_true rfl⟩ hK hZ hP hD hS hA [0, 1] [2, 3, 4] [3, 4, 0, 1, 2] rfl rfl rfl rfl rfl rfl rfl rfl rfl rfl hl.1 rfl (Nat.le_of_ble_eq_true rfl) dX6_readP_16 rfl (fun H locs hP hD hS => ?_)
      refine lv_if_ne (tgt := 40) hx hb dX6_readP_19 (by decide) (fun hc7 => ?_) (fun hc7 => ?_)
      · have hf := in_el hc7 hf
        exact h40 k7 hk7 y1 y2 Ta Dr _ _ _ hP hD hS (lv_sub hl [0, 1, 2] rfl) hf
      · have hf := ip_el hc7 hf
        refine lv_aload_n hx hb dX6_readP_22 rfl (lv_at hl 0 rfl) ?_
        refine lv_bipush (v := 47) hx hb dX6_readP_23 (by decide) ?_
        obtain ⟨r17, hg18, hf⟩ := b1_el hf
        refine cc_V (w' := ((kX6 cs ata (.ref (adr 0)) Ta) ++ ((kX3 cs adr  Dr)))) (wr := (kX3 cs adr  Dr)) (st1 := [.int r17]) [.int 47] hx hb hml hown hu (tX6_sees l D cs ata adr 47 Ta r17 hg18) q825 q60 q822 q824 q18 pdX6_sees ⟨rfl, rfl, Nat.le_of_ble_eq_true rfl, Nat.le_of_ble_eq_true rfl⟩ hK hZ hP hD hS hA [0, 1] [2, 3, 4] [3, 4, 0, 1, 2] rfl rfl rfl rfl rfl rfl rfl rfl rfl rfl hl.1 rfl (Nat.le_of_ble_eq_true rfl) dX6_readP_25 rfl (fun H locs hP hD hS => ?_)
        refine lv_if_ne (tgt := 40) hx hb dX6_readP_28 (by decide) (fun hc19 => ?_) (fun hc19 => ?_)
        · have hf := in_el hc19 hf
          exact h40 k7 hk7 y1 y2 Ta Dr _ _ _ hP hD hS (lv_sub hl [0, 1, 2] rfl) hf
        · have hf := ip_el hc19 hf
          refine lv_aload_n hx hb dX6_readP_31 rfl (lv_at hl 0 rfl) ?_
          refine lv_bipush (v := 37) hx hb dX6_readP_32 (by decide) ?_
          obtain ⟨r20, hg21, hf⟩ := b1_el hf
          refine cc_V (w' := ((kX6 cs ata (.ref (adr 0)) Ta) ++ ((kX3 cs adr  Dr)))) (wr := (kX3 cs adr  Dr)) (st1 := [.int r20]) [.int 37] hx hb hml hown hu (tX6_sees l D cs ata adr 37 Ta r20 hg21) q825 q60 q822 q824 q18 pdX6_sees ⟨rfl, rfl, Nat.le_of_ble_eq_true rfl, Nat.le_of_ble_eq_true rfl⟩ hK hZ hP hD hS hA [0, 1] [2, 3, 4] [3, 4, 0, 1, 2] rfl rfl rfl rfl rfl rfl rfl rfl rfl rfl hl.1 rfl (Nat.le_of_ble_eq_true rfl) dX6_readP_34 rfl (fun H locs hP hD hS => ?_)
          refine lv_if_eq (tgt := 79) hx hb dX6_readP_37 (by decide) (fun hc22 => ?_) (fun hc22 => ?_)
          · have hf := ip_el hc22 hf
            have he := Option.some.inj hf
            obtain ⟨e0, e1⟩ := Prod.mk.inj he
            exact hrv _ _ rfl rfl dX6_readP_79 _ _ _ (by rw [e0, e1]) hP hD hS
          · have hf := in_el hc22 hf
            exact h40 k7 hk7 y1 y2 Ta Dr _ _ _ hP hD hS (lv_sub hl [0, 1, 2] rfl) hf
  have h7 : ∀ (n : Nat), ∀ (y1 : Int32) (y2 : Int32) (Ta : ST) (Dr : ST) (H : Heap) (locs : List Loc) (ls : Array Slot), va_P D vwCl ((kX6 cs ata (.ref (adr 0)) Ta) ++ ((kX3 cs adr  Dr))) H → va_D A ((kX6 cs ata (.ref (adr 0)) Ta) ++ ((kX3 cs adr  Dr))) → va_S A s.heap H locs → lv_has ls 4 [(0, .ref (ata 0)), (1, .int y1), (2, .int y2)] → fX6_readP_5_7 n y1 y2 Ta Dr = some (Taz, Drz) → W p l e rmX6_readP_5 s m [.ref (ata 0), .int x1].toArray below meth c H locs 0 0 Q (F0 m 7 ls []) := by
    intro n
    induction n with
    | zero => intro y1 y2 Ta Dr H locs ls hP hD hS hl hf; exact no_el hf
    | succ n ih => intro y1 y2 Ta Dr H locs ls hP hD hS hl hf; exact hs7 _ ih y1 y2 Ta Dr _ _ _ hP hD hS hl hf
  have hl : lv_has ls0 4 [(0, .ref (ata 0)), (1, .int x1)] := hl0
  have hP := hP0
  have hD := hD0
  have hS := hS0
  unfold fX6_readP_5 at hf
  refine lv_aload_n hx hb dX6_readP_0 rfl (lv_at hl 0 rfl) ?_
  refine lv_iload_n hx hb dX6_readP_1 rfl (lv_at hl 1 rfl) ?_
  obtain ⟨Ta_1, Dr_2, hg3, hf⟩ := b2_el hf
  refine cc_V1 (w' := ((kX6 cs ata (.ref (adr 0)) Ta_1) ++ ((kX3 cs adr  Dr_2)))) (st1 := []) [.int x1] hx hb hml hown hu (tX6_readQ_5 l D cs ata adr x1 Ta Dr Ta_1 Dr_2 hg3) q713 q60 q710 q712 q14 pdX6_readQ ⟨rfl, rfl, Nat.le_of_ble_eq_true rfl, Nat.le_of_ble_eq_true rfl⟩ hK hZ hP hD hS hA rfl rfl rfl rfl hl.1 rfl (Nat.le_of_ble_eq_true rfl) dX6_readP_2 rfl (fun H locs hP hD hS => ?_)
  refine lv_iconst (v := 0) hx hb dX6_readP_5 (by decide) ?_
  refine lv_istore_n (lv' := [(2, .int 0), (0, .ref (ata 0)), (1, .int x1)]) hx hb dX6_readP_6 rfl hl (by decide) rfl (fun ls hl => ?_)
  exact h7 400 x1 0 Ta_1 Dr_2 _ _ _ hP hD hS (lv_sub hl [1, 2, 0] rfl) hf

def fX6_readS_5_31 (k7 : Int32 → Int32 → ST → ST → Option (ST × ST)) (y1 : Int32) (y2 : Int32) (Ta : ST) (Dr : ST) : Option (ST × ST) :=
  dc_ck (Ta 0 3) 80 (dc_lt (Ta 1 (Int32.toNatClampNeg (Ta 0 3))) (fun v9 => dc_lt (sti Ta 0 3 ((Ta 0 3) + 1)) (fun Ta_10 => dc_b2 (fX6_readP_5 y1 Ta_10 Dr) (fun Ta_11 Dr_12 => dc_b1 (fX3_putSign v9 Dr_12) (fun Dr_14 => dc_lt (y2 + 1) (fun v16 => k7 y1 v16 Ta_11 Dr_14))))))
def fX6_readS_5_7_s (k7 : Int32 → Int32 → ST → ST → Option (ST × ST)) (y1 : Int32) (y2 : Int32) (Ta : ST) (Dr : ST) : Option (ST × ST) :=
  (if 80 ≤ y2 then some (Ta, Dr) else dc_b1 (fX6_sees 43 Ta) (fun r5 => (if r5 = 0 then dc_b1 (fX6_sees 45 Ta) (fun r17 => (if r17 = 0 then some (Ta, Dr) else fX6_readS_5_31 k7 y1 y2 Ta Dr)) else fX6_readS_5_31 k7 y1 y2 Ta Dr)))
def fX6_readS_5_7 : Nat → Int32 → Int32 → ST → ST → Option (ST × ST)
  | 0 => fun _ _ _ _ => none
  | n + 1 => fX6_readS_5_7_s (fX6_readS_5_7 n)
def fX6_readS_5 (x1 : Int32) (Ta : ST) (Dr : ST) : Option (ST × ST) :=
  dc_b2 (fX6_readP_5 x1 Ta Dr) (fun Ta_1 Dr_2 => fX6_readS_5_7 400 x1 0 Ta_1 Dr_2)
abbrev rmX6_readS_5 : Room := { frames := 6, cells := 0, slots := 0, locals := 150 }
set_option maxRecDepth 100000 in
set_option maxHeartbeats 4000000 in
theorem tX6_readS_5 (l : Launch) (D : va_G) (cs : Nat → ClassId) (ata : Nat → Nat) (adr : Nat → Nat) (x1 : Int32) (Ta : ST) (Dr : ST) (Taz : ST) (Drz : ST) (hf : fX6_readS_5 x1 Ta Dr = some (Taz, Drz)) : CG l yX6_readS (wsm yX6_readS cX6_readS 4 none) rmX6_readS_5 D cs [.ref (ata 0), .int x1] none ((kX6 cs ata (.ref (adr 0)) Ta) ++ ((kX3 cs adr  Dr))) ((kX6 cs ata (.ref (adr 0)) Taz) ++ ((kX3 cs adr  Drz))) := by
  refine CG.intro (by decide) (Nat.le_of_ble_eq_true rfl) ?_
  intro p e s m below meth c A Q hx hb hml hown hu hK hZ hP0 hD0 hS0 hA hri hrz hrl hrv hra ls0 hl0
  have h31 : ∀ (k7 : Int32 → Int32 → ST → ST → Option (ST × ST)), (∀ (y1 : Int32) (y2 : Int32) (Ta : ST) (Dr : ST) (H : Heap) (locs : List Loc) (ls : Array Slot), va_P D vwCl ((kX6 cs ata (.ref (adr 0)) Ta) ++ ((kX3 cs adr  Dr))) H → va_D A ((kX6 cs ata (.ref (adr 0)) Ta) ++ ((kX3 cs adr  Dr))) → va_S A s.heap H locs → lv_has ls 4 [(0, .ref (ata 0)), (1, .int y1), (2, .int y2)] → k7 y1 y2 Ta Dr = some (Taz, Drz) → W p l e rmX6_readS_5 s m [.ref (ata 0), .int x1].toArray below meth c H locs 0 0 Q (F0 m 7 ls [])) → ∀ (y1 : Int32) (y2 : Int32) (Ta : ST) (Dr : ST) (H : Heap) (locs : List Loc) (ls : Array Slot), va_P D vwCl ((kX6 cs ata (.ref (adr 0)) Ta) ++ ((kX3 cs adr  Dr))) H → va_D A ((kX6 cs ata (.ref (adr 0)) Ta) ++ ((kX3 cs adr  Dr))) → va_S A s.heap H locs → lv_has ls 4 [(0, .ref (ata 0)), (1, .int y1), (2, .int y2)] → fX6_readS_5_31 k7 y1 y2 Ta Dr = some (Taz, Drz) → W p l e rmX6_readS_5 s m [.ref (ata 0), .int x1].toArray below meth c H locs 0 0 Q (F0 m 31 ls []) := by
    intro k7 hk7 y1 y2 Ta Dr H locs ls hP hD hS hl hf
    unfold fX6_readS_5_31 at hf
    refine lv_aload_n hx hb dX6_readS_31 rfl (lv_at hl 0 rfl) ?_
    refine va_get (D := D) (ci := 6) (v := .ref (ata 1)) (C := RX6) (T := TX6) (N := 5) hx hb hu inX6 hown hK.1 hP 0 rfl rfl 0 (by decide) (hu _ q259) (fun _ h9 => h9) rfl dX6_readS_32 ?_
    refine lv_aload_n hx hb dX6_readS_35 rfl (lv_at hl 0 rfl) ?_
    refine va_get (D := D) (ci := 6) (v := .int (Ta 0 3)) (C := RX6) (T := TX6) (N := 5) hx hb hu inX6 hown hK.1 hP 0 rfl rfl 3 (by decide) (hu _ q264) (fun _ h9 => h9) rfl dX6_readS_36 ?_
    obtain ⟨hi8, hf⟩ := ck_el hf
    refine va_cald hx hb hK.1 hP 1 2 rfl rfl hi8 dX6_readS_39 ?_
    obtain ⟨v9, hv9, hf⟩ := lt_el hf
    refine lv_tope hv9 ?_
    refine lv_istore_n (lv' := [(3, .int v9), (0, .ref (ata 0)), (1, .int y1), (2, .int y2)]) hx hb dX6_readS_40 rfl hl (by decide) rfl (fun ls hl => ?_)
    refine lv_aload_n hx hb dX6_readS_41 rfl (lv_at hl 1 rfl) ?_
    refine lv_dup hx hb dX6_readS_42 rfl ?_
    refine va_get (D := D) (ci := 6) (v := .int (Ta 0 3)) (C := RX6) (T := TX6) (N := 5) hx hb hu inX6 hown hK.1 hP 0 rfl rfl 3 (by decide) (hu _ q264) (fun _ h9 => h9) rfl dX6_readS_43 ?_
    refine lv_iconst (v := 1) hx hb dX6_readS_46 (by decide) ?_
    refine lv_iadd hx hb dX6_readS_47 ?_
    obtain ⟨Ta_10, hTa_10, hf⟩ := lt_el hf
    refine va_put (D := D) (ci := 6) (v := .int ((Ta 0 3) + 1)) (ty := .int) (C := RX6) (T := TX6) (N := 5) hx hb hu inX6 tyX6 tyX6_ok nmX6 hown hK.1 hP hD hS 0 rfl rfl 3 (by decide) (hu _ q264) (fun _ h9 => h9) rfl (by decide +kernel) rfl rfl (Nat.le_of_ble_eq_true rfl) dX6_readS_48 (fun H locs hP hD hS => ?_)
    have hP : va_P D vwCl ((kX6 cs ata (.ref (adr 0)) Ta_10) ++ ((kX3 cs adr  Dr))) H := by rw [hTa_10]; exact hP
    have hD : va_D A ((kX6 cs ata (.ref (adr 0)) Ta_10) ++ ((kX3 cs adr  Dr))) := by rw [hTa_10]; exact hD
    refine lv_aload_n hx hb dX6_readS_51 rfl (lv_at hl 1 rfl) ?_
    refine lv_iload_n hx hb dX6_readS_52 rfl (lv_at hl 2 rfl) ?_
    obtain ⟨Ta_11, Dr_12, hg13, hf⟩ := b2_el hf
    refine cc_V1 (w' := ((kX6 cs ata (.ref (adr 0)) Ta_11) ++ ((kX3 cs adr  Dr_12)))) (st1 := []) [.int y1] hx hb hml hown hu (tX6_readP_5 l D cs ata adr y1 Ta_10 Dr Ta_11 Dr_12 hg13) q709 q60 q706 q708 q13 pdX6_readP ⟨rfl, rfl, Nat.le_of_ble_eq_true rfl, Nat.le_of_ble_eq_true rfl⟩ hK hZ hP hD hS hA rfl rfl rfl rfl hl.1 rfl (Nat.le_of_ble_eq_true rfl) dX6_readS_53 rfl (fun H locs hP hD hS => ?_)
    refine lv_aload_n hx hb dX6_readS_56 rfl (lv_at hl 1 rfl) ?_
    refine va_get (D := D) (ci := 6) (v := .ref (adr 0)) (C := RX6) (T := TX6) (N := 5) hx hb hu inX6 hown hK.1 hP 0 rfl rfl 1 (by decide) (hu _ q260) (fun _ h9 => h9) rfl dX6_readS_57 ?_
    refine lv_iload_n hx hb dX6_readS_60 rfl (lv_at hl 0 rfl) ?_
    obtain ⟨Dr_14, hg15, hf⟩ := b1_el hf
    refine cc_V (w' := ((kX6 cs ata (.ref (adr 0)) Ta_11) ++ ((kX3 cs adr  Dr_14)))) (wr := (kX6 cs ata (.ref (adr 0)) Ta_11)) (st1 := []) [.int v9] hx hb hml hown hu (tX3_putSign l D cs adr v9 Dr_12 Dr_14 hg15) q816 q57 q813 q814 q815 pdX3_putSign ⟨rfl, rfl, Nat.le_of_ble_eq_true rfl, Nat.le_of_ble_eq_true rfl⟩ hK hZ hP hD hS hA [2, 3, 4] [0, 1] [0, 1, 2, 3, 4] rfl rfl rfl rfl rfl rfl rfl rfl rfl rfl hl.1 rfl (Nat.le_of_ble_eq_true rfl) dX6_readS_61 rfl (fun H locs hP hD hS => ?_)
    obtain ⟨v16, hv16, hf⟩ := lt_el hf
    refine lv_iinc (v := v16) (lv' := [(2, .int v16), (3, .int v9), (0, .ref (ata 0)), (1, .int y1)]) hx hb dX6_readS_64 hl (k := 3) rfl (by rw [hv16]; rfl) (by decide) rfl (fun ls hl => ?_)
    refine lv_goto (tgt := 7) hx hb dX6_readS_67 (by decide) ?_
    exact hk7 y1 v16 Ta_11 Dr_14 _ _ _ hP hD hS (lv_sub hl [2, 3, 0] rfl) hf
  have hs7 : ∀ (k7 : Int32 → Int32 → ST → ST → Option (ST × ST)), (∀ (y1 : Int32) (y2 : Int32) (Ta : ST) (Dr : ST) (H : Heap) (locs : List Loc) (ls : Array Slot), va_P D vwCl ((kX6 cs ata (.ref (adr 0)) Ta) ++ ((kX3 cs adr  Dr))) H → va_D A ((kX6 cs ata (.ref (adr 0)) Ta) ++ ((kX3 cs adr  Dr))) → va_S A s.heap H locs → lv_has ls 4 [(0, .ref (ata 0)), (1, .int y1), (2, .int y2)] → k7 y1 y2 Ta Dr = some (Taz, Drz) → W p l e rmX6_readS_5 s m [.ref (ata 0), .int x1].toArray below meth c H locs 0 0 Q (F0 m 7 ls [])) → ∀ (y1 : Int32) (y2 : Int32) (Ta : ST) (Dr : ST) (H : Heap) (locs : List Loc) (ls : Array Slot), va_P D vwCl ((kX6 cs ata (.ref (adr 0)) Ta) ++ ((kX3 cs adr  Dr))) H → va_D A ((kX6 cs ata (.ref (adr 0)) Ta) ++ ((kX3 cs adr  Dr))) → va_S A s.heap H locs → lv_has ls 4 [(0, .ref (ata 0)), (1, .int y1), (2, .int y2)] → fX6_readS_5_7_s k7 y1 y2 Ta Dr = some (Taz, Drz) → W p l e rmX6_readS_5 s m [.ref (ata 0), .int x1].toArray below meth c H locs 0 0 Q (F0 m 7 ls []) := by
    intro k7 hk7 y1 y2 Ta Dr H locs ls hP hD hS hl hf
    unfold fX6_readS_5_7_s at hf
    refine lv_iload_n hx hb dX6_readS_7 rfl (lv_at hl 2 rfl) ?_
    refine lv_bipush (v := 80) hx hb dX6_readS_8 (by decide) ?_
    refine lv_icmp_ge (tgt := 70) hx hb dX6_readS_10 (by decide) (fun hc4 => ?_) (fun hc4 => ?_)
    · have hf := ip_el hc4 hf
      have he := Option.some.inj hf
      obtain ⟨e0, e1⟩ := Prod.mk.inj he
      exact hrv _ _ rfl rfl dX6_readS_70 _ _ _ (by rw [e0, e1]) hP hD hS
    · have hf := in_el hc4 hf
      refine lv_aload_n hx hb dX6_readS_13 rfl (lv_at hl 0 rfl) ?_
      refine lv_bipush (v := 43) hx hb dX6_readS_14 (by decide) ?_
      obtain ⟨r5, hg6, hf⟩ := b1_el hf
      refine cc_V (w' := ((kX6 cs ata (.ref (adr 0)) Ta) ++ ((kX3 cs adr  Dr)))) (wr := (kX3 cs adr  Dr)) (st1 := [.int r5]) [.int 43] hx hb hml hown hu (tX6_sees l D cs ata adr 43 Ta r5 hg6) q825 q60 q822 q824 q18 pdX6_sees ⟨rfl, rfl, Nat.le_of_ble_eq_true rfl, Nat.le_of_ble_eq_true rfl⟩ hK hZ hP hD hS hA [0, 1] [2, 3, 4] [3, 4, 0, 1, 2] rfl rfl rfl rfl rfl rfl rfl rfl rfl rfl hl.1 rfl (Nat.le_of_ble_eq_true rfl) dX6_readS_16 rfl (fun H locs hP hD hS => ?_)
      refine lv_if_ne (tgt := 31) hx hb dX6_readS_19 (by decide) (fun hc7 => ?_) (fun hc7 => ?_)
      · have hf := in_el hc7 hf
        exact h31 k7 hk7 y1 y2 Ta Dr _ _ _ hP hD hS (lv_sub hl [0, 1, 2] rfl) hf
      · have hf := ip_el hc7 hf
        refine lv_aload_n hx hb dX6_readS_22 rfl (lv_at hl 0 rfl) ?_
        refine lv_bipush (v := 45) hx hb dX6_readS_23 (by decide) ?_
        obtain ⟨r17, hg18, hf⟩ := b1_el hf
        refine cc_V (w' := ((kX6 cs ata (.ref (adr 0)) Ta) ++ ((kX3 cs adr  Dr)))) (wr := (kX3 cs adr  Dr)) (st1 := [.int r17]) [.int 45] hx hb hml hown hu (tX6_sees l D cs ata adr 45 Ta r17 hg18) q825 q60 q822 q824 q18 pdX6_sees ⟨rfl, rfl, Nat.le_of_ble_eq_true rfl, Nat.le_of_ble_eq_true rfl⟩ hK hZ hP hD hS hA [0, 1] [2, 3, 4] [3, 4, 0, 1, 2] rfl rfl rfl rfl rfl rfl rfl rfl rfl rfl hl.1 rfl (Nat.le_of_ble_eq_true rfl) dX6_readS_25 rfl (fun H locs hP hD hS => ?_)
        refine lv_if_eq (tgt := 70) hx hb dX6_readS_28 (by decide) (fun hc19 => ?_) (fun hc19 => ?_)
        · have hf := ip_el hc19 hf
          have he := Option.some.inj hf
          obtain ⟨e0, e1⟩ := Prod.mk.inj he
          exact hrv _ _ rfl rfl dX6_readS_70 _ _ _ (by rw [e0, e1]) hP hD hS
        · have hf := in_el hc19 hf
          exact h31 k7 hk7 y1 y2 Ta Dr _ _ _ hP hD hS (lv_sub hl [0, 1, 2] rfl) hf
  have h7 : ∀ (n : Nat), ∀ (y1 : Int32) (y2 : Int32) (Ta : ST) (Dr : ST) (H : Heap) (locs : List Loc) (ls : Array Slot), va_P D vwCl ((kX6 cs ata (.ref (adr 0)) Ta) ++ ((kX3 cs adr  Dr))) H → va_D A ((kX6 cs ata (.ref (adr 0)) Ta) ++ ((kX3 cs adr  Dr))) → va_S A s.heap H locs → lv_has ls 4 [(0, .ref (ata 0)), (1, .int y1), (2, .int y2)] → fX6_readS_5_7 n y1 y2 Ta Dr = some (Taz, Drz) → W p l e rmX6_readS_5 s m [.ref (ata 0), .int x1].toArray below meth c H locs 0 0 Q (F0 m 7 ls []) := by
    intro n
    induction n with
    | zero => intro y1 y2 Ta Dr H locs ls hP hD hS hl hf; exact no_el hf
    | succ n ih => intro y1 y2 Ta Dr H locs ls hP hD hS hl hf; exact hs7 _ ih y1 y2 Ta Dr _ _ _ hP hD hS hl hf
  have hl : lv_has ls0 4 [(0, .ref (ata 0)), (1, .int x1)] := hl0
  have hP := hP0
  have hD := hD0
  have hS := hS0
  unfold fX6_readS_5 at hf
  refine lv_aload_n hx hb dX6_readS_0 rfl (lv_at hl 0 rfl) ?_
  refine lv_iload_n hx hb dX6_readS_1 rfl (lv_at hl 1 rfl) ?_
  obtain ⟨Ta_1, Dr_2, hg3, hf⟩ := b2_el hf
  refine cc_V1 (w' := ((kX6 cs ata (.ref (adr 0)) Ta_1) ++ ((kX3 cs adr  Dr_2)))) (st1 := []) [.int x1] hx hb hml hown hu (tX6_readP_5 l D cs ata adr x1 Ta Dr Ta_1 Dr_2 hg3) q709 q60 q706 q708 q13 pdX6_readP ⟨rfl, rfl, Nat.le_of_ble_eq_true rfl, Nat.le_of_ble_eq_true rfl⟩ hK hZ hP hD hS hA rfl rfl rfl rfl hl.1 rfl (Nat.le_of_ble_eq_true rfl) dX6_readS_2 rfl (fun H locs hP hD hS => ?_)
  refine lv_iconst (v := 0) hx hb dX6_readS_5 (by decide) ?_
  refine lv_istore_n (lv' := [(2, .int 0), (0, .ref (ata 0)), (1, .int x1)]) hx hb dX6_readS_6 rfl hl (by decide) rfl (fun ls hl => ?_)
  exact h7 400 x1 0 Ta_1 Dr_2 _ _ _ hP hD hS (lv_sub hl [1, 2, 0] rfl) hf

def fX6_readB_5_32 (y1 : Int32) (Ta : ST) (Dr : ST) : Option (ST × ST) :=
  dc_ck (Ta 0 3) 80 (dc_lt (Ta 1 (Int32.toNatClampNeg (Ta 0 3))) (fun v8 => dc_lt (sti Ta 0 3 ((Ta 0 3) + 1)) (fun Ta_9 => dc_b2 (fX6_readS_5 y1 Ta_9 Dr) (fun Ta_10 Dr_11 => dc_b1 (fX3_putSign v8 Dr_11) (fun Dr_13 => some (Ta_10, Dr_13))))))
def fX6_readB_5 (x1 : Int32) (Ta : ST) (Dr : ST) : Option (ST × ST) :=
  dc_b2 (fX6_readS_5 x1 Ta Dr) (fun Ta_1 Dr_2 => dc_b1 (fX6_sees 60 Ta_1) (fun r4 => (if r4 = 0 then dc_b1 (fX6_sees 61 Ta_1) (fun r15 => (if r15 = 0 then dc_b1 (fX6_sees 62 Ta_1) (fun r18 => (if r18 = 0 then some (Ta_1, Dr_2) else fX6_readB_5_32 x1 Ta_1 Dr_2)) else fX6_readB_5_32 x1 Ta_1 Dr_2)) else fX6_readB_5_32 x1 Ta_1 Dr_2)))
abbrev rmX6_readB_5 : Room := { frames := 7, cells := 0, slots := 0, locals := 173 }
set_option maxRecDepth 100000 in
set_option maxHeartbeats 4000000 in
theorem tX6_readB_5 (l : Launch) (D : va_G) (cs : Nat → ClassId) (ata : Nat → Nat) (adr : Nat → Nat) (x1 : Int32) (Ta : ST) (Dr : ST) (Taz : ST) (Drz : ST) (hf : fX6_readB_5 x1 Ta Dr = some (Taz, Drz)) : CG l yX6_readB (wsm yX6_readB cX6_readB 3 none) rmX6_readB_5 D cs [.ref (ata 0), .int x1] none ((kX6 cs ata (.ref (adr 0)) Ta) ++ ((kX3 cs adr  Dr))) ((kX6 cs ata (.ref (adr 0)) Taz) ++ ((kX3 cs adr  Drz))) := by
  refine CG.intro (by decide) (Nat.le_of_ble_eq_true rfl) ?_
  intro p e s m below meth c A Q hx hb hml hown hu hK hZ hP0 hD0 hS0 hA hri hrz hrl hrv hra ls0 hl0
  have h32 : ∀ (y1 : Int32) (Ta : ST) (Dr : ST) (H : Heap) (locs : List Loc) (ls : Array Slot), va_P D vwCl ((kX6 cs ata (.ref (adr 0)) Ta) ++ ((kX3 cs adr  Dr))) H → va_D A ((kX6 cs ata (.ref (adr 0)) Ta) ++ ((kX3 cs adr  Dr))) → va_S A s.heap H locs → lv_has ls 3 [(0, .ref (ata 0)), (1, .int y1)] → fX6_readB_5_32 y1 Ta Dr = some (Taz, Drz) → W p l e rmX6_readB_5 s m [.ref (ata 0), .int x1].toArray below meth c H locs 0 0 Q (F0 m 32 ls []) := by
    intro y1 Ta Dr H locs ls hP hD hS hl hf
    unfold fX6_readB_5_32 at hf
    refine lv_aload_n hx hb dX6_readB_32 rfl (lv_at hl 0 rfl) ?_
    refine va_get (D := D) (ci := 6) (v := .ref (ata 1)) (C := RX6) (T := TX6) (N := 5) hx hb hu inX6 hown hK.1 hP 0 rfl rfl 0 (by decide) (hu _ q259) (fun _ h9 => h9) rfl dX6_readB_33 ?_
    refine lv_aload_n hx hb dX6_readB_36 rfl (lv_at hl 0 rfl) ?_
    refine va_get (D := D) (ci := 6) (v := .int (Ta 0 3)) (C := RX6) (T := TX6) (N := 5) hx hb hu inX6 hown hK.1 hP 0 rfl rfl 3 (by decide) (hu _ q264) (fun _ h9 => h9) rfl dX6_readB_37 ?_
    obtain ⟨hi7, hf⟩ := ck_el hf
    refine va_cald hx hb hK.1 hP 1 2 rfl rfl hi7 dX6_readB_40 ?_
    obtain ⟨v8, hv8, hf⟩ := lt_el hf
    refine lv_tope hv8 ?_
    refine lv_istore_n (lv' := [(2, .int v8), (0, .ref (ata 0)), (1, .int y1)]) hx hb dX6_readB_41 rfl hl (by decide) rfl (fun ls hl => ?_)
    refine lv_aload_n hx hb dX6_readB_42 rfl (lv_at hl 1 rfl) ?_
    refine lv_dup hx hb dX6_readB_43 rfl ?_
    refine va_get (D := D) (ci := 6) (v := .int (Ta 0 3)) (C := RX6) (T := TX6) (N := 5) hx hb hu inX6 hown hK.1 hP 0 rfl rfl 3 (by decide) (hu _ q264) (fun _ h9 => h9) rfl dX6_readB_44 ?_
    refine lv_iconst (v := 1) hx hb dX6_readB_47 (by decide) ?_
    refine lv_iadd hx hb dX6_readB_48 ?_
    obtain ⟨Ta_9, hTa_9, hf⟩ := lt_el hf
    refine va_put (D := D) (ci := 6) (v := .int ((Ta 0 3) + 1)) (ty := .int) (C := RX6) (T := TX6) (N := 5) hx hb hu inX6 tyX6 tyX6_ok nmX6 hown hK.1 hP hD hS 0 rfl rfl 3 (by decide) (hu _ q264) (fun _ h9 => h9) rfl (by decide +kernel) rfl rfl (Nat.le_of_ble_eq_true rfl) dX6_readB_49 (fun H locs hP hD hS => ?_)
    have hP : va_P D vwCl ((kX6 cs ata (.ref (adr 0)) Ta_9) ++ ((kX3 cs adr  Dr))) H := by rw [hTa_9]; exact hP
    have hD : va_D A ((kX6 cs ata (.ref (adr 0)) Ta_9) ++ ((kX3 cs adr  Dr))) := by rw [hTa_9]; exact hD
    refine lv_aload_n hx hb dX6_readB_52 rfl (lv_at hl 1 rfl) ?_
    refine lv_iload_n hx hb dX6_readB_53 rfl (lv_at hl 2 rfl) ?_
    obtain ⟨Ta_10, Dr_11, hg12, hf⟩ := b2_el hf
    refine cc_V1 (w' := ((kX6 cs ata (.ref (adr 0)) Ta_10) ++ ((kX3 cs adr  Dr_11)))) (st1 := []) [.int y1] hx hb hml hown hu (tX6_readS_5 l D cs ata adr y1 Ta_9 Dr Ta_10 Dr_11 hg12) q705 q60 q702 q704 q12 pdX6_readS ⟨rfl, rfl, Nat.le_of_ble_eq_true rfl, Nat.le_of_ble_eq_true rfl⟩ hK hZ hP hD hS hA rfl rfl rfl rfl hl.1 rfl (Nat.le_of_ble_eq_true rfl) dX6_readB_54 rfl (fun H locs hP hD hS => ?_)
    refine lv_aload_n hx hb dX6_readB_57 rfl (lv_at hl 1 rfl) ?_
    refine va_get (D := D) (ci := 6) (v := .ref (adr 0)) (C := RX6) (T := TX6) (N := 5) hx hb hu inX6 hown hK.1 hP 0 rfl rfl 1 (by decide) (hu _ q260) (fun _ h9 => h9) rfl dX6_readB_58 ?_
    refine lv_iload_n hx hb dX6_readB_61 rfl (lv_at hl 0 rfl) ?_
    obtain ⟨Dr_13, hg14, hf⟩ := b1_el hf
    refine cc_V (w' := ((kX6 cs ata (.ref (adr 0)) Ta_10) ++ ((kX3 cs adr  Dr_13)))) (wr := (kX6 cs ata (.ref (adr 0)) Ta_10)) (st1 := []) [.int v8] hx hb hml hown hu (tX3_putSign l D cs adr v8 Dr_11 Dr_13 hg14) q816 q57 q813 q814 q815 pdX3_putSign ⟨rfl, rfl, Nat.le_of_ble_eq_true rfl, Nat.le_of_ble_eq_true rfl⟩ hK hZ hP hD hS hA [2, 3, 4] [0, 1] [0, 1, 2, 3, 4] rfl rfl rfl rfl rfl rfl rfl rfl rfl rfl hl.1 rfl (Nat.le_of_ble_eq_true rfl) dX6_readB_62 rfl (fun H locs hP hD hS => ?_)
    have he := Option.some.inj hf
    obtain ⟨e0, e1⟩ := Prod.mk.inj he
    exact hrv _ _ rfl rfl dX6_readB_65 _ _ _ (by rw [e0, e1]) hP hD hS
  have hl : lv_has ls0 3 [(0, .ref (ata 0)), (1, .int x1)] := hl0
  have hP := hP0
  have hD := hD0
  have hS := hS0
  unfold fX6_readB_5 at hf
  refine lv_aload_n hx hb dX6_readB_0 rfl (lv_at hl 0 rfl) ?_
  refine lv_iload_n hx hb dX6_readB_1 rfl (lv_at hl 1 rfl) ?_
  obtain ⟨Ta_1, Dr_2, hg3, hf⟩ := b2_el hf
  refine cc_V1 (w' := ((kX6 cs ata (.ref (adr 0)) Ta_1) ++ ((kX3 cs adr  Dr_2)))) (st1 := []) [.int x1] hx hb hml hown hu (tX6_readS_5 l D cs ata adr x1 Ta Dr Ta_1 Dr_2 hg3) q705 q60 q702 q704 q12 pdX6_readS ⟨rfl, rfl, Nat.le_of_ble_eq_true rfl, Nat.le_of_ble_eq_true rfl⟩ hK hZ hP hD hS hA rfl rfl rfl rfl hl.1 rfl (Nat.le_of_ble_eq_true rfl) dX6_readB_2 rfl (fun H locs hP hD hS => ?_)
  refine lv_aload_n hx hb dX6_readB_5 rfl (lv_at hl 0 rfl) ?_
  refine lv_bipush (v := 60) hx hb dX6_readB_6 (by decide) ?_
  obtain ⟨r4, hg5, hf⟩ := b1_el hf
  refine cc_V (w' := ((kX6 cs ata (.ref (adr 0)) Ta_1) ++ ((kX3 cs adr  Dr_2)))) (wr := (kX3 cs adr  Dr_2)) (st1 := [.int r4]) [.int 60] hx hb hml hown hu (tX6_sees l D cs ata adr 60 Ta_1 r4 hg5) q825 q60 q822 q824 q18 pdX6_sees ⟨rfl, rfl, Nat.le_of_ble_eq_true rfl, Nat.le_of_ble_eq_true rfl⟩ hK hZ hP hD hS hA [0, 1] [2, 3, 4] [3, 4, 0, 1, 2] rfl rfl rfl rfl rfl rfl rfl rfl rfl rfl hl.1 rfl (Nat.le_of_ble_eq_true rfl) dX6_readB_8 rfl (fun H locs hP hD hS => ?_)
  refine lv_if_ne (tgt := 32) hx hb dX6_readB_11 (by decide) (fun hc6 => ?_) (fun hc6 => ?_)
  · have hf := in_el hc6 hf
    exact h32 x1 Ta_1 Dr_2 _ _ _ hP hD hS (lv_sub hl [0, 1] rfl) hf
  · have hf := ip_el hc6 hf
    refine lv_aload_n hx hb dX6_readB_14 rfl (lv_at hl 0 rfl) ?_
    refine lv_bipush (v := 61) hx hb dX6_readB_15 (by decide) ?_
    obtain ⟨r15, hg16, hf⟩ := b1_el hf
    refine cc_V (w' := ((kX6 cs ata (.ref (adr 0)) Ta_1) ++ ((kX3 cs adr  Dr_2)))) (wr := (kX3 cs adr  Dr_2)) (st1 := [.int r15]) [.int 61] hx hb hml hown hu (tX6_sees l D cs ata adr 61 Ta_1 r15 hg16) q825 q60 q822 q824 q18 pdX6_sees ⟨rfl, rfl, Nat.le_of_ble_eq_true rfl, Nat.le_of_ble_eq_true rfl⟩ hK hZ hP hD hS hA [0, 1] [2, 3, 4] [3, 4, 0, 1, 2] rfl rfl rfl rfl rfl rfl rfl rfl rfl rfl hl.1 rfl (Nat.le_of_ble_eq_true rfl) dX6_readB_17 rfl (fun H locs hP hD hS => ?_)
    refine lv_if_ne (tgt := 32) hx hb dX6_readB_20 (by decide) (fun hc17 => ?_) (fun hc17 => ?_)
    · have hf := in_el hc17 hf
      exact h32 x1 Ta_1 Dr_2 _ _ _ hP hD hS (lv_sub hl [0, 1] rfl) hf
    · have hf := ip_el hc17 hf
      refine lv_aload_n hx hb dX6_readB_23 rfl (lv_at hl 0 rfl) ?_
      refine lv_bipush (v := 62) hx hb dX6_readB_24 (by decide) ?_
      obtain ⟨r18, hg19, hf⟩ := b1_el hf
      refine cc_V (w' := ((kX6 cs ata (.ref (adr 0)) Ta_1) ++ ((kX3 cs adr  Dr_2)))) (wr := (kX3 cs adr  Dr_2)) (st1 := [.int r18]) [.int 62] hx hb hml hown hu (tX6_sees l D cs ata adr 62 Ta_1 r18 hg19) q825 q60 q822 q824 q18 pdX6_sees ⟨rfl, rfl, Nat.le_of_ble_eq_true rfl, Nat.le_of_ble_eq_true rfl⟩ hK hZ hP hD hS hA [0, 1] [2, 3, 4] [3, 4, 0, 1, 2] rfl rfl rfl rfl rfl rfl rfl rfl rfl rfl hl.1 rfl (Nat.le_of_ble_eq_true rfl) dX6_readB_26 rfl (fun H locs hP hD hS => ?_)
      refine lv_if_eq (tgt := 65) hx hb dX6_readB_29 (by decide) (fun hc20 => ?_) (fun hc20 => ?_)
      · have hf := ip_el hc20 hf
        have he := Option.some.inj hf
        obtain ⟨e0, e1⟩ := Prod.mk.inj he
        exact hrv _ _ rfl rfl dX6_readB_65 _ _ _ (by rw [e0, e1]) hP hD hS
      · have hf := in_el hc20 hf
        exact h32 x1 Ta_1 Dr_2 _ _ _ hP hD hS (lv_sub hl [0, 1] rfl) hf

def fX6_readA_5_7_s (k7 : Int32 → Int32 → ST → ST → Option (ST × ST)) (y1 : Int32) (y2 : Int32) (Ta : ST) (Dr : ST) : Option (ST × ST) :=
  (if 80 ≤ y2 then some (Ta, Dr) else dc_b2 (fX6_takes 38 Ta) (fun r5 Ta_6 => (if r5 = 0 then some (Ta_6, Dr) else dc_b2 (fX6_readB_5 y1 Ta_6 Dr) (fun Ta_9 Dr_10 => dc_b1 (fX3_putSign 38 Dr_10) (fun Dr_12 => dc_lt (y2 + 1) (fun v14 => k7 y1 v14 Ta_9 Dr_12))))))
def fX6_readA_5_7 : Nat → Int32 → Int32 → ST → ST → Option (ST × ST)
  | 0 => fun _ _ _ _ => none
  | n + 1 => fX6_readA_5_7_s (fX6_readA_5_7 n)
def fX6_readA_5 (x1 : Int32) (Ta : ST) (Dr : ST) : Option (ST × ST) :=
  dc_b2 (fX6_readB_5 x1 Ta Dr) (fun Ta_1 Dr_2 => fX6_readA_5_7 400 x1 0 Ta_1 Dr_2)
abbrev rmX6_readA_5 : Room := { frames := 8, cells := 0, slots := 0, locals := 195 }
set_option maxRecDepth 100000 in
set_option maxHeartbeats 4000000 in
theorem tX6_readA_5 (l : Launch) (D : va_G) (cs : Nat → ClassId) (ata : Nat → Nat) (adr : Nat → Nat) (x1 : Int32) (Ta : ST) (Dr : ST) (Taz : ST) (Drz : ST) (hf : fX6_readA_5 x1 Ta Dr = some (Taz, Drz)) : CG l yX6_readA (wsm yX6_readA cX6_readA 3 none) rmX6_readA_5 D cs [.ref (ata 0), .int x1] none ((kX6 cs ata (.ref (adr 0)) Ta) ++ ((kX3 cs adr  Dr))) ((kX6 cs ata (.ref (adr 0)) Taz) ++ ((kX3 cs adr  Drz))) := by
  refine CG.intro (by decide) (Nat.le_of_ble_eq_true rfl) ?_
  intro p e s m below meth c A Q hx hb hml hown hu hK hZ hP0 hD0 hS0 hA hri hrz hrl hrv hra ls0 hl0
  have hs7 : ∀ (k7 : Int32 → Int32 → ST → ST → Option (ST × ST)), (∀ (y1 : Int32) (y2 : Int32) (Ta : ST) (Dr : ST) (H : Heap) (locs : List Loc) (ls : Array Slot), va_P D vwCl ((kX6 cs ata (.ref (adr 0)) Ta) ++ ((kX3 cs adr  Dr))) H → va_D A ((kX6 cs ata (.ref (adr 0)) Ta) ++ ((kX3 cs adr  Dr))) → va_S A s.heap H locs → lv_has ls 3 [(0, .ref (ata 0)), (1, .int y1), (2, .int y2)] → k7 y1 y2 Ta Dr = some (Taz, Drz) → W p l e rmX6_readA_5 s m [.ref (ata 0), .int x1].toArray below meth c H locs 0 0 Q (F0 m 7 ls [])) → ∀ (y1 : Int32) (y2 : Int32) (Ta : ST) (Dr : ST) (H : Heap) (locs : List Loc) (ls : Array Slot), va_P D vwCl ((kX6 cs ata (.ref (adr 0)) Ta) ++ ((kX3 cs adr  Dr))) H → va_D A ((kX6 cs ata (.ref (adr 0)) Ta) ++ ((kX3 cs adr  Dr))) → va_S A s.heap H locs → lv_has ls 3 [(0, .ref (ata 0)), (1, .int y1), (2, .int y2)] → fX6_readA_5_7_s k7 y1 y2 Ta Dr = some (Taz, Drz) → W p l e rmX6_readA_5 s m [.ref (ata 0), .int x1].toArray below meth c H locs 0 0 Q (F0 m 7 ls []) := by
    intro k7 hk7 y1 y2 Ta Dr H locs ls hP hD hS hl hf
    unfold fX6_readA_5_7_s at hf
    refine lv_iload_n hx hb dX6_readA_7 rfl (lv_at hl 2 rfl) ?_
    refine lv_bipush (v := 80) hx hb dX6_readA_8 (by decide) ?_
    refine lv_icmp_ge (tgt := 42) hx hb dX6_readA_10 (by decide) (fun hc4 => ?_) (fun hc4 => ?_)
    · have hf := ip_el hc4 hf
      have he := Option.some.inj hf
      obtain ⟨e0, e1⟩ := Prod.mk.inj he
      exact hrv _ _ rfl rfl dX6_readA_42 _ _ _ (by rw [e0, e1]) hP hD hS
    · have hf := in_el hc4 hf
      refine lv_aload_n hx hb dX6_readA_13 rfl (lv_at hl 0 rfl) ?_
      refine lv_bipush (v := 38) hx hb dX6_readA_14 (by decide) ?_
      obtain ⟨r5, Ta_6, hg7, hf⟩ := b2_el hf
      refine cc_V (w' := ((kX6 cs ata (.ref (adr 0)) Ta_6) ++ ((kX3 cs adr  Dr)))) (wr := (kX3 cs adr  Dr)) (st1 := [.int r5]) [.int 38] hx hb hml hown hu (tX6_takes l D cs ata adr 38 Ta r5 Ta_6 hg7) q821 q60 q818 q820 q17 pdX6_takes ⟨rfl, rfl, Nat.le_of_ble_eq_true rfl, Nat.le_of_ble_eq_true rfl⟩ hK hZ hP hD hS hA [0, 1] [2, 3, 4] [3, 4, 0, 1, 2] rfl rfl rfl rfl rfl rfl rfl rfl rfl rfl hl.1 rfl (Nat.le_of_ble_eq_true rfl) dX6_readA_16 rfl (fun H locs hP hD hS => ?_)
      refine lv_if_eq (tgt := 42) hx hb dX6_readA_19 (by decide) (fun hc8 => ?_) (fun hc8 => ?_)
      · have hf := ip_el hc8 hf
        have he := Option.some.inj hf
        obtain ⟨e0, e1⟩ := Prod.mk.inj he
        exact hrv _ _ rfl rfl dX6_readA_42 _ _ _ (by rw [e0, e1]) hP hD hS
      · have hf := in_el hc8 hf
        refine lv_aload_n hx hb dX6_readA_22 rfl (lv_at hl 0 rfl) ?_
        refine lv_iload_n hx hb dX6_readA_23 rfl (lv_at hl 1 rfl) ?_
        obtain ⟨Ta_9, Dr_10, hg11, hf⟩ := b2_el hf
        refine cc_V1 (w' := ((kX6 cs ata (.ref (adr 0)) Ta_9) ++ ((kX3 cs adr  Dr_10)))) (st1 := []) [.int y1] hx hb hml hown hu (tX6_readB_5 l D cs ata adr y1 Ta_6 Dr Ta_9 Dr_10 hg11) q701 q60 q698 q700 q11 pdX6_readB ⟨rfl, rfl, Nat.le_of_ble_eq_true rfl, Nat.le_of_ble_eq_true rfl⟩ hK hZ hP hD hS hA rfl rfl rfl rfl hl.1 rfl (Nat.le_of_ble_eq_true rfl) dX6_readA_24 rfl (fun H locs hP hD hS => ?_)
        refine lv_aload_n hx hb dX6_readA_27 rfl (lv_at hl 0 rfl) ?_
        refine va_get (D := D) (ci := 6) (v := .ref (adr 0)) (C := RX6) (T := TX6) (N := 5) hx hb hu inX6 hown hK.1 hP 0 rfl rfl 1 (by decide) (hu _ q260) (fun _ h9 => h9) rfl dX6_readA_28 ?_
        refine lv_bipush (v := 38) hx hb dX6_readA_31 (by decide) ?_
        obtain ⟨Dr_12, hg13, hf⟩ := b1_el hf
        refine cc_V (w' := ((kX6 cs ata (.ref (adr 0)) Ta_9) ++ ((kX3 cs adr  Dr_12)))) (wr := (kX6 cs ata (.ref (adr 0)) Ta_9)) (st1 := []) [.int 38] hx hb hml hown hu (tX3_putSign l D cs adr 38 Dr_10 Dr_12 hg13) q816 q57 q813 q814 q815 pdX3_putSign ⟨rfl, rfl, Nat.le_of_ble_eq_true rfl, Nat.le_of_ble_eq_true rfl⟩ hK hZ hP hD hS hA [2, 3, 4] [0, 1] [0, 1, 2, 3, 4] rfl rfl rfl rfl rfl rfl rfl rfl rfl rfl hl.1 rfl (Nat.le_of_ble_eq_true rfl) dX6_readA_33 rfl (fun H locs hP hD hS => ?_)
        obtain ⟨v14, hv14, hf⟩ := lt_el hf
        refine lv_iinc (v := v14) (lv' := [(2, .int v14), (0, .ref (ata 0)), (1, .int y1)]) hx hb dX6_readA_36 hl (k := 2) rfl (by rw [hv14]; rfl) (by decide) rfl (fun ls hl => ?_)
        refine lv_goto (tgt := 7) hx hb dX6_readA_39 (by decide) ?_
        exact hk7 y1 v14 Ta_9 Dr_12 _ _ _ hP hD hS (lv_sub hl [1, 2, 0] rfl) hf
  have h7 : ∀ (n : Nat), ∀ (y1 : Int32) (y2 : Int32) (Ta : ST) (Dr : ST) (H : Heap) (locs : List Loc) (ls : Array Slot), va_P D vwCl ((kX6 cs ata (.ref (adr 0)) Ta) ++ ((kX3 cs adr  Dr))) H → va_D A ((kX6 cs ata (.ref (adr 0)) Ta) ++ ((kX3 cs adr  Dr))) → va_S A s.heap H locs → lv_has ls 3 [(0, .ref (ata 0)), (1, .int y1), (2, .int y2)] → fX6_readA_5_7 n y1 y2 Ta Dr = some (Taz, Drz) → W p l e rmX6_readA_5 s m [.ref (ata 0), .int x1].toArray below meth c H locs 0 0 Q (F0 m 7 ls []) := by
    intro n
    induction n with
    | zero => intro y1 y2 Ta Dr H locs ls hP hD hS hl hf; exact no_el hf
    | succ n ih => intro y1 y2 Ta Dr H locs ls hP hD hS hl hf; exact hs7 _ ih y1 y2 Ta Dr _ _ _ hP hD hS hl hf
  have hl : lv_has ls0 3 [(0, .ref (ata 0)), (1, .int x1)] := hl0
  have hP := hP0
  have hD := hD0
  have hS := hS0
  unfold fX6_readA_5 at hf
  refine lv_aload_n hx hb dX6_readA_0 rfl (lv_at hl 0 rfl) ?_
  refine lv_iload_n hx hb dX6_readA_1 rfl (lv_at hl 1 rfl) ?_
  obtain ⟨Ta_1, Dr_2, hg3, hf⟩ := b2_el hf
  refine cc_V1 (w' := ((kX6 cs ata (.ref (adr 0)) Ta_1) ++ ((kX3 cs adr  Dr_2)))) (st1 := []) [.int x1] hx hb hml hown hu (tX6_readB_5 l D cs ata adr x1 Ta Dr Ta_1 Dr_2 hg3) q701 q60 q698 q700 q11 pdX6_readB ⟨rfl, rfl, Nat.le_of_ble_eq_true rfl, Nat.le_of_ble_eq_true rfl⟩ hK hZ hP hD hS hA rfl rfl rfl rfl hl.1 rfl (Nat.le_of_ble_eq_true rfl) dX6_readA_2 rfl (fun H locs hP hD hS => ?_)
  refine lv_iconst (v := 0) hx hb dX6_readA_5 (by decide) ?_
  refine lv_istore_n (lv' := [(2, .int 0), (0, .ref (ata 0)), (1, .int x1)]) hx hb dX6_readA_6 rfl hl (by decide) rfl (fun ls hl => ?_)
  exact h7 400 x1 0 Ta_1 Dr_2 _ _ _ hP hD hS (lv_sub hl [1, 2, 0] rfl) hf

def fX6_readT_5_7_s (k7 : Int32 → Int32 → ST → ST → Option (ST × ST)) (y1 : Int32) (y2 : Int32) (Ta : ST) (Dr : ST) : Option (ST × ST) :=
  (if 80 ≤ y2 then some (Ta, Dr) else dc_b2 (fX6_takes 124 Ta) (fun r5 Ta_6 => (if r5 = 0 then some (Ta_6, Dr) else dc_b2 (fX6_readA_5 y1 Ta_6 Dr) (fun Ta_9 Dr_10 => dc_b1 (fX3_putSign 124 Dr_10) (fun Dr_12 => dc_lt (y2 + 1) (fun v14 => k7 y1 v14 Ta_9 Dr_12))))))
def fX6_readT_5_7 : Nat → Int32 → Int32 → ST → ST → Option (ST × ST)
  | 0 => fun _ _ _ _ => none
  | n + 1 => fX6_readT_5_7_s (fX6_readT_5_7 n)
def fX6_readT_5 (x1 : Int32) (Ta : ST) (Dr : ST) : Option (ST × ST) :=
  dc_b2 (fX6_readA_5 x1 Ta Dr) (fun Ta_1 Dr_2 => fX6_readT_5_7 400 x1 0 Ta_1 Dr_2)
abbrev rmX6_readT_5 : Room := { frames := 9, cells := 0, slots := 0, locals := 217 }
set_option maxRecDepth 100000 in
set_option maxHeartbeats 4000000 in
theorem tX6_readT_5 (l : Launch) (D : va_G) (cs : Nat → ClassId) (ata : Nat → Nat) (adr : Nat → Nat) (x1 : Int32) (Ta : ST) (Dr : ST) (Taz : ST) (Drz : ST) (hf : fX6_readT_5 x1 Ta Dr = some (Taz, Drz)) : CG l yX6_readT (wsm yX6_readT cX6_readT 3 none) rmX6_readT_5 D cs [.ref (ata 0), .int x1] none ((kX6 cs ata (.ref (adr 0)) Ta) ++ ((kX3 cs adr  Dr))) ((kX6 cs ata (.ref (adr 0)) Taz) ++ ((kX3 cs adr  Drz))) := by
  refine CG.intro (by decide) (Nat.le_of_ble_eq_true rfl) ?_
  intro p e s m below meth c A Q hx hb hml hown hu hK hZ hP0 hD0 hS0 hA hri hrz hrl hrv hra ls0 hl0
  have hs7 : ∀ (k7 : Int32 → Int32 → ST → ST → Option (ST × ST)), (∀ (y1 : Int32) (y2 : Int32) (Ta : ST) (Dr : ST) (H : Heap) (locs : List Loc) (ls : Array Slot), va_P D vwCl ((kX6 cs ata (.ref (adr 0)) Ta) ++ ((kX3 cs adr  Dr))) H → va_D A ((kX6 cs ata (.ref (adr 0)) Ta) ++ ((kX3 cs adr  Dr))) → va_S A s.heap H locs → lv_has ls 3 [(0, .ref (ata 0)), (1, .int y1), (2, .int y2)] → k7 y1 y2 Ta Dr = some (Taz, Drz) → W p l e rmX6_readT_5 s m [.ref (ata 0), .int x1].toArray below meth c H locs 0 0 Q (F0 m 7 ls [])) → ∀ (y1 : Int32) (y2 : Int32) (Ta : ST) (Dr : ST) (H : Heap) (locs : List Loc) (ls : Array Slot), va_P D vwCl ((kX6 cs ata (.ref (adr 0)) Ta) ++ ((kX3 cs adr  Dr))) H → va_D A ((kX6 cs ata (.ref (adr 0)) Ta) ++ ((kX3 cs adr  Dr))) → va_S A s.heap H locs → lv_has ls 3 [(0, .ref (ata 0)), (1, .int y1), (2, .int y2)] → fX6_readT_5_7_s k7 y1 y2 Ta Dr = some (Taz, Drz) → W p l e rmX6_readT_5 s m [.ref (ata 0), .int x1].toArray below meth c H locs 0 0 Q (F0 m 7 ls []) := by
    intro k7 hk7 y1 y2 Ta Dr H locs ls hP hD hS hl hf
    unfold fX6_readT_5_7_s at hf
    refine lv_iload_n hx hb dX6_readT_7 rfl (lv_at hl 2 rfl) ?_
    refine lv_bipush (v := 80) hx hb dX6_readT_8 (by decide) ?_
    refine lv_icmp_ge (tgt := 42) hx hb dX6_readT_10 (by decide) (fun hc4 => ?_) (fun hc4 => ?_)
    · have hf := ip_el hc4 hf
      have he := Option.some.inj hf
      obtain ⟨e0, e1⟩ := Prod.mk.inj he
      exact hrv _ _ rfl rfl dX6_readT_42 _ _ _ (by rw [e0, e1]) hP hD hS
    · have hf := in_el hc4 hf
      refine lv_aload_n hx hb dX6_readT_13 rfl (lv_at hl 0 rfl) ?_
      refine lv_bipush (v := 124) hx hb dX6_readT_14 (by decide) ?_
      obtain ⟨r5, Ta_6, hg7, hf⟩ := b2_el hf
      refine cc_V (w' := ((kX6 cs ata (.ref (adr 0)) Ta_6) ++ ((kX3 cs adr  Dr)))) (wr := (kX3 cs adr  Dr)) (st1 := [.int r5]) [.int 124] hx hb hml hown hu (tX6_takes l D cs ata adr 124 Ta r5 Ta_6 hg7) q821 q60 q818 q820 q17 pdX6_takes ⟨rfl, rfl, Nat.le_of_ble_eq_true rfl, Nat.le_of_ble_eq_true rfl⟩ hK hZ hP hD hS hA [0, 1] [2, 3, 4] [3, 4, 0, 1, 2] rfl rfl rfl rfl rfl rfl rfl rfl rfl rfl hl.1 rfl (Nat.le_of_ble_eq_true rfl) dX6_readT_16 rfl (fun H locs hP hD hS => ?_)
      refine lv_if_eq (tgt := 42) hx hb dX6_readT_19 (by decide) (fun hc8 => ?_) (fun hc8 => ?_)
      · have hf := ip_el hc8 hf
        have he := Option.some.inj hf
        obtain ⟨e0, e1⟩ := Prod.mk.inj he
        exact hrv _ _ rfl rfl dX6_readT_42 _ _ _ (by rw [e0, e1]) hP hD hS
      · have hf := in_el hc8 hf
        refine lv_aload_n hx hb dX6_readT_22 rfl (lv_at hl 0 rfl) ?_
        refine lv_iload_n hx hb dX6_readT_23 rfl (lv_at hl 1 rfl) ?_
        obtain ⟨Ta_9, Dr_10, hg11, hf⟩ := b2_el hf
        refine cc_V1 (w' := ((kX6 cs ata (.ref (adr 0)) Ta_9) ++ ((kX3 cs adr  Dr_10)))) (st1 := []) [.int y1] hx hb hml hown hu (tX6_readA_5 l D cs ata adr y1 Ta_6 Dr Ta_9 Dr_10 hg11) q697 q60 q694 q696 q10 pdX6_readA ⟨rfl, rfl, Nat.le_of_ble_eq_true rfl, Nat.le_of_ble_eq_true rfl⟩ hK hZ hP hD hS hA rfl rfl rfl rfl hl.1 rfl (Nat.le_of_ble_eq_true rfl) dX6_readT_24 rfl (fun H locs hP hD hS => ?_)
        refine lv_aload_n hx hb dX6_readT_27 rfl (lv_at hl 0 rfl) ?_
        refine va_get (D := D) (ci := 6) (v := .ref (adr 0)) (C := RX6) (T := TX6) (N := 5) hx hb hu inX6 hown hK.1 hP 0 rfl rfl 1 (by decide) (hu _ q260) (fun _ h9 => h9) rfl dX6_readT_28 ?_
        refine lv_bipush (v := 124) hx hb dX6_readT_31 (by decide) ?_
        obtain ⟨Dr_12, hg13, hf⟩ := b1_el hf
        refine cc_V (w' := ((kX6 cs ata (.ref (adr 0)) Ta_9) ++ ((kX3 cs adr  Dr_12)))) (wr := (kX6 cs ata (.ref (adr 0)) Ta_9)) (st1 := []) [.int 124] hx hb hml hown hu (tX3_putSign l D cs adr 124 Dr_10 Dr_12 hg13) q816 q57 q813 q814 q815 pdX3_putSign ⟨rfl, rfl, Nat.le_of_ble_eq_true rfl, Nat.le_of_ble_eq_true rfl⟩ hK hZ hP hD hS hA [2, 3, 4] [0, 1] [0, 1, 2, 3, 4] rfl rfl rfl rfl rfl rfl rfl rfl rfl rfl hl.1 rfl (Nat.le_of_ble_eq_true rfl) dX6_readT_33 rfl (fun H locs hP hD hS => ?_)
        obtain ⟨v14, hv14, hf⟩ := lt_el hf
        refine lv_iinc (v := v14) (lv' := [(2, .int v14), (0, .ref (ata 0)), (1, .int y1)]) hx hb dX6_readT_36 hl (k := 2) rfl (by rw [hv14]; rfl) (by decide) rfl (fun ls hl => ?_)
        refine lv_goto (tgt := 7) hx hb dX6_readT_39 (by decide) ?_
        exact hk7 y1 v14 Ta_9 Dr_12 _ _ _ hP hD hS (lv_sub hl [1, 2, 0] rfl) hf
  have h7 : ∀ (n : Nat), ∀ (y1 : Int32) (y2 : Int32) (Ta : ST) (Dr : ST) (H : Heap) (locs : List Loc) (ls : Array Slot), va_P D vwCl ((kX6 cs ata (.ref (adr 0)) Ta) ++ ((kX3 cs adr  Dr))) H → va_D A ((kX6 cs ata (.ref (adr 0)) Ta) ++ ((kX3 cs adr  Dr))) → va_S A s.heap H locs → lv_has ls 3 [(0, .ref (ata 0)), (1, .int y1), (2, .int y2)] → fX6_readT_5_7 n y1 y2 Ta Dr = some (Taz, Drz) → W p l e rmX6_readT_5 s m [.ref (ata 0), .int x1].toArray below meth c H locs 0 0 Q (F0 m 7 ls []) := by
    intro n
    induction n with
    | zero => intro y1 y2 Ta Dr H locs ls hP hD hS hl hf; exact no_el hf
    | succ n ih => intro y1 y2 Ta Dr H locs ls hP hD hS hl hf; exact hs7 _ ih y1 y2 Ta Dr _ _ _ hP hD hS hl hf
  have hl : lv_has ls0 3 [(0, .ref (ata 0)), (1, .int x1)] := hl0
  have hP := hP0
  have hD := hD0
  have hS := hS0
  unfold fX6_readT_5 at hf
  refine lv_aload_n hx hb dX6_readT_0 rfl (lv_at hl 0 rfl) ?_
  refine lv_iload_n hx hb dX6_readT_1 rfl (lv_at hl 1 rfl) ?_
  obtain ⟨Ta_1, Dr_2, hg3, hf⟩ := b2_el hf
  refine cc_V1 (w' := ((kX6 cs ata (.ref (adr 0)) Ta_1) ++ ((kX3 cs adr  Dr_2)))) (st1 := []) [.int x1] hx hb hml hown hu (tX6_readA_5 l D cs ata adr x1 Ta Dr Ta_1 Dr_2 hg3) q697 q60 q694 q696 q10 pdX6_readA ⟨rfl, rfl, Nat.le_of_ble_eq_true rfl, Nat.le_of_ble_eq_true rfl⟩ hK hZ hP hD hS hA rfl rfl rfl rfl hl.1 rfl (Nat.le_of_ble_eq_true rfl) dX6_readT_2 rfl (fun H locs hP hD hS => ?_)
  refine lv_iconst (v := 0) hx hb dX6_readT_5 (by decide) ?_
  refine lv_istore_n (lv' := [(2, .int 0), (0, .ref (ata 0)), (1, .int x1)]) hx hb dX6_readT_6 rfl hl (by decide) rfl (fun ls hl => ?_)
  exact h7 400 x1 0 Ta_1 Dr_2 _ _ _ hP hD hS (lv_sub hl [1, 2, 0] rfl) hf

def fX6_readQ_4_144 (y1 : Int32) (Ta : ST) (Dr : ST) : Option (ST × ST) :=
  (if 5 ≤ y1 then dc_lt (sti Ta 0 4 1) (fun Ta_8 => some (Ta_8, Dr)) else dc_b2 (fX6_takes 40 Ta) (fun r9 Ta_10 => (if r9 = 0 then dc_lt (sti Ta_10 0 4 1) (fun Ta_13 => some (Ta_13, Dr)) else dc_b2 (fX6_readT_5 (y1 + 1) Ta_10 Dr) (fun Ta_14 Dr_15 => dc_b2 (fX6_takes 41 Ta_14) (fun r17 Ta_18 => (if r17 = 0 then dc_lt (sti Ta_18 0 4 1) (fun Ta_21 => some (Ta_21, Dr_15)) else some (Ta_18, Dr_15)))))))
def fX6_readQ_4_111 (y1 : Int32) (Ta : ST) (Dr : ST) : Option (ST × ST) :=
  (if 5 ≤ y1 then fX6_readQ_4_144 y1 Ta Dr else dc_b2 (fX6_takes 45 Ta) (fun r22 Ta_23 => (if r22 = 0 then fX6_readQ_4_144 y1 Ta_23 Dr else dc_b2 (fX6_readQ_5 (y1 + 1) Ta_23 Dr) (fun Ta_26 Dr_27 => dc_b1 (fX3_putSign 126 Dr_27) (fun Dr_29 => some (Ta_26, Dr_29))))))
def fX6_readQ_4_78 (y1 : Int32) (Ta : ST) (Dr : ST) : Option (ST × ST) :=
  (if 5 ≤ y1 then fX6_readQ_4_111 y1 Ta Dr else dc_b2 (fX6_takes 33 Ta) (fun r31 Ta_32 => (if r31 = 0 then fX6_readQ_4_111 y1 Ta_32 Dr else dc_b2 (fX6_readQ_5 (y1 + 1) Ta_32 Dr) (fun Ta_35 Dr_36 => dc_b1 (fX3_putSign 33 Dr_36) (fun Dr_38 => some (Ta_35, Dr_38))))))
def fX6_readQ_4 (x1 : Int32) (Ta : ST) (Dr : ST) : Option (ST × ST) :=
  dc_b1 (fX6_seesDigit Ta) (fun r1 => (if r1 = 0 then (if (Ta 0 4) = 0 then (if (Ta 0 2) ≤ (Ta 0 3) then fX6_readQ_4_78 x1 Ta Dr else dc_ck (Ta 0 3) 80 (dc_b1 (fJ0_indexOf_0f7a4 (Ta 1 (Int32.toNatClampNeg (Ta 0 3)))) (fun r42 => (if r42 < 0 then fX6_readQ_4_78 x1 Ta Dr else dc_ck (Ta 0 3) 80 (dc_b1 (fX3_putSign (Ta 1 (Int32.toNatClampNeg (Ta 0 3))) Dr) (fun Dr_46 => dc_lt (sti Ta 0 3 ((Ta 0 3) + 1)) (fun Ta_48 => some (Ta_48, Dr_46)))))))) else fX6_readQ_4_78 x1 Ta Dr) else dc_b2 (fX6_readNumber Ta Dr) (fun Ta_49 Dr_50 => some (Ta_49, Dr_50))))
abbrev rmX6_readQ_4 : Room := { frames := 10, cells := 0, slots := 0, locals := 239 }
set_option maxRecDepth 100000 in
set_option maxHeartbeats 4000000 in
theorem tX6_readQ_4 (l : Launch) (D : va_G) (cs : Nat → ClassId) (ata : Nat → Nat) (adr : Nat → Nat) (x1 : Int32) (Ta : ST) (Dr : ST) (Taz : ST) (Drz : ST) (hf : fX6_readQ_4 x1 Ta Dr = some (Taz, Drz)) : CG l yX6_readQ (wsm yX6_readQ cX6_readQ 2 none) rmX6_readQ_4 D cs [.ref (ata 0), .int x1] none ((kX6 cs ata (.ref (adr 0)) Ta) ++ ((kX3 cs adr  Dr))) ((kX6 cs ata (.ref (adr 0)) Taz) ++ ((kX3 cs adr  Drz))) := by
  refine CG.intro (by decide) (Nat.le_of_ble_eq_true rfl) ?_
  intro p e s m below meth c A Q hx hb hml hown hu hK hZ hP0 hD0 hS0 hA hri hrz hrl hrv hra ls0 hl0
  have h144 : ∀ (y1 : Int32) (Ta : ST) (Dr : ST) (H : Heap) (locs : List Loc) (ls : Array Slot), va_P D vwCl ((kX6 cs ata (.ref (adr 0)) Ta) ++ ((kX3 cs adr  Dr))) H → va_D A ((kX6 cs ata (.ref (adr 0)) Ta) ++ ((kX3 cs adr  Dr))) → va_S A s.heap H locs → lv_has ls 2 [(0, .ref (ata 0)), (1, .int y1)] → fX6_readQ_4_144 y1 Ta Dr = some (Taz, Drz) → W p l e rmX6_readQ_4 s m [.ref (ata 0), .int x1].toArray below meth c H locs 0 0 Q (F0 m 144 ls []) := by
    intro y1 Ta Dr H locs ls hP hD hS hl hf
    unfold fX6_readQ_4_144 at hf
    refine lv_iload_n hx hb dX6_readQ_144 rfl (lv_at hl 1 rfl) ?_
    refine lv_iconst (v := 5) hx hb dX6_readQ_145 (by decide) ?_
    refine lv_icmp_ge (tgt := 182) hx hb dX6_readQ_146 (by decide) (fun hc7 => ?_) (fun hc7 => ?_)
    · have hf := ip_el hc7 hf
      refine lv_aload_n hx hb dX6_readQ_182 rfl (lv_at hl 0 rfl) ?_
      refine lv_iconst (v := 1) hx hb dX6_readQ_183 (by decide) ?_
      obtain ⟨Ta_8, hTa_8, hf⟩ := lt_el hf
      refine va_put (D := D) (ci := 6) (v := .int 1) (ty := .boolean) (C := RX6) (T := TX6) (N := 5) hx hb hu inX6 tyX6 tyX6_ok nmX6 hown hK.1 hP hD hS 0 rfl rfl 4 (by decide) (hu _ q266) (fun _ h9 => h9) rfl (by decide +kernel) rfl rfl (Nat.le_of_ble_eq_true rfl) dX6_readQ_184 (fun H locs hP hD hS => ?_)
      have hP : va_P D vwCl ((kX6 cs ata (.ref (adr 0)) Ta_8) ++ ((kX3 cs adr  Dr))) H := by rw [hTa_8]; exact hP
      have hD : va_D A ((kX6 cs ata (.ref (adr 0)) Ta_8) ++ ((kX3 cs adr  Dr))) := by rw [hTa_8]; exact hD
      have he := Option.some.inj hf
      obtain ⟨e0, e1⟩ := Prod.mk.inj he
      exact hrv _ _ rfl rfl dX6_readQ_187 _ _ _ (by rw [e0, e1]) hP hD hS
    · have hf := in_el hc7 hf
      refine lv_aload_n hx hb dX6_readQ_149 rfl (lv_at hl 0 rfl) ?_
      refine lv_bipush (v := 40) hx hb dX6_readQ_150 (by decide) ?_
      obtain ⟨r9, Ta_10, hg11, hf⟩ := b2_el hf
      refine cc_V (w' := ((kX6 cs ata (.ref (adr 0)) Ta_10) ++ ((kX3 cs adr  Dr)))) (wr := (kX3 cs adr  Dr)) (st1 := [.int r9]) [.int 40] hx hb hml hown hu (tX6_takes l D cs ata adr 40 Ta r9 Ta_10 hg11) q821 q60 q818 q820 q17 pdX6_takes ⟨rfl, rfl, Nat.le_of_ble_eq_true rfl, Nat.le_of_ble_eq_true rfl⟩ hK hZ hP hD hS hA [0, 1] [2, 3, 4] [3, 4, 0, 1, 2] rfl rfl rfl rfl rfl rfl rfl rfl rfl rfl hl.1 rfl (Nat.le_of_ble_eq_true rfl) dX6_readQ_152 rfl (fun H locs hP hD hS => ?_)
      refine lv_if_eq (tgt := 182) hx hb dX6_readQ_155 (by decide) (fun hc12 => ?_) (fun hc12 => ?_)
      · have hf := ip_el hc12 hf
        refine lv_aload_n hx hb dX6_readQ_182 rfl (lv_at hl 0 rfl) ?_
        refine lv_iconst (v := 1) hx hb dX6_readQ_183 (by decide) ?_
        obtain ⟨Ta_13, hTa_13, hf⟩ := lt_el hf
        refine va_put (D := D) (ci := 6) (v := .int 1) (ty := .boolean) (C := RX6) (T := TX6) (N := 5) hx hb hu inX6 tyX6 tyX6_ok nmX6 hown hK.1 hP hD hS 0 rfl rfl 4 (by decide) (hu _ q266) (fun _ h9 => h9) rfl (by decide +kernel) rfl rfl (Nat.le_of_ble_eq_true rfl) dX6_readQ_184 (fun H locs hP hD hS => ?_)
        have hP : va_P D vwCl ((kX6 cs ata (.ref (adr 0)) Ta_13) ++ ((kX3 cs adr  Dr))) H := by rw [hTa_13]; exact hP
        have hD : va_D A ((kX6 cs ata (.ref (adr 0)) Ta_13) ++ ((kX3 cs adr  Dr))) := by rw [hTa_13]; exact hD
        have he := Option.some.inj hf
        obtain ⟨e0, e1⟩ := Prod.mk.inj he
        exact hrv _ _ rfl rfl dX6_readQ_187 _ _ _ (by rw [e0, e1]) hP hD hS
      · have hf := in_el hc12 hf
        refine lv_aload_n hx hb dX6_readQ_158 rfl (lv_at hl 0 rfl) ?_
        refine lv_iload_n hx hb dX6_readQ_159 rfl (lv_at hl 1 rfl) ?_
        refine lv_iconst (v := 1) hx hb dX6_readQ_160 (by decide) ?_
        refine lv_iadd hx hb dX6_readQ_161 ?_
        obtain ⟨Ta_14, Dr_15, hg16, hf⟩ := b2_el hf
        refine cc_V1 (w' := ((kX6 cs ata (.ref (adr 0)) Ta_14) ++ ((kX3 cs adr  Dr_15)))) (st1 := []) [.int (y1 + 1)] hx hb hml hown hu (tX6_readT_5 l D cs ata adr (y1 + 1) Ta_10 Dr Ta_14 Dr_15 hg16) q693 q60 q690 q692 q9 pdX6_readT ⟨rfl, rfl, Nat.le_of_ble_eq_true rfl, Nat.le_of_ble_eq_true rfl⟩ hK hZ hP hD hS hA rfl rfl rfl rfl hl.1 rfl (Nat.le_of_ble_eq_true rfl) dX6_readQ_162 rfl (fun H locs hP hD hS => ?_)
        refine lv_aload_n hx hb dX6_readQ_165 rfl (lv_at hl 0 rfl) ?_
        refine lv_bipush (v := 41) hx hb dX6_readQ_166 (by decide) ?_
        obtain ⟨r17, Ta_18, hg19, hf⟩ := b2_el hf
        refine cc_V (w' := ((kX6 cs ata (.ref (adr 0)) Ta_18) ++ ((kX3 cs adr  Dr_15)))) (wr := (kX3 cs adr  Dr_15)) (st1 := [.int r17]) [.int 41] hx hb hml hown hu (tX6_takes l D cs ata adr 41 Ta_14 r17 Ta_18 hg19) q821 q60 q818 q820 q17 pdX6_takes ⟨rfl, rfl, Nat.le_of_ble_eq_true rfl, Nat.le_of_ble_eq_true rfl⟩ hK hZ hP hD hS hA [0, 1] [2, 3, 4] [3, 4, 0, 1, 2] rfl rfl rfl rfl rfl rfl rfl rfl rfl rfl hl.1 rfl (Nat.le_of_ble_eq_true rfl) dX6_readQ_168 rfl (fun H locs hP hD hS => ?_)
        refine lv_if_ne (tgt := 187) hx hb dX6_readQ_171 (by decide) (fun hc20 => ?_) (fun hc20 => ?_)
        · have hf := in_el hc20 hf
          have he := Option.some.inj hf
          obtain ⟨e0, e1⟩ := Prod.mk.inj he
          exact hrv _ _ rfl rfl dX6_readQ_187 _ _ _ (by rw [e0, e1]) hP hD hS
        · have hf := ip_el hc20 hf
          refine lv_aload_n hx hb dX6_readQ_174 rfl (lv_at hl 0 rfl) ?_
          refine lv_iconst (v := 1) hx hb dX6_readQ_175 (by decide) ?_
          obtain ⟨Ta_21, hTa_21, hf⟩ := lt_el hf
          refine va_put (D := D) (ci := 6) (v := .int 1) (ty := .boolean) (C := RX6) (T := TX6) (N := 5) hx hb hu inX6 tyX6 tyX6_ok nmX6 hown hK.1 hP hD hS 0 rfl rfl 4 (by decide) (hu _ q266) (fun _ h9 => h9) rfl (by decide +kernel) rfl rfl (Nat.le_of_ble_eq_true rfl) dX6_readQ_176 (fun H locs hP hD hS => ?_)
          have hP : va_P D vwCl ((kX6 cs ata (.ref (adr 0)) Ta_21) ++ ((kX3 cs adr  Dr_15))) H := by rw [hTa_21]; exact hP
          have hD : va_D A ((kX6 cs ata (.ref (adr 0)) Ta_21) ++ ((kX3 cs adr  Dr_15))) := by rw [hTa_21]; exact hD
          refine lv_goto (tgt := 187) hx hb dX6_readQ_179 (by decide) ?_
          have he := Option.some.inj hf
          obtain ⟨e0, e1⟩ := Prod.mk.inj he
          exact hrv _ _ rfl rfl dX6_readQ_187 _ _ _ (by rw [e0, e1]) hP hD hS
  have h111 : ∀ (y1 : Int32) (Ta : ST) (Dr : ST) (H : Heap) (locs : List Loc) (ls : Array Slot), va_P D vwCl ((kX6 cs ata (.ref (adr 0)) Ta) ++ ((kX3 cs adr  Dr))) H → va_D A ((kX6 cs ata (.ref (adr 0)) Ta) ++ ((kX3 cs adr  Dr))) → va_S A s.heap H locs → lv_has ls 2 [(0, .ref (ata 0)), (1, .int y1)] → fX6_readQ_4_111 y1 Ta Dr = some (Taz, Drz) → W p l e rmX6_readQ_4 s m [.ref (ata 0), .int x1].toArray below meth c H locs 0 0 Q (F0 m 111 ls []) := by
    intro y1 Ta Dr H locs ls hP hD hS hl hf
    unfold fX6_readQ_4_111 at hf
    refine lv_iload_n hx hb dX6_readQ_111 rfl (lv_at hl 1 rfl) ?_
    refine lv_iconst (v := 5) hx hb dX6_readQ_112 (by decide) ?_
    refine lv_icmp_ge (tgt := 144) hx hb dX6_readQ_113 (by decide) (fun hc6 => ?_) (fun hc6 => ?_)
    · have hf := ip_el hc6 hf
      exact h144 y1 Ta Dr _ _ _ hP hD hS (lv_sub hl [0, 1] rfl) hf
    · have hf := in_el hc6 hf
      refine lv_aload_n hx hb dX6_readQ_116 rfl (lv_at hl 0 rfl) ?_
      refine lv_bipush (v := 45) hx hb dX6_readQ_117 (by decide) ?_
      obtain ⟨r22, Ta_23, hg24, hf⟩ := b2_el hf
      refine cc_V (w' := ((kX6 cs ata (.ref (adr 0)) Ta_23) ++ ((kX3 cs adr  Dr)))) (wr := (kX3 cs adr  Dr)) (st1 := [.int r22]) [.int 45] hx hb hml hown hu (tX6_takes l D cs ata adr 45 Ta r22 Ta_23 hg24) q821 q60 q818 q820 q17 pdX6_takes ⟨rfl, rfl, Nat.le_of_ble_eq_true rfl, Nat.le_of_ble_eq_true rfl⟩ hK hZ hP hD hS hA [0, 1] [2, 3, 4] [3, 4, 0, 1, 2] rfl rfl rfl rfl rfl rfl rfl rfl rfl rfl hl.1 rfl (Nat.le_of_ble_eq_true rfl) dX6_readQ_119 rfl (fun H locs hP hD hS => ?_)
      refine lv_if_eq (tgt := 144) hx hb dX6_readQ_122 (by decide) (fun hc25 => ?_) (fun hc25 => ?_)
      · have hf := ip_el hc25 hf
        exact h144 y1 Ta_23 Dr _ _ _ hP hD hS (lv_sub hl [0, 1] rfl) hf
      · have hf := in_el hc25 hf
        refine lv_aload_n hx hb dX6_readQ_125 rfl (lv_at hl 0 rfl) ?_
        refine lv_iload_n hx hb dX6_readQ_126 rfl (lv_at hl 1 rfl) ?_
        refine lv_iconst (v := 1) hx hb dX6_readQ_127 (by decide) ?_
        refine lv_iadd hx hb dX6_readQ_128 ?_
        obtain ⟨Ta_26, Dr_27, hg28, hf⟩ := b2_el hf
        refine cc_V1 (w' := ((kX6 cs ata (.ref (adr 0)) Ta_26) ++ ((kX3 cs adr  Dr_27)))) (st1 := []) [.int (y1 + 1)] hx hb hml hown hu (tX6_readQ_5 l D cs ata adr (y1 + 1) Ta_23 Dr Ta_26 Dr_27 hg28) q713 q60 q710 q712 q14 pdX6_readQ ⟨rfl, rfl, Nat.le_of_ble_eq_true rfl, Nat.le_of_ble_eq_true rfl⟩ hK hZ hP hD hS hA rfl rfl rfl rfl hl.1 rfl (Nat.le_of_ble_eq_true rfl) dX6_readQ_129 rfl (fun H locs hP hD hS => ?_)
        refine lv_aload_n hx hb dX6_readQ_132 rfl (lv_at hl 0 rfl) ?_
        refine va_get (D := D) (ci := 6) (v := .ref (adr 0)) (C := RX6) (T := TX6) (N := 5) hx hb hu inX6 hown hK.1 hP 0 rfl rfl 1 (by decide) (hu _ q260) (fun _ h9 => h9) rfl dX6_readQ_133 ?_
        refine lv_bipush (v := 126) hx hb dX6_readQ_136 (by decide) ?_
        obtain ⟨Dr_29, hg30, hf⟩ := b1_el hf
        refine cc_V (w' := ((kX6 cs ata (.ref (adr 0)) Ta_26) ++ ((kX3 cs adr  Dr_29)))) (wr := (kX6 cs ata (.ref (adr 0)) Ta_26)) (st1 := []) [.int 126] hx hb hml hown hu (tX3_putSign l D cs adr 126 Dr_27 Dr_29 hg30) q816 q57 q813 q814 q815 pdX3_putSign ⟨rfl, rfl, Nat.le_of_ble_eq_true rfl, Nat.le_of_ble_eq_true rfl⟩ hK hZ hP hD hS hA [2, 3, 4] [0, 1] [0, 1, 2, 3, 4] rfl rfl rfl rfl rfl rfl rfl rfl rfl rfl hl.1 rfl (Nat.le_of_ble_eq_true rfl) dX6_readQ_138 rfl (fun H locs hP hD hS => ?_)
        refine lv_goto (tgt := 187) hx hb dX6_readQ_141 (by decide) ?_
        have he := Option.some.inj hf
        obtain ⟨e0, e1⟩ := Prod.mk.inj he
        exact hrv _ _ rfl rfl dX6_readQ_187 _ _ _ (by rw [e0, e1]) hP hD hS
  have h78 : ∀ (y1 : Int32) (Ta : ST) (Dr : ST) (H : Heap) (locs : List Loc) (ls : Array Slot), va_P D vwCl ((kX6 cs ata (.ref (adr 0)) Ta) ++ ((kX3 cs adr  Dr))) H → va_D A ((kX6 cs ata (.ref (adr 0)) Ta) ++ ((kX3 cs adr  Dr))) → va_S A s.heap H locs → lv_has ls 2 [(0, .ref (ata 0)), (1, .int y1)] → fX6_readQ_4_78 y1 Ta Dr = some (Taz, Drz) → W p l e rmX6_readQ_4 s m [.ref (ata 0), .int x1].toArray below meth c H locs 0 0 Q (F0 m 78 ls []) := by
    intro y1 Ta Dr H locs ls hP hD hS hl hf
    unfold fX6_readQ_4_78 at hf
    refine lv_iload_n hx hb dX6_readQ_78 rfl (lv_at hl 1 rfl) ?_
    refine lv_iconst (v := 5) hx hb dX6_readQ_79 (by decide) ?_
    refine lv_icmp_ge (tgt := 111) hx hb dX6_readQ_80 (by decide) (fun hc5 => ?_) (fun hc5 => ?_)
    · have hf := ip_el hc5 hf
      exact h111 y1 Ta Dr _ _ _ hP hD hS (lv_sub hl [0, 1] rfl) hf
    · have hf := in_el hc5 hf
      refine lv_aload_n hx hb dX6_readQ_83 rfl (lv_at hl 0 rfl) ?_
      refine lv_bipush (v := 33) hx hb dX6_readQ_84 (by decide) ?_
      obtain ⟨r31, Ta_32, hg33, hf⟩ := b2_el hf
      refine cc_V (w' := ((kX6 cs ata (.ref (adr 0)) Ta_32) ++ ((kX3 cs adr  Dr)))) (wr := (kX3 cs adr  Dr)) (st1 := [.int r31]) [.int 33] hx hb hml hown hu (tX6_takes l D cs ata adr 33 Ta r31 Ta_32 hg33) q821 q60 q818 q820 q17 pdX6_takes ⟨rfl, rfl, Nat.le_of_ble_eq_true rfl, Nat.le_of_ble_eq_true rfl⟩ hK hZ hP hD hS hA [0, 1] [2, 3, 4] [3, 4, 0, 1, 2] rfl rfl rfl rfl rfl rfl rfl rfl rfl rfl hl.1 rfl (Nat.le_of_ble_eq_true rfl) dX6_readQ_86 rfl (fun H locs hP hD hS => ?_)
      refine lv_if_eq (tgt := 111) hx hb dX6_readQ_89 (by decide) (fun hc34 => ?_) (fun hc34 => ?_)
      · have hf := ip_el hc34 hf
        exact h111 y1 Ta_32 Dr _ _ _ hP hD hS (lv_sub hl [0, 1] rfl) hf
      · have hf := in_el hc34 hf
        refine lv_aload_n hx hb dX6_readQ_92 rfl (lv_at hl 0 rfl) ?_
        refine lv_iload_n hx hb dX6_readQ_93 rfl (lv_at hl 1 rfl) ?_
        refine lv_iconst (v := 1) hx hb dX6_readQ_94 (by decide) ?_
        refine lv_iadd hx hb dX6_readQ_95 ?_
        obtain ⟨Ta_35, Dr_36, hg37, hf⟩ := b2_el hf
        refine cc_V1 (w' := ((kX6 cs ata (.ref (adr 0)) Ta_35) ++ ((kX3 cs adr  Dr_36)))) (st1 := []) [.int (y1 + 1)] hx hb hml hown hu (tX6_readQ_5 l D cs ata adr (y1 + 1) Ta_32 Dr Ta_35 Dr_36 hg37) q713 q60 q710 q712 q14 pdX6_readQ ⟨rfl, rfl, Nat.le_of_ble_eq_true rfl, Nat.le_of_ble_eq_true rfl⟩ hK hZ hP hD hS hA rfl rfl rfl rfl hl.1 rfl (Nat.le_of_ble_eq_true rfl) dX6_readQ_96 rfl (fun H locs hP hD hS => ?_)
        refine lv_aload_n hx hb dX6_readQ_99 rfl (lv_at hl 0 rfl) ?_
        refine va_get (D := D) (ci := 6) (v := .ref (adr 0)) (C := RX6) (T := TX6) (N := 5) hx hb hu inX6 hown hK.1 hP 0 rfl rfl 1 (by decide) (hu _ q260) (fun _ h9 => h9) rfl dX6_readQ_100 ?_
        refine lv_bipush (v := 33) hx hb dX6_readQ_103 (by decide) ?_
        obtain ⟨Dr_38, hg39, hf⟩ := b1_el hf
        refine cc_V (w' := ((kX6 cs ata (.ref (adr 0)) Ta_35) ++ ((kX3 cs adr  Dr_38)))) (wr := (kX6 cs ata (.ref (adr 0)) Ta_35)) (st1 := []) [.int 33] hx hb hml hown hu (tX3_putSign l D cs adr 33 Dr_36 Dr_38 hg39) q816 q57 q813 q814 q815 pdX3_putSign ⟨rfl, rfl, Nat.le_of_ble_eq_true rfl, Nat.le_of_ble_eq_true rfl⟩ hK hZ hP hD hS hA [2, 3, 4] [0, 1] [0, 1, 2, 3, 4] rfl rfl rfl rfl rfl rfl rfl rfl rfl rfl hl.1 rfl (Nat.le_of_ble_eq_true rfl) dX6_readQ_105 rfl (fun H locs hP hD hS => ?_)
        refine lv_goto (tgt := 187) hx hb dX6_readQ_108 (by decide) ?_
        have he := Option.some.inj hf
        obtain ⟨e0, e1⟩ := Prod.mk.inj he
        exact hrv _ _ rfl rfl dX6_readQ_187 _ _ _ (by rw [e0, e1]) hP hD hS
  have hl : lv_has ls0 2 [(0, .ref (ata 0)), (1, .int x1)] := hl0
  have hP := hP0
  have hD := hD0
  have hS := hS0
  unfold fX6_readQ_4 at hf
  refine lv_aload_n hx hb dX6_readQ_0 rfl (lv_at hl 0 rfl) ?_
  obtain ⟨r1, hg2, hf⟩ := b1_el hf
  refine cc_V (w' := ((kX6 cs ata (.ref (adr 0)) Ta) ++ ((kX3 cs adr  Dr)))) (wr := (kX3 cs adr  Dr)) (st1 := [.int r1]) [] hx hb hml hown hu (tX6_seesDigit l D cs ata adr Ta r1 hg2) q717 q60 q714 q716 q15 pdX6_seesDigit ⟨rfl, rfl, Nat.le_of_ble_eq_true rfl, Nat.le_of_ble_eq_true rfl⟩ hK hZ hP hD hS hA [0, 1] [2, 3, 4] [3, 4, 0, 1, 2] rfl rfl rfl rfl rfl rfl rfl rfl rfl rfl hl.1 rfl (Nat.le_of_ble_eq_true rfl) dX6_readQ_1 rfl (fun H locs hP hD hS => ?_)
  refine lv_if_eq (tgt := 14) hx hb dX6_readQ_4 (by decide) (fun hc3 => ?_) (fun hc3 => ?_)
  · have hf := ip_el hc3 hf
    refine lv_aload_n hx hb dX6_readQ_14 rfl (lv_at hl 0 rfl) ?_
    refine va_get (D := D) (ci := 6) (v := .int (Ta 0 4)) (C := RX6) (T := TX6) (N := 5) hx hb hu inX6 hown hK.1 hP 0 rfl rfl 4 (by decide) (hu _ q266) (fun _ h9 => h9) rfl dX6_readQ_15 ?_
    refine lv_if_ne (tgt := 78) hx hb dX6_readQ_18 (by decide) (fun hc4 => ?_) (fun hc4 => ?_)
    · have hf := in_el hc4 hf
      exact h78 x1 Ta Dr _ _ _ hP hD hS (lv_sub hl [0, 1] rfl) hf
    · have hf := ip_el hc4 hf
      refine lv_aload_n hx hb dX6_readQ_21 rfl (lv_at hl 0 rfl) ?_
      refine va_get (D := D) (ci := 6) (v := .int (Ta 0 3)) (C := RX6) (T := TX6) (N := 5) hx hb hu inX6 hown hK.1 hP 0 rfl rfl 3 (by decide) (hu _ q264) (fun _ h9 => h9) rfl dX6_readQ_22 ?_
      refine lv_aload_n hx hb dX6_readQ_25 rfl (lv_at hl 0 rfl) ?_
      refine va_get (D := D) (ci := 6) (v := .int (Ta 0 2)) (C := RX6) (T := TX6) (N := 5) hx hb hu inX6 hown hK.1 hP 0 rfl rfl 2 (by decide) (hu _ q262) (fun _ h9 => h9) rfl dX6_readQ_26 ?_
      refine lv_icmp_ge (tgt := 78) hx hb dX6_readQ_29 (by decide) (fun hc40 => ?_) (fun hc40 => ?_)
      · have hf := ip_el hc40 hf
        exact h78 x1 Ta Dr _ _ _ hP hD hS (lv_sub hl [0, 1] rfl) hf
      · have hf := in_el hc40 hf
        refine va_ldcS hx hb hown hZ.2.2.2.2.1 dX6_readQ_32 ?_
        refine lv_aload_n hx hb dX6_readQ_34 rfl (lv_at hl 0 rfl) ?_
        refine va_get (D := D) (ci := 6) (v := .ref (ata 1)) (C := RX6) (T := TX6) (N := 5) hx hb hu inX6 hown hK.1 hP 0 rfl rfl 0 (by decide) (hu _ q259) (fun _ h9 => h9) rfl dX6_readQ_35 ?_
        refine lv_aload_n hx hb dX6_readQ_38 rfl (lv_at hl 0 rfl) ?_
        refine va_get (D := D) (ci := 6) (v := .int (Ta 0 3)) (C := RX6) (T := TX6) (N := 5) hx hb hu inX6 hown hK.1 hP 0 rfl rfl 3 (by decide) (hu _ q264) (fun _ h9 => h9) rfl dX6_readQ_39 ?_
        obtain ⟨hi41, hf⟩ := ck_el hf
        refine va_cald hx hb hK.1 hP 1 2 rfl rfl hi41 dX6_readQ_42 ?_
        obtain ⟨r42, hg43, hf⟩ := b1_el hf
        refine cc_Z0 (st1 := [.int r42]) [.int (Ta 1 (Int32.toNatClampNeg (Ta 0 3)))] hx hb hml hown hu (tJ0_indexOf_0f7a4 l D cs (Ta 1 (Int32.toNatClampNeg (Ta 0 3))) r42 hg43) q730 q66 q727 q728 q729 pdJ0_indexOf_0f7a4 ⟨rfl, rfl, Nat.le_of_ble_eq_true rfl, Nat.le_of_ble_eq_true rfl⟩ hK hZ hP hD hS hA (vk_recv hZ.2.2.2.2.2 (i := 0) (by decide) hS) rfl hl.1 rfl (Nat.le_of_ble_eq_true rfl) dX6_readQ_43 rfl (fun H locs hP hD hS => ?_)
        refine lv_if_lt (tgt := 78) hx hb dX6_readQ_46 (by decide) (fun hc44 => ?_) (fun hc44 => ?_)
        · have hf := ip_el hc44 hf
          exact h78 x1 Ta Dr _ _ _ hP hD hS (lv_sub hl [0, 1] rfl) hf
        · have hf := in_el hc44 hf
          refine lv_aload_n hx hb dX6_readQ_49 rfl (lv_at hl 0 rfl) ?_
          refine va_get (D := D) (ci := 6) (v := .ref (adr 0)) (C := RX6) (T := TX6) (N := 5) hx hb hu inX6 hown hK.1 hP 0 rfl rfl 1 (by decide) (hu _ q260) (fun _ h9 => h9) rfl dX6_readQ_50 ?_
          refine lv_aload_n hx hb dX6_readQ_53 rfl (lv_at hl 0 rfl) ?_
          refine va_get (D := D) (ci := 6) (v := .ref (ata 1)) (C := RX6) (T := TX6) (N := 5) hx hb hu inX6 hown hK.1 hP 0 rfl rfl 0 (by decide) (hu _ q259) (fun _ h9 => h9) rfl dX6_readQ_54 ?_
          refine lv_aload_n hx hb dX6_readQ_57 rfl (lv_at hl 0 rfl) ?_
          refine va_get (D := D) (ci := 6) (v := .int (Ta 0 3)) (C := RX6) (T := TX6) (N := 5) hx hb hu inX6 hown hK.1 hP 0 rfl rfl 3 (by decide) (hu _ q264) (fun _ h9 => h9) rfl dX6_readQ_58 ?_
          obtain ⟨hi45, hf⟩ := ck_el hf
          refine va_cald hx hb hK.1 hP 1 2 rfl rfl hi45 dX6_readQ_61 ?_
          obtain ⟨Dr_46, hg47, hf⟩ := b1_el hf
          refine cc_V (w' := ((kX6 cs ata (.ref (adr 0)) Ta) ++ ((kX3 cs adr  Dr_46)))) (wr := (kX6 cs ata (.ref (adr 0)) Ta)) (st1 := []) [.int (Ta 1 (Int32.toNatClampNeg (Ta 0 3)))] hx hb hml hown hu (tX3_putSign l D cs adr (Ta 1 (Int32.toNatClampNeg (Ta 0 3))) Dr Dr_46 hg47) q816 q57 q813 q814 q815 pdX3_putSign ⟨rfl, rfl, Nat.le_of_ble_eq_true rfl, Nat.le_of_ble_eq_true rfl⟩ hK hZ hP hD hS hA [2, 3, 4] [0, 1] [0, 1, 2, 3, 4] rfl rfl rfl rfl rfl rfl rfl rfl rfl rfl hl.1 rfl (Nat.le_of_ble_eq_true rfl) dX6_readQ_62 rfl (fun H locs hP hD hS => ?_)
          refine lv_aload_n hx hb dX6_readQ_65 rfl (lv_at hl 0 rfl) ?_
          refine lv_dup hx hb dX6_readQ_66 rfl ?_
          refine va_get (D := D) (ci := 6) (v := .int (Ta 0 3)) (C := RX6) (T := TX6) (N := 5) hx hb hu inX6 hown hK.1 hP 0 rfl rfl 3 (by decide) (hu _ q264) (fun _ h9 => h9) rfl dX6_readQ_67 ?_
          refine lv_iconst (v := 1) hx hb dX6_readQ_70 (by decide) ?_
          refine lv_iadd hx hb dX6_readQ_71 ?_
          obtain ⟨Ta_48, hTa_48, hf⟩ := lt_el hf
          refine va_put (D := D) (ci := 6) (v := .int ((Ta 0 3) + 1)) (ty := .int) (C := RX6) (T := TX6) (N := 5) hx hb hu inX6 tyX6 tyX6_ok nmX6 hown hK.1 hP hD hS 0 rfl rfl 3 (by decide) (hu _ q264) (fun _ h9 => h9) rfl (by decide +kernel) rfl rfl (Nat.le_of_ble_eq_true rfl) dX6_readQ_72 (fun H locs hP hD hS => ?_)
          have hP : va_P D vwCl ((kX6 cs ata (.ref (adr 0)) Ta_48) ++ ((kX3 cs adr  Dr_46))) H := by rw [hTa_48]; exact hP
          have hD : va_D A ((kX6 cs ata (.ref (adr 0)) Ta_48) ++ ((kX3 cs adr  Dr_46))) := by rw [hTa_48]; exact hD
          refine lv_goto (tgt := 187) hx hb dX6_readQ_75 (by decide) ?_
          have he := Option.some.inj hf
          obtain ⟨e0, e1⟩ := Prod.mk.inj he
          exact hrv _ _ rfl rfl dX6_readQ_187 _ _ _ (by rw [e0, e1]) hP hD hS
  · have hf := in_el hc3 hf
    refine lv_aload_n hx hb dX6_readQ_7 rfl (lv_at hl 0 rfl) ?_
    obtain ⟨Ta_49, Dr_50, hg51, hf⟩ := b2_el hf
    refine cc_V1 (w' := ((kX6 cs ata (.ref (adr 0)) Ta_49) ++ ((kX3 cs adr  Dr_50)))) (st1 := []) [] hx hb hml hown hu (tX6_readNumber l D cs ata adr Ta Dr Ta_49 Dr_50 hg51) q721 q60 q718 q720 q16 pdX6_readNumber ⟨rfl, rfl, Nat.le_of_ble_eq_true rfl, Nat.le_of_ble_eq_true rfl⟩ hK hZ hP hD hS hA rfl rfl rfl rfl hl.1 rfl (Nat.le_of_ble_eq_true rfl) dX6_readQ_8 rfl (fun H locs hP hD hS => ?_)
    refine lv_goto (tgt := 187) hx hb dX6_readQ_11 (by decide) ?_
    have he := Option.some.inj hf
    obtain ⟨e0, e1⟩ := Prod.mk.inj he
    exact hrv _ _ rfl rfl dX6_readQ_187 _ _ _ (by rw [e0, e1]) hP hD hS

def fX6_readP_4_40 (k7 : Int32 → Int32 → ST → ST → Option (ST × ST)) (y1 : Int32) (y2 : Int32) (Ta : ST) (Dr : ST) : Option (ST × ST) :=
  dc_ck (Ta 0 3) 80 (dc_lt (Ta 1 (Int32.toNatClampNeg (Ta 0 3))) (fun v9 => dc_lt (sti Ta 0 3 ((Ta 0 3) + 1)) (fun Ta_10 => dc_b2 (fX6_readQ_4 y1 Ta_10 Dr) (fun Ta_11 Dr_12 => dc_b1 (fX3_putSign v9 Dr_12) (fun Dr_14 => dc_lt (y2 + 1) (fun v16 => k7 y1 v16 Ta_11 Dr_14))))))
def fX6_readP_4_7_s (k7 : Int32 → Int32 → ST → ST → Option (ST × ST)) (y1 : Int32) (y2 : Int32) (Ta : ST) (Dr : ST) : Option (ST × ST) :=
  (if 80 ≤ y2 then some (Ta, Dr) else dc_b1 (fX6_sees 42 Ta) (fun r5 => (if r5 = 0 then dc_b1 (fX6_sees 47 Ta) (fun r17 => (if r17 = 0 then dc_b1 (fX6_sees 37 Ta) (fun r20 => (if r20 = 0 then some (Ta, Dr) else fX6_readP_4_40 k7 y1 y2 Ta Dr)) else fX6_readP_4_40 k7 y1 y2 Ta Dr)) else fX6_readP_4_40 k7 y1 y2 Ta Dr)))
def fX6_readP_4_7 : Nat → Int32 → Int32 → ST → ST → Option (ST × ST)
  | 0 => fun _ _ _ _ => none
  | n + 1 => fX6_readP_4_7_s (fX6_readP_4_7 n)
def fX6_readP_4 (x1 : Int32) (Ta : ST) (Dr : ST) : Option (ST × ST) :=
  dc_b2 (fX6_readQ_4 x1 Ta Dr) (fun Ta_1 Dr_2 => fX6_readP_4_7 400 x1 0 Ta_1 Dr_2)
abbrev rmX6_readP_4 : Room := { frames := 11, cells := 0, slots := 0, locals := 260 }
set_option maxRecDepth 100000 in
set_option maxHeartbeats 4000000 in
theorem tX6_readP_4 (l : Launch) (D : va_G) (cs : Nat → ClassId) (ata : Nat → Nat) (adr : Nat → Nat) (x1 : Int32) (Ta : ST) (Dr : ST) (Taz : ST) (Drz : ST) (hf : fX6_readP_4 x1 Ta Dr = some (Taz, Drz)) : CG l yX6_readP (wsm yX6_readP cX6_readP 4 none) rmX6_readP_4 D cs [.ref (ata 0), .int x1] none ((kX6 cs ata (.ref (adr 0)) Ta) ++ ((kX3 cs adr  Dr))) ((kX6 cs ata (.ref (adr 0)) Taz) ++ ((kX3 cs adr  Drz))) := by
  refine CG.intro (by decide) (Nat.le_of_ble_eq_true rfl) ?_
  intro p e s m below meth c A Q hx hb hml hown hu hK hZ hP0 hD0 hS0 hA hri hrz hrl hrv hra ls0 hl0
  have h40 : ∀ (k7 : Int32 → Int32 → ST → ST → Option (ST × ST)), (∀ (y1 : Int32) (y2 : Int32) (Ta : ST) (Dr : ST) (H : Heap) (locs : List Loc) (ls : Array Slot), va_P D vwCl ((kX6 cs ata (.ref (adr 0)) Ta) ++ ((kX3 cs adr  Dr))) H → va_D A ((kX6 cs ata (.ref (adr 0)) Ta) ++ ((kX3 cs adr  Dr))) → va_S A s.heap H locs → lv_has ls 4 [(0, .ref (ata 0)), (1, .int y1), (2, .int y2)] → k7 y1 y2 Ta Dr = some (Taz, Drz) → W p l e rmX6_readP_4 s m [.ref (ata 0), .int x1].toArray below meth c H locs 0 0 Q (F0 m 7 ls [])) → ∀ (y1 : Int32) (y2 : Int32) (Ta : ST) (Dr : ST) (H : Heap) (locs : List Loc) (ls : Array Slot), va_P D vwCl ((kX6 cs ata (.ref (adr 0)) Ta) ++ ((kX3 cs adr  Dr))) H → va_D A ((kX6 cs ata (.ref (adr 0)) Ta) ++ ((kX3 cs adr  Dr))) → va_S A s.heap H locs → lv_has ls 4 [(0, .ref (ata 0)), (1, .int y1), (2, .int y2)] → fX6_readP_4_40 k7 y1 y2 Ta Dr = some (Taz, Drz) → W p l e rmX6_readP_4 s m [.ref (ata 0), .int x1].toArray below meth c H locs 0 0 Q (F0 m 40 ls []) := by
    intro k7 hk7 y1 y2 Ta Dr H locs ls hP hD hS hl hf
    unfold fX6_readP_4_40 at hf
    refine lv_aload_n hx hb dX6_readP_40 rfl (lv_at hl 0 rfl) ?_
    refine va_get (D := D) (ci := 6) (v := .ref (ata 1)) (C := RX6) (T := TX6) (N := 5) hx hb hu inX6 hown hK.1 hP 0 rfl rfl 0 (by decide) (hu _ q259) (fun _ h9 => h9) rfl dX6_readP_41 ?_
    refine lv_aload_n hx hb dX6_readP_44 rfl (lv_at hl 0 rfl) ?_
    refine va_get (D := D) (ci := 6) (v := .int (Ta 0 3)) (C := RX6) (T := TX6) (N := 5) hx hb hu inX6 hown hK.1 hP 0 rfl rfl 3 (by decide) (hu _ q264) (fun _ h9 => h9) rfl dX6_readP_45 ?_
    obtain ⟨hi8, hf⟩ := ck_el hf
    refine va_cald hx hb hK.1 hP 1 2 rfl rfl hi8 dX6_readP_48 ?_
    obtain ⟨v9, hv9, hf⟩ := lt_el hf
    refine lv_tope hv9 ?_
    refine lv_istore_n (lv' := [(3, .int v9), (0, .ref (ata 0)), (1, .int y1), (2, .int y2)]) hx hb dX6_readP_49 rfl hl (by decide) rfl (fun ls hl => ?_)
    refine lv_aload_n hx hb dX6_readP_50 rfl (lv_at hl 1 rfl) ?_
    refine lv_dup hx hb dX6_readP_51 rfl ?_
    refine va_get (D := D) (ci := 6) (v := .int (Ta 0 3)) (C := RX6) (T := TX6) (N := 5) hx hb hu inX6 hown hK.1 hP 0 rfl rfl 3 (by decide) (hu _ q264) (fun _ h9 => h9) rfl dX6_readP_52 ?_
    refine lv_iconst (v := 1) hx hb dX6_readP_55 (by decide) ?_
    refine lv_iadd hx hb dX6_readP_56 ?_
    obtain ⟨Ta_10, hTa_10, hf⟩ := lt_el hf
    refine va_put (D := D) (ci := 6) (v := .int ((Ta 0 3) + 1)) (ty := .int) (C := RX6) (T := TX6) (N := 5) hx hb hu inX6 tyX6 tyX6_ok nmX6 hown hK.1 hP hD hS 0 rfl rfl 3 (by decide) (hu _ q264) (fun _ h9 => h9) rfl (by decide +kernel) rfl rfl (Nat.le_of_ble_eq_true rfl) dX6_readP_57 (fun H locs hP hD hS => ?_)
    have hP : va_P D vwCl ((kX6 cs ata (.ref (adr 0)) Ta_10) ++ ((kX3 cs adr  Dr))) H := by rw [hTa_10]; exact hP
    have hD : va_D A ((kX6 cs ata (.ref (adr 0)) Ta_10) ++ ((kX3 cs adr  Dr))) := by rw [hTa_10]; exact hD
    refine lv_aload_n hx hb dX6_readP_60 rfl (lv_at hl 1 rfl) ?_
    refine lv_iload_n hx hb dX6_readP_61 rfl (lv_at hl 2 rfl) ?_
    obtain ⟨Ta_11, Dr_12, hg13, hf⟩ := b2_el hf
    refine cc_V1 (w' := ((kX6 cs ata (.ref (adr 0)) Ta_11) ++ ((kX3 cs adr  Dr_12)))) (st1 := []) [.int y1] hx hb hml hown hu (tX6_readQ_4 l D cs ata adr y1 Ta_10 Dr Ta_11 Dr_12 hg13) q713 q60 q710 q712 q14 pdX6_readQ ⟨rfl, rfl, Nat.le_of_ble_eq_true rfl, Nat.le_of_ble_eq_true rfl⟩ hK hZ hP hD hS hA rfl rfl rfl rfl hl.1 rfl (Nat.le_of_ble_eq_true rfl) dX6_readP_62 rfl (fun H locs hP hD hS => ?_)
    refine lv_aload_n hx hb dX6_readP_65 rfl (lv_at hl 1 rfl) ?_
    refine va_get (D := D) (ci := 6) (v := .ref (adr 0)) (C := RX6) (T := TX6) (N := 5) hx hb hu inX6 hown hK.1 hP 0 rfl rfl 1 (by decide) (hu _ q260) (fun _ h9 => h9) rfl dX6_readP_66 ?_
    refine lv_iload_n hx hb dX6_readP_69 rfl (lv_at hl 0 rfl) ?_
    obtain ⟨Dr_14, hg15, hf⟩ := b1_el hf
    refine cc_V (w' := ((kX6 cs ata (.ref (adr 0)) Ta_11) ++ ((kX3 cs adr  Dr_14)))) (wr := (kX6 cs ata (.ref (adr 0)) Ta_11)) (st1 := []) [.int v9] hx hb hml hown hu (tX3_putSign l D cs adr v9 Dr_12 Dr_14 hg15) q816 q57 q813 q814 q815 pdX3_putSign ⟨rfl, rfl, Nat.le_of_ble_eq_true rfl, Nat.le_of_ble_eq_true rfl⟩ hK hZ hP hD hS hA [2, 3, 4] [0, 1] [0, 1, 2, 3, 4] rfl rfl rfl rfl rfl rfl rfl rfl rfl rfl hl.1 rfl (Nat.le_of_ble_eq_true rfl) dX6_readP_70 rfl (fun H locs hP hD hS => ?_)
    obtain ⟨v16, hv16, hf⟩ := lt_el hf
    refine lv_iinc (v := v16) (lv' := [(2, .int v16), (3, .int v9), (0, .ref (ata 0)), (1, .int y1)]) hx hb dX6_readP_73 hl (k := 3) rfl (by rw [hv16]; rfl) (by decide) rfl (fun ls hl => ?_)
    refine lv_goto (tgt := 7) hx hb dX6_readP_76 (by decide) ?_
    exact hk7 y1 v16 Ta_11 Dr_14 _ _ _ hP hD hS (lv_sub hl [2, 3, 0] rfl) hf
  have hs7 : ∀ (k7 : Int32 → Int32 → ST → ST → Option (ST × ST)), (∀ (y1 : Int32) (y2 : Int32) (Ta : ST) (Dr : ST) (H : Heap) (locs : List Loc) (ls : Array Slot), va_P D vwCl ((kX6 cs ata (.ref (adr 0)) Ta) ++ ((kX3 cs adr  Dr))) H → va_D A ((kX6 cs ata (.ref (adr 0)) Ta) ++ ((kX3 cs adr  Dr))) → va_S A s.heap H locs → lv_has ls 4 [(0, .ref (ata 0)), (1, .int y1), (2, .int y2)] → k7 y1 y2 Ta Dr = some (Taz, Drz) → W p l e rmX6_readP_4 s m [.ref (ata 0), .int x1].toArray below meth c H locs 0 0 Q (F0 m 7 ls [])) → ∀ (y1 : Int32) (y2 : Int32) (Ta : ST) (Dr : ST) (H : Heap) (locs : List Loc) (ls : Array Slot), va_P D vwCl ((kX6 cs ata (.ref (adr 0)) Ta) ++ ((kX3 cs adr  Dr))) H → va_D A ((kX6 cs ata (.ref (adr 0)) Ta) ++ ((kX3 cs adr  Dr))) → va_S A s.heap H locs → lv_has ls 4 [(0, .ref (ata 0)), (1, .int y1), (2, .int y2)] → fX6_readP_4_7_s k7 y1 y2 Ta Dr = some (Taz, Drz) → W p l e rmX6_readP_4 s m [.ref (ata 0), .int x1].toArray below meth c H locs 0 0 Q (F0 m 7 ls []) := by
    intro k7 hk7 y1 y2 Ta Dr H locs ls hP hD hS hl hf
    unfold fX6_readP_4_7_s at hf
    refine lv_iload_n hx hb dX6_readP_7 rfl (lv_at hl 2 rfl) ?_
    refine lv_bipush (v := 80) hx hb dX6_readP_8 (by decide) ?_
    refine lv_icmp_ge (tgt := 79) hx hb dX6_readP_10 (by decide) (fun hc4 => ?_) (fun hc4 => ?_)
    · have hf := ip_el hc4 hf
      have he := Option.some.inj hf
      obtain ⟨e0, e1⟩ := Prod.mk.inj he
      exact hrv _ _ rfl rfl dX6_readP_79 _ _ _ (by rw [e0, e1]) hP hD hS
    · have hf := in_el hc4 hf
      refine lv_aload_n hx hb dX6_readP_13 rfl (lv_at hl 0 rfl) ?_
      refine lv_bipush (v := 42) hx hb dX6_readP_14 (by decide) ?_
      obtain ⟨r5, hg6, hf⟩ := b1_el hf
      refine cc_V (w' := ((kX6 cs ata (.ref (adr 0)) Ta) ++ ((kX3 cs adr  Dr)))) (wr := (kX3 cs adr  Dr)) (st1 := [.int r5]) [.int 42] hx hb hml hown hu (tX6_sees l D cs ata adr 42 Ta r5 hg6) q825 q60 q822 q824 q18 pdX6_sees ⟨rfl, rfl, Nat.le_of_ble_eq_true rfl, Nat.le_of_ble_eq_true rfl⟩ hK hZ hP hD hS hA [0, 1] [2, 3, 4] [3, 4, 0, 1, 2] rfl rfl rfl rfl rfl rfl rfl rfl rfl rfl hl.1 rfl (Nat.le_of_ble_eq_true rfl) dX6_readP_16 rfl (fun H locs hP hD hS => ?_)
      refine lv_if_ne (tgt := 40) hx hb dX6_readP_19 (by decide) (fun hc7 => ?_) (fun hc7 => ?_)
      · have hf := in_el hc7 hf
        exact h40 k7 hk7 y1 y2 Ta Dr _ _ _ hP hD hS (lv_sub hl [0, 1, 2] rfl) hf
      · have hf := ip_el hc7 hf
        refine lv_aload_n hx hb dX6_readP_22 rfl (lv_at hl 0 rfl) ?_
        refine lv_bipush (v := 47) hx hb dX6_readP_23 (by decide) ?_
        obtain ⟨r17, hg18, hf⟩ := b1_el hf
        refine cc_V (w' := ((kX6 cs ata (.ref (adr 0)) Ta) ++ ((kX3 cs adr  Dr)))) (wr := (kX3 cs adr  Dr)) (st1 := [.int r17]) [.int 47] hx hb hml hown hu (tX6_sees l D cs ata adr 47 Ta r17 hg18) q825 q60 q822 q824 q18 pdX6_sees ⟨rfl, rfl, Nat.le_of_ble_eq_true rfl, Nat.le_of_ble_eq_true rfl⟩ hK hZ hP hD hS hA [0, 1] [2, 3, 4] [3, 4, 0, 1, 2] rfl rfl rfl rfl rfl rfl rfl rfl rfl rfl hl.1 rfl (Nat.le_of_ble_eq_true rfl) dX6_readP_25 rfl (fun H locs hP hD hS => ?_)
        refine lv_if_ne (tgt := 40) hx hb dX6_readP_28 (by decide) (fun hc19 => ?_) (fun hc19 => ?_)
        · have hf := in_el hc19 hf
          exact h40 k7 hk7 y1 y2 Ta Dr _ _ _ hP hD hS (lv_sub hl [0, 1, 2] rfl) hf
        · have hf := ip_el hc19 hf
          refine lv_aload_n hx hb dX6_readP_31 rfl (lv_at hl 0 rfl) ?_
          refine lv_bipush (v := 37) hx hb dX6_readP_32 (by decide) ?_
          obtain ⟨r20, hg21, hf⟩ := b1_el hf
          refine cc_V (w' := ((kX6 cs ata (.ref (adr 0)) Ta) ++ ((kX3 cs adr  Dr)))) (wr := (kX3 cs adr  Dr)) (st1 := [.int r20]) [.int 37] hx hb hml hown hu (tX6_sees l D cs ata adr 37 Ta r20 hg21) q825 q60 q822 q824 q18 pdX6_sees ⟨rfl, rfl, Nat.le_of_ble_eq_true rfl, Nat.le_of_ble_eq_true rfl⟩ hK hZ hP hD hS hA [0, 1] [2, 3, 4] [3, 4, 0, 1, 2] rfl rfl rfl rfl rfl rfl rfl rfl rfl rfl hl.1 rfl (Nat.le_of_ble_eq_true rfl) dX6_readP_34 rfl (fun H locs hP hD hS => ?_)
          refine lv_if_eq (tgt := 79) hx hb dX6_readP_37 (by decide) (fun hc22 => ?_) (fun hc22 => ?_)
          · have hf := ip_el hc22 hf
            have he := Option.some.inj hf
            obtain ⟨e0, e1⟩ := Prod.mk.inj he
            exact hrv _ _ rfl rfl dX6_readP_79 _ _ _ (by rw [e0, e1]) hP hD hS
          · have hf := in_el hc22 hf
            exact h40 k7 hk7 y1 y2 Ta Dr _ _ _ hP hD hS (lv_sub hl [0, 1, 2] rfl) hf
  have h7 : ∀ (n : Nat), ∀ (y1 : Int32) (y2 : Int32) (Ta : ST) (Dr : ST) (H : Heap) (locs : List Loc) (ls : Array Slot), va_P D vwCl ((kX6 cs ata (.ref (adr 0)) Ta) ++ ((kX3 cs adr  Dr))) H → va_D A ((kX6 cs ata (.ref (adr 0)) Ta) ++ ((kX3 cs adr  Dr))) → va_S A s.heap H locs → lv_has ls 4 [(0, .ref (ata 0)), (1, .int y1), (2, .int y2)] → fX6_readP_4_7 n y1 y2 Ta Dr = some (Taz, Drz) → W p l e rmX6_readP_4 s m [.ref (ata 0), .int x1].toArray below meth c H locs 0 0 Q (F0 m 7 ls []) := by
    intro n
    induction n with
    | zero => intro y1 y2 Ta Dr H locs ls hP hD hS hl hf; exact no_el hf
    | succ n ih => intro y1 y2 Ta Dr H locs ls hP hD hS hl hf; exact hs7 _ ih y1 y2 Ta Dr _ _ _ hP hD hS hl hf
  have hl : lv_has ls0 4 [(0, .ref (ata 0)), (1, .int x1)] := hl0
  have hP := hP0
  have hD := hD0
  have hS := hS0
  unfold fX6_readP_4 at hf
  refine lv_aload_n hx hb dX6_readP_0 rfl (lv_at hl 0 rfl) ?_
  refine lv_iload_n hx hb dX6_readP_1 rfl (lv_at hl 1 rfl) ?_
  obtain ⟨Ta_1, Dr_2, hg3, hf⟩ := b2_el hf
  refine cc_V1 (w' := ((kX6 cs ata (.ref (adr 0)) Ta_1) ++ ((kX3 cs adr  Dr_2)))) (st1 := []) [.int x1] hx hb hml hown hu (tX6_readQ_4 l D cs ata adr x1 Ta Dr Ta_1 Dr_2 hg3) q713 q60 q710 q712 q14 pdX6_readQ ⟨rfl, rfl, Nat.le_of_ble_eq_true rfl, Nat.le_of_ble_eq_true rfl⟩ hK hZ hP hD hS hA rfl rfl rfl rfl hl.1 rfl (Nat.le_of_ble_eq_true rfl) dX6_readP_2 rfl (fun H locs hP hD hS => ?_)
  refine lv_iconst (v := 0) hx hb dX6_readP_5 (by decide) ?_
  refine lv_istore_n (lv' := [(2, .int 0), (0, .ref (ata 0)), (1, .int x1)]) hx hb dX6_readP_6 rfl hl (by decide) rfl (fun ls hl => ?_)
  exact h7 400 x1 0 Ta_1 Dr_2 _ _ _ hP hD hS (lv_sub hl [1, 2, 0] rfl) hf

def fX6_readS_4_31 (k7 : Int32 → Int32 → ST → ST → Option (ST × ST)) (y1 : Int32) (y2 : Int32) (Ta : ST) (Dr : ST) : Option (ST × ST) :=
  dc_ck (Ta 0 3) 80 (dc_lt (Ta 1 (Int32.toNatClampNeg (Ta 0 3))) (fun v9 => dc_lt (sti Ta 0 3 ((Ta 0 3) + 1)) (fun Ta_10 => dc_b2 (fX6_readP_4 y1 Ta_10 Dr) (fun Ta_11 Dr_12 => dc_b1 (fX3_putSign v9 Dr_12) (fun Dr_14 => dc_lt (y2 + 1) (fun v16 => k7 y1 v16 Ta_11 Dr_14))))))
def fX6_readS_4_7_s (k7 : Int32 → Int32 → ST → ST → Option (ST × ST)) (y1 : Int32) (y2 : Int32) (Ta : ST) (Dr : ST) : Option (ST × ST) :=
  (if 80 ≤ y2 then some (Ta, Dr) else dc_b1 (fX6_sees 43 Ta) (fun r5 => (if r5 = 0 then dc_b1 (fX6_sees 45 Ta) (fun r17 => (if r17 = 0 then some (Ta, Dr) else fX6_readS_4_31 k7 y1 y2 Ta Dr)) else fX6_readS_4_31 k7 y1 y2 Ta Dr)))
def fX6_readS_4_7 : Nat → Int32 → Int32 → ST → ST → Option (ST × ST)
  | 0 => fun _ _ _ _ => none
  | n + 1 => fX6_readS_4_7_s (fX6_readS_4_7 n)
def fX6_readS_4 (x1 : Int32) (Ta : ST) (Dr : ST) : Option (ST × ST) :=
  dc_b2 (fX6_readP_4 x1 Ta Dr) (fun Ta_1 Dr_2 => fX6_readS_4_7 400 x1 0 Ta_1 Dr_2)
abbrev rmX6_readS_4 : Room := { frames := 12, cells := 0, slots := 0, locals := 283 }
set_option maxRecDepth 100000 in
set_option maxHeartbeats 4000000 in
theorem tX6_readS_4 (l : Launch) (D : va_G) (cs : Nat → ClassId) (ata : Nat → Nat) (adr : Nat → Nat) (x1 : Int32) (Ta : ST) (Dr : ST) (Taz : ST) (Drz : ST) (hf : fX6_readS_4 x1 Ta Dr = some (Taz, Drz)) : CG l yX6_readS (wsm yX6_readS cX6_readS 4 none) rmX6_readS_4 D cs [.ref (ata 0), .int x1] none ((kX6 cs ata (.ref (adr 0)) Ta) ++ ((kX3 cs adr  Dr))) ((kX6 cs ata (.ref (adr 0)) Taz) ++ ((kX3 cs adr  Drz))) := by
  refine CG.intro (by decide) (Nat.le_of_ble_eq_true rfl) ?_
  intro p e s m below meth c A Q hx hb hml hown hu hK hZ hP0 hD0 hS0 hA hri hrz hrl hrv hra ls0 hl0
  have h31 : ∀ (k7 : Int32 → Int32 → ST → ST → Option (ST × ST)), (∀ (y1 : Int32) (y2 : Int32) (Ta : ST) (Dr : ST) (H : Heap) (locs : List Loc) (ls : Array Slot), va_P D vwCl ((kX6 cs ata (.ref (adr 0)) Ta) ++ ((kX3 cs adr  Dr))) H → va_D A ((kX6 cs ata (.ref (adr 0)) Ta) ++ ((kX3 cs adr  Dr))) → va_S A s.heap H locs → lv_has ls 4 [(0, .ref (ata 0)), (1, .int y1), (2, .int y2)] → k7 y1 y2 Ta Dr = some (Taz, Drz) → W p l e rmX6_readS_4 s m [.ref (ata 0), .int x1].toArray below meth c H locs 0 0 Q (F0 m 7 ls [])) → ∀ (y1 : Int32) (y2 : Int32) (Ta : ST) (Dr : ST) (H : Heap) (locs : List Loc) (ls : Array Slot), va_P D vwCl ((kX6 cs ata (.ref (adr 0)) Ta) ++ ((kX3 cs adr  Dr))) H → va_D A ((kX6 cs ata (.ref (adr 0)) Ta) ++ ((kX3 cs adr  Dr))) → va_S A s.heap H locs → lv_has ls 4 [(0, .ref (ata 0)), (1, .int y1), (2, .int y2)] → fX6_readS_4_31 k7 y1 y2 Ta Dr = some (Taz, Drz) → W p l e rmX6_readS_4 s m [.ref (ata 0), .int x1].toArray below meth c H locs 0 0 Q (F0 m 31 ls []) := by
    intro k7 hk7 y1 y2 Ta Dr H locs ls hP hD hS hl hf
    unfold fX6_readS_4_31 at hf
    refine lv_aload_n hx hb dX6_readS_31 rfl (lv_at hl 0 rfl) ?_
    refine va_get (D := D) (ci := 6) (v := .ref (ata 1)) (C := RX6) (T := TX6) (N := 5) hx hb hu inX6 hown hK.1 hP 0 rfl rfl 0 (by decide) (hu _ q259) (fun _ h9 => h9) rfl dX6_readS_32 ?_
    refine lv_aload_n hx hb dX6_readS_35 rfl (lv_at hl 0 rfl) ?_
    refine va_get (D := D) (ci := 6) (v := .int (Ta 0 3)) (C := RX6) (T := TX6) (N := 5) hx hb hu inX6 hown hK.1 hP 0 rfl rfl 3 (by decide) (hu _ q264) (fun _ h9 => h9) rfl dX6_readS_36 ?_
    obtain ⟨hi8, hf⟩ := ck_el hf
    refine va_cald hx hb hK.1 hP 1 2 rfl rfl hi8 dX6_readS_39 ?_
    obtain ⟨v9, hv9, hf⟩ := lt_el hf
    refine lv_tope hv9 ?_
    refine lv_istore_n (lv' := [(3, .int v9), (0, .ref (ata 0)), (1, .int y1), (2, .int y2)]) hx hb dX6_readS_40 rfl hl (by decide) rfl (fun ls hl => ?_)
    refine lv_aload_n hx hb dX6_readS_41 rfl (lv_at hl 1 rfl) ?_
    refine lv_dup hx hb dX6_readS_42 rfl ?_
    refine va_get (D := D) (ci := 6) (v := .int (Ta 0 3)) (C := RX6) (T := TX6) (N := 5) hx hb hu inX6 hown hK.1 hP 0 rfl rfl 3 (by decide) (hu _ q264) (fun _ h9 => h9) rfl dX6_readS_43 ?_
    refine lv_iconst (v := 1) hx hb dX6_readS_46 (by decide) ?_
    refine lv_iadd hx hb dX6_readS_47 ?_
    obtain ⟨Ta_10, hTa_10, hf⟩ := lt_el hf
    refine va_put (D := D) (ci := 6) (v := .int ((Ta 0 3) + 1)) (ty := .int) (C := RX6) (T := TX6) (N := 5) hx hb hu inX6 tyX6 tyX6_ok nmX6 hown hK.1 hP hD hS 0 rfl rfl 3 (by decide) (hu _ q264) (fun _ h9 => h9) rfl (by decide +kernel) rfl rfl (Nat.le_of_ble_eq_true rfl) dX6_readS_48 (fun H locs hP hD hS => ?_)
    have hP : va_P D vwCl ((kX6 cs ata (.ref (adr 0)) Ta_10) ++ ((kX3 cs adr  Dr))) H := by rw [hTa_10]; exact hP
    have hD : va_D A ((kX6 cs ata (.ref (adr 0)) Ta_10) ++ ((kX3 cs adr  Dr))) := by rw [hTa_10]; exact hD
    refine lv_aload_n hx hb dX6_readS_51 rfl (lv_at hl 1 rfl) ?_
    refine lv_iload_n hx hb dX6_readS_52 rfl (lv_at hl 2 rfl) ?_
    obtain ⟨Ta_11, Dr_12, hg13, hf⟩ := b2_el hf
    refine cc_V1 (w' := ((kX6 cs ata (.ref (adr 0)) Ta_11) ++ ((kX3 cs adr  Dr_12)))) (st1 := []) [.int y1] hx hb hml hown hu (tX6_readP_4 l D cs ata adr y1 Ta_10 Dr Ta_11 Dr_12 hg13) q709 q60 q706 q708 q13 pdX6_readP ⟨rfl, rfl, Nat.le_of_ble_eq_true rfl, Nat.le_of_ble_eq_true rfl⟩ hK hZ hP hD hS hA rfl rfl rfl rfl hl.1 rfl (Nat.le_of_ble_eq_true rfl) dX6_readS_53 rfl (fun H locs hP hD hS => ?_)
    refine lv_aload_n hx hb dX6_readS_56 rfl (lv_at hl 1 rfl) ?_
    refine va_get (D := D) (ci := 6) (v := .ref (adr 0)) (C := RX6) (T := TX6) (N := 5) hx hb hu inX6 hown hK.1 hP 0 rfl rfl 1 (by decide) (hu _ q260) (fun _ h9 => h9) rfl dX6_readS_57 ?_
    refine lv_iload_n hx hb dX6_readS_60 rfl (lv_at hl 0 rfl) ?_
    obtain ⟨Dr_14, hg15, hf⟩ := b1_el hf
    refine cc_V (w' := ((kX6 cs ata (.ref (adr 0)) Ta_11) ++ ((kX3 cs adr  Dr_14)))) (wr := (kX6 cs ata (.ref (adr 0)) Ta_11)) (st1 := []) [.int v9] hx hb hml hown hu (tX3_putSign l D cs adr v9 Dr_12 Dr_14 hg15) q816 q57 q813 q814 q815 pdX3_putSign ⟨rfl, rfl, Nat.le_of_ble_eq_true rfl, Nat.le_of_ble_eq_true rfl⟩ hK hZ hP hD hS hA [2, 3, 4] [0, 1] [0, 1, 2, 3, 4] rfl rfl rfl rfl rfl rfl rfl rfl rfl rfl hl.1 rfl (Nat.le_of_ble_eq_true rfl) dX6_readS_61 rfl (fun H locs hP hD hS => ?_)
    obtain ⟨v16, hv16, hf⟩ := lt_el hf
    refine lv_iinc (v := v16) (lv' := [(2, .int v16), (3, .int v9), (0, .ref (ata 0)), (1, .int y1)]) hx hb dX6_readS_64 hl (k := 3) rfl (by rw [hv16]; rfl) (by decide) rfl (fun ls hl => ?_)
    refine lv_goto (tgt := 7) hx hb dX6_readS_67 (by decide) ?_
    exact hk7 y1 v16 Ta_11 Dr_14 _ _ _ hP hD hS (lv_sub hl [2, 3, 0] rfl) hf
  have hs7 : ∀ (k7 : Int32 → Int32 → ST → ST → Option (ST × ST)), (∀ (y1 : Int32) (y2 : Int32) (Ta : ST) (Dr : ST) (H : Heap) (locs : List Loc) (ls : Array Slot), va_P D vwCl ((kX6 cs ata (.ref (adr 0)) Ta) ++ ((kX3 cs adr  Dr))) H → va_D A ((kX6 cs ata (.ref (adr 0)) Ta) ++ ((kX3 cs adr  Dr))) → va_S A s.heap H locs → lv_has ls 4 [(0, .ref (ata 0)), (1, .int y1), (2, .int y2)] → k7 y1 y2 Ta Dr = some (Taz, Drz) → W p l e rmX6_readS_4 s m [.ref (ata 0), .int x1].toArray below meth c H locs 0 0 Q (F0 m 7 ls [])) → ∀ (y1 : Int32) (y2 : Int32) (Ta : ST) (Dr : ST) (H : Heap) (locs : List Loc) (ls : Array Slot), va_P D vwCl ((kX6 cs ata (.ref (adr 0)) Ta) ++ ((kX3 cs adr  Dr))) H → va_D A ((kX6 cs ata (.ref (adr 0)) Ta) ++ ((kX3 cs adr  Dr))) → va_S A s.heap H locs → lv_has ls 4 [(0, .ref (ata 0)), (1, .int y1), (2, .int y2)] → fX6_readS_4_7_s k7 y1 y2 Ta Dr = some (Taz, Drz) → W p l e rmX6_readS_4 s m [.ref (ata 0), .int x1].toArray below meth c H locs 0 0 Q (F0 m 7 ls []) := by
    intro k7 hk7 y1 y2 Ta Dr H locs ls hP hD hS hl hf
    unfold fX6_readS_4_7_s at hf
    refine lv_iload_n hx hb dX6_readS_7 rfl (lv_at hl 2 rfl) ?_
    refine lv_bipush (v := 80) hx hb dX6_readS_8 (by decide) ?_
    refine lv_icmp_ge (tgt := 70) hx hb dX6_readS_10 (by decide) (fun hc4 => ?_) (fun hc4 => ?_)
    · have hf := ip_el hc4 hf
      have he := Option.some.inj hf
      obtain ⟨e0, e1⟩ := Prod.mk.inj he
      exact hrv _ _ rfl rfl dX6_readS_70 _ _ _ (by rw [e0, e1]) hP hD hS
    · have hf := in_el hc4 hf
      refine lv_aload_n hx hb dX6_readS_13 rfl (lv_at hl 0 rfl) ?_
      refine lv_bipush (v := 43) hx hb dX6_readS_14 (by decide) ?_
      obtain ⟨r5, hg6, hf⟩ := b1_el hf
      refine cc_V (w' := ((kX6 cs ata (.ref (adr 0)) Ta) ++ ((kX3 cs adr  Dr)))) (wr := (kX3 cs adr  Dr)) (st1 := [.int r5]) [.int 43] hx hb hml hown hu (tX6_sees l D cs ata adr 43 Ta r5 hg6) q825 q60 q822 q824 q18 pdX6_sees ⟨rfl, rfl, Nat.le_of_ble_eq_true rfl, Nat.le_of_ble_eq_true rfl⟩ hK hZ hP hD hS hA [0, 1] [2, 3, 4] [3, 4, 0, 1, 2] rfl rfl rfl rfl rfl rfl rfl rfl rfl rfl hl.1 rfl (Nat.le_of_ble_eq_true rfl) dX6_readS_16 rfl (fun H locs hP hD hS => ?_)
      refine lv_if_ne (tgt := 31) hx hb dX6_readS_19 (by decide) (fun hc7 => ?_) (fun hc7 => ?_)
      · have hf := in_el hc7 hf
        exact h31 k7 hk7 y1 y2 Ta Dr _ _ _ hP hD hS (lv_sub hl [0, 1, 2] rfl) hf
      · have hf := ip_el hc7 hf
        refine lv_aload_n hx hb dX6_readS_22 rfl (lv_at hl 0 rfl) ?_
        refine lv_bipush (v := 45) hx hb dX6_readS_23 (by decide) ?_
        obtain ⟨r17, hg18, hf⟩ := b1_el hf
        refine cc_V (w' := ((kX6 cs ata (.ref (adr 0)) Ta) ++ ((kX3 cs adr  Dr)))) (wr := (kX3 cs adr  Dr)) (st1 := [.int r17]) [.int 45] hx hb hml hown hu (tX6_sees l D cs ata adr 45 Ta r17 hg18) q825 q60 q822 q824 q18 pdX6_sees ⟨rfl, rfl, Nat.le_of_ble_eq_true rfl, Nat.le_of_ble_eq_true rfl⟩ hK hZ hP hD hS hA [0, 1] [2, 3, 4] [3, 4, 0, 1, 2] rfl rfl rfl rfl rfl rfl rfl rfl rfl rfl hl.1 rfl (Nat.le_of_ble_eq_true rfl) dX6_readS_25 rfl (fun H locs hP hD hS => ?_)
        refine lv_if_eq (tgt := 70) hx hb dX6_readS_28 (by decide) (fun hc19 => ?_) (fun hc19 => ?_)
        · have hf := ip_el hc19 hf
          have he := Option.some.inj hf
          obtain ⟨e0, e1⟩ := Prod.mk.inj he
          exact hrv _ _ rfl rfl dX6_readS_70 _ _ _ (by rw [e0, e1]) hP hD hS
        · have hf := in_el hc19 hf
          exact h31 k7 hk7 y1 y2 Ta Dr _ _ _ hP hD hS (lv_sub hl [0, 1, 2] rfl) hf
  have h7 : ∀ (n : Nat), ∀ (y1 : Int32) (y2 : Int32) (Ta : ST) (Dr : ST) (H : Heap) (locs : List Loc) (ls : Array Slot), va_P D vwCl ((kX6 cs ata (.ref (adr 0)) Ta) ++ ((kX3 cs adr  Dr))) H → va_D A ((kX6 cs ata (.ref (adr 0)) Ta) ++ ((kX3 cs adr  Dr))) → va_S A s.heap H locs → lv_has ls 4 [(0, .ref (ata 0)), (1, .int y1), (2, .int y2)] → fX6_readS_4_7 n y1 y2 Ta Dr = some (Taz, Drz) → W p l e rmX6_readS_4 s m [.ref (ata 0), .int x1].toArray below meth c H locs 0 0 Q (F0 m 7 ls []) := by
    intro n
    induction n with
    | zero => intro y1 y2 Ta Dr H locs ls hP hD hS hl hf; exact no_el hf
    | succ n ih => intro y1 y2 Ta Dr H locs ls hP hD hS hl hf; exact hs7 _ ih y1 y2 Ta Dr _ _ _ hP hD hS hl hf
  have hl : lv_has ls0 4 [(0, .ref (ata 0)), (1, .int x1)] := hl0
  have hP := hP0
  have hD := hD0
  have hS := hS0
  unfold fX6_readS_4 at hf
  refine lv_aload_n hx hb dX6_readS_0 rfl (lv_at hl 0 rfl) ?_
  refine lv_iload_n hx hb dX6_readS_1 rfl (lv_at hl 1 rfl) ?_
  obtain ⟨Ta_1, Dr_2, hg3, hf⟩ := b2_el hf
  refine cc_V1 (w' := ((kX6 cs ata (.ref (adr 0)) Ta_1) ++ ((kX3 cs adr  Dr_2)))) (st1 := []) [.int x1] hx hb hml hown hu (tX6_readP_4 l D cs ata adr x1 Ta Dr Ta_1 Dr_2 hg3) q709 q60 q706 q708 q13 pdX6_readP ⟨rfl, rfl, Nat.le_of_ble_eq_true rfl, Nat.le_of_ble_eq_true rfl⟩ hK hZ hP hD hS hA rfl rfl rfl rfl hl.1 rfl (Nat.le_of_ble_eq_true rfl) dX6_readS_2 rfl (fun H locs hP hD hS => ?_)
  refine lv_iconst (v := 0) hx hb dX6_readS_5 (by decide) ?_
  refine lv_istore_n (lv' := [(2, .int 0), (0, .ref (ata 0)), (1, .int x1)]) hx hb dX6_readS_6 rfl hl (by decide) rfl (fun ls hl => ?_)
  exact h7 400 x1 0 Ta_1 Dr_2 _ _ _ hP hD hS (lv_sub hl [1, 2, 0] rfl) hf

def fX6_readB_4_32 (y1 : Int32) (Ta : ST) (Dr : ST) : Option (ST × ST) :=
  dc_ck (Ta 0 3) 80 (dc_lt (Ta 1 (Int32.toNatClampNeg (Ta 0 3))) (fun v8 => dc_lt (sti Ta 0 3 ((Ta 0 3) + 1)) (fun Ta_9 => dc_b2 (fX6_readS_4 y1 Ta_9 Dr) (fun Ta_10 Dr_11 => dc_b1 (fX3_putSign v8 Dr_11) (fun Dr_13 => some (Ta_10, Dr_13))))))
def fX6_readB_4 (x1 : Int32) (Ta : ST) (Dr : ST) : Option (ST × ST) :=
  dc_b2 (fX6_readS_4 x1 Ta Dr) (fun Ta_1 Dr_2 => dc_b1 (fX6_sees 60 Ta_1) (fun r4 => (if r4 = 0 then dc_b1 (fX6_sees 61 Ta_1) (fun r15 => (if r15 = 0 then dc_b1 (fX6_sees 62 Ta_1) (fun r18 => (if r18 = 0 then some (Ta_1, Dr_2) else fX6_readB_4_32 x1 Ta_1 Dr_2)) else fX6_readB_4_32 x1 Ta_1 Dr_2)) else fX6_readB_4_32 x1 Ta_1 Dr_2)))
abbrev rmX6_readB_4 : Room := { frames := 13, cells := 0, slots := 0, locals := 306 }
set_option maxRecDepth 100000 in
set_option maxHeartbeats 4000000 in
theorem tX6_readB_4 (l : Launch) (D : va_G) (cs : Nat → ClassId) (ata : Nat → Nat) (adr : Nat → Nat) (x1 : Int32) (Ta : ST) (Dr : ST) (Taz : ST) (Drz : ST) (hf : fX6_readB_4 x1 Ta Dr = some (Taz, Drz)) : CG l yX6_readB (wsm yX6_readB cX6_readB 3 none) rmX6_readB_4 D cs [.ref (ata 0), .int x1] none ((kX6 cs ata (.ref (adr 0)) Ta) ++ ((kX3 cs adr  Dr))) ((kX6 cs ata (.ref (adr 0)) Taz) ++ ((kX3 cs adr  Drz))) := by
  refine CG.intro (by decide) (Nat.le_of_ble_eq_true rfl) ?_
  intro p e s m below meth c A Q hx hb hml hown hu hK hZ hP0 hD0 hS0 hA hri hrz hrl hrv hra ls0 hl0
  have h32 : ∀ (y1 : Int32) (Ta : ST) (Dr : ST) (H : Heap) (locs : List Loc) (ls : Array Slot), va_P D vwCl ((kX6 cs ata (.ref (adr 0)) Ta) ++ ((kX3 cs adr  Dr))) H → va_D A ((kX6 cs ata (.ref (adr 0)) Ta) ++ ((kX3 cs adr  Dr))) → va_S A s.heap H locs → lv_has ls 3 [(0, .ref (ata 0)), (1, .int y1)] → fX6_readB_4_32 y1 Ta Dr = some (Taz, Drz) → W p l e rmX6_readB_4 s m [.ref (ata 0), .int x1].toArray below meth c H locs 0 0 Q (F0 m 32 ls []) := by
    intro y1 Ta Dr H locs ls hP hD hS hl hf
    unfold fX6_readB_4_32 at hf
    refine lv_aload_n hx hb dX6_readB_32 rfl (lv_at hl 0 rfl) ?_
    refine va_get (D := D) (ci := 6) (v := .ref (ata 1)) (C := RX6) (T := TX6) (N := 5) hx hb hu inX6 hown hK.1 hP 0 rfl rfl 0 (by decide) (hu _ q259) (fun _ h9 => h9) rfl dX6_readB_33 ?_
    refine lv_aload_n hx hb dX6_readB_36 rfl (lv_at hl 0 rfl) ?_
    refine va_get (D := D) (ci := 6) (v := .int (Ta 0 3)) (C := RX6) (T := TX6) (N := 5) hx hb hu inX6 hown hK.1 hP 0 rfl rfl 3 (by decide) (hu _ q264) (fun _ h9 => h9) rfl dX6_readB_37 ?_
    obtain ⟨hi7, hf⟩ := ck_el hf
    refine va_cald hx hb hK.1 hP 1 2 rfl rfl hi7 dX6_readB_40 ?_
    obtain ⟨v8, hv8, hf⟩ := lt_el hf
    refine lv_tope hv8 ?_
    refine lv_istore_n (lv' := [(2, .int v8), (0, .ref (ata 0)), (1, .int y1)]) hx hb dX6_readB_41 rfl hl (by decide) rfl (fun ls hl => ?_)
    refine lv_aload_n hx hb dX6_readB_42 rfl (lv_at hl 1 rfl) ?_
    refine lv_dup hx hb dX6_readB_43 rfl ?_
    refine va_get (D := D) (ci := 6) (v := .int (Ta 0 3)) (C := RX6) (T := TX6) (N := 5) hx hb hu inX6 hown hK.1 hP 0 rfl rfl 3 (by decide) (hu _ q264) (fun _ h9 => h9) rfl dX6_readB_44 ?_
    refine lv_iconst (v := 1) hx hb dX6_readB_47 (by decide) ?_
    refine lv_iadd hx hb dX6_readB_48 ?_
    obtain ⟨Ta_9, hTa_9, hf⟩ := lt_el hf
    refine va_put (D := D) (ci := 6) (v := .int ((Ta 0 3) + 1)) (ty := .int) (C := RX6) (T := TX6) (N := 5) hx hb hu inX6 tyX6 tyX6_ok nmX6 hown hK.1 hP hD hS 0 rfl rfl 3 (by decide) (hu _ q264) (fun _ h9 => h9) rfl (by decide +kernel) rfl rfl (Nat.le_of_ble_eq_true rfl) dX6_readB_49 (fun H locs hP hD hS => ?_)
    have hP : va_P D vwCl ((kX6 cs ata (.ref (adr 0)) Ta_9) ++ ((kX3 cs adr  Dr))) H := by rw [hTa_9]; exact hP
    have hD : va_D A ((kX6 cs ata (.ref (adr 0)) Ta_9) ++ ((kX3 cs adr  Dr))) := by rw [hTa_9]; exact hD
    refine lv_aload_n hx hb dX6_readB_52 rfl (lv_at hl 1 rfl) ?_
    refine lv_iload_n hx hb dX6_readB_53 rfl (lv_at hl 2 rfl) ?_
    obtain ⟨Ta_10, Dr_11, hg12, hf⟩ := b2_el hf
    refine cc_V1 (w' := ((kX6 cs ata (.ref (adr 0)) Ta_10) ++ ((kX3 cs adr  Dr_11)))) (st1 := []) [.int y1] hx hb hml hown hu (tX6_readS_4 l D cs ata adr y1 Ta_9 Dr Ta_10 Dr_11 hg12) q705 q60 q702 q704 q12 pdX6_readS ⟨rfl, rfl, Nat.le_of_ble_eq_true rfl, Nat.le_of_ble_eq_true rfl⟩ hK hZ hP hD hS hA rfl rfl rfl rfl hl.1 rfl (Nat.le_of_ble_eq_true rfl) dX6_readB_54 rfl (fun H locs hP hD hS => ?_)
    refine lv_aload_n hx hb dX6_readB_57 rfl (lv_at hl 1 rfl) ?_
    refine va_get (D := D) (ci := 6) (v := .ref (adr 0)) (C := RX6) (T := TX6) (N := 5) hx hb hu inX6 hown hK.1 hP 0 rfl rfl 1 (by decide) (hu _ q260) (fun _ h9 => h9) rfl dX6_readB_58 ?_
    refine lv_iload_n hx hb dX6_readB_61 rfl (lv_at hl 0 rfl) ?_
    obtain ⟨Dr_13, hg14, hf⟩ := b1_el hf
    refine cc_V (w' := ((kX6 cs ata (.ref (adr 0)) Ta_10) ++ ((kX3 cs adr  Dr_13)))) (wr := (kX6 cs ata (.ref (adr 0)) Ta_10)) (st1 := []) [.int v8] hx hb hml hown hu (tX3_putSign l D cs adr v8 Dr_11 Dr_13 hg14) q816 q57 q813 q814 q815 pdX3_putSign ⟨rfl, rfl, Nat.le_of_ble_eq_true rfl, Nat.le_of_ble_eq_true rfl⟩ hK hZ hP hD hS hA [2, 3, 4] [0, 1] [0, 1, 2, 3, 4] rfl rfl rfl rfl rfl rfl rfl rfl rfl rfl hl.1 rfl (Nat.le_of_ble_eq_true rfl) dX6_readB_62 rfl (fun H locs hP hD hS => ?_)
    have he := Option.some.inj hf
    obtain ⟨e0, e1⟩ := Prod.mk.inj he
    exact hrv _ _ rfl rfl dX6_readB_65 _ _ _ (by rw [e0, e1]) hP hD hS
  have hl : lv_has ls0 3 [(0, .ref (ata 0)), (1, .int x1)] := hl0
  have hP := hP0
  have hD := hD0
  have hS := hS0
  unfold fX6_readB_4 at hf
  refine lv_aload_n hx hb dX6_readB_0 rfl (lv_at hl 0 rfl) ?_
  refine lv_iload_n hx hb dX6_readB_1 rfl (lv_at hl 1 rfl) ?_
  obtain ⟨Ta_1, Dr_2, hg3, hf⟩ := b2_el hf
  refine cc_V1 (w' := ((kX6 cs ata (.ref (adr 0)) Ta_1) ++ ((kX3 cs adr  Dr_2)))) (st1 := []) [.int x1] hx hb hml hown hu (tX6_readS_4 l D cs ata adr x1 Ta Dr Ta_1 Dr_2 hg3) q705 q60 q702 q704 q12 pdX6_readS ⟨rfl, rfl, Nat.le_of_ble_eq_true rfl, Nat.le_of_ble_eq_true rfl⟩ hK hZ hP hD hS hA rfl rfl rfl rfl hl.1 rfl (Nat.le_of_ble_eq_true rfl) dX6_readB_2 rfl (fun H locs hP hD hS => ?_)
  refine lv_aload_n hx hb dX6_readB_5 rfl (lv_at hl 0 rfl) ?_
  refine lv_bipush (v := 60) hx hb dX6_readB_6 (by decide) ?_
  obtain ⟨r4, hg5, hf⟩ := b1_el hf
  refine cc_V (w' := ((kX6 cs ata (.ref (adr 0)) Ta_1) ++ ((kX3 cs adr  Dr_2)))) (wr := (kX3 cs adr  Dr_2)) (st1 := [.int r4]) [.int 60] hx hb hml hown hu (tX6_sees l D cs ata adr 60 Ta_1 r4 hg5) q825 q60 q822 q824 q18 pdX6_sees ⟨rfl, rfl, Nat.le_of_ble_eq_true rfl, Nat.le_of_ble_eq_true rfl⟩ hK hZ hP hD hS hA [0, 1] [2, 3, 4] [3, 4, 0, 1, 2] rfl rfl rfl rfl rfl rfl rfl rfl rfl rfl hl.1 rfl (Nat.le_of_ble_eq_true rfl) dX6_readB_8 rfl (fun H locs hP hD hS => ?_)
  refine lv_if_ne (tgt := 32) hx hb dX6_readB_11 (by decide) (fun hc6 => ?_) (fun hc6 => ?_)
  · have hf := in_el hc6 hf
    exact h32 x1 Ta_1 Dr_2 _ _ _ hP hD hS (lv_sub hl [0, 1] rfl) hf
  · have hf := ip_el hc6 hf
    refine lv_aload_n hx hb dX6_readB_14 rfl (lv_at hl 0 rfl) ?_
    refine lv_bipush (v := 61) hx hb dX6_readB_15 (by decide) ?_
    obtain ⟨r15, hg16, hf⟩ := b1_el hf
    refine cc_V (w' := ((kX6 cs ata (.ref (adr 0)) Ta_1) ++ ((kX3 cs adr  Dr_2)))) (wr := (kX3 cs adr  Dr_2)) (st1 := [.int r15]) [.int 61] hx hb hml hown hu (tX6_sees l D cs ata adr 61 Ta_1 r15 hg16) q825 q60 q822 q824 q18 pdX6_sees ⟨rfl, rfl, Nat.le_of_ble_eq_true rfl, Nat.le_of_ble_eq_true rfl⟩ hK hZ hP hD hS hA [0, 1] [2, 3, 4] [3, 4, 0, 1, 2] rfl rfl rfl rfl rfl rfl rfl rfl rfl rfl hl.1 rfl (Nat.le_of_ble_eq_true rfl) dX6_readB_17 rfl (fun H locs hP hD hS => ?_)
    refine lv_if_ne (tgt := 32) hx hb dX6_readB_20 (by decide) (fun hc17 => ?_) (fun hc17 => ?_)
    · have hf := in_el hc17 hf
      exact h32 x1 Ta_1 Dr_2 _ _ _ hP hD hS (lv_sub hl [0, 1] rfl) hf
    · have hf := ip_el hc17 hf
      refine lv_aload_n hx hb dX6_readB_23 rfl (lv_at hl 0 rfl) ?_
      refine lv_bipush (v := 62) hx hb dX6_readB_24 (by decide) ?_
      obtain ⟨r18, hg19, hf⟩ := b1_el hf
      refine cc_V (w' := ((kX6 cs ata (.ref (adr 0)) Ta_1) ++ ((kX3 cs adr  Dr_2)))) (wr := (kX3 cs adr  Dr_2)) (st1 := [.int r18]) [.int 62] hx hb hml hown hu (tX6_sees l D cs ata adr 62 Ta_1 r18 hg19) q825 q60 q822 q824 q18 pdX6_sees ⟨rfl, rfl, Nat.le_of_ble_eq_true rfl, Nat.le_of_ble_eq_true rfl⟩ hK hZ hP hD hS hA [0, 1] [2, 3, 4] [3, 4, 0, 1, 2] rfl rfl rfl rfl rfl rfl rfl rfl rfl rfl hl.1 rfl (Nat.le_of_ble_eq_true rfl) dX6_readB_26 rfl (fun H locs hP hD hS => ?_)
      refine lv_if_eq (tgt := 65) hx hb dX6_readB_29 (by decide) (fun hc20 => ?_) (fun hc20 => ?_)
      · have hf := ip_el hc20 hf
        have he := Option.some.inj hf
        obtain ⟨e0, e1⟩ := Prod.mk.inj he
        exact hrv _ _ rfl rfl dX6_readB_65 _ _ _ (by rw [e0, e1]) hP hD hS
      · have hf := in_el hc20 hf
        exact h32 x1 Ta_1 Dr_2 _ _ _ hP hD hS (lv_sub hl [0, 1] rfl) hf

def fX6_readA_4_7_s (k7 : Int32 → Int32 → ST → ST → Option (ST × ST)) (y1 : Int32) (y2 : Int32) (Ta : ST) (Dr : ST) : Option (ST × ST) :=
  (if 80 ≤ y2 then some (Ta, Dr) else dc_b2 (fX6_takes 38 Ta) (fun r5 Ta_6 => (if r5 = 0 then some (Ta_6, Dr) else dc_b2 (fX6_readB_4 y1 Ta_6 Dr) (fun Ta_9 Dr_10 => dc_b1 (fX3_putSign 38 Dr_10) (fun Dr_12 => dc_lt (y2 + 1) (fun v14 => k7 y1 v14 Ta_9 Dr_12))))))
def fX6_readA_4_7 : Nat → Int32 → Int32 → ST → ST → Option (ST × ST)
  | 0 => fun _ _ _ _ => none
  | n + 1 => fX6_readA_4_7_s (fX6_readA_4_7 n)
def fX6_readA_4 (x1 : Int32) (Ta : ST) (Dr : ST) : Option (ST × ST) :=
  dc_b2 (fX6_readB_4 x1 Ta Dr) (fun Ta_1 Dr_2 => fX6_readA_4_7 400 x1 0 Ta_1 Dr_2)
abbrev rmX6_readA_4 : Room := { frames := 14, cells := 0, slots := 0, locals := 328 }
set_option maxRecDepth 100000 in
set_option maxHeartbeats 4000000 in
theorem tX6_readA_4 (l : Launch) (D : va_G) (cs : Nat → ClassId) (ata : Nat → Nat) (adr : Nat → Nat) (x1 : Int32) (Ta : ST) (Dr : ST) (Taz : ST) (Drz : ST) (hf : fX6_readA_4 x1 Ta Dr = some (Taz, Drz)) : CG l yX6_readA (wsm yX6_readA cX6_readA 3 none) rmX6_readA_4 D cs [.ref (ata 0), .int x1] none ((kX6 cs ata (.ref (adr 0)) Ta) ++ ((kX3 cs adr  Dr))) ((kX6 cs ata (.ref (adr 0)) Taz) ++ ((kX3 cs adr  Drz))) := by
  refine CG.intro (by decide) (Nat.le_of_ble_eq_true rfl) ?_
  intro p e s m below meth c A Q hx hb hml hown hu hK hZ hP0 hD0 hS0 hA hri hrz hrl hrv hra ls0 hl0
  have hs7 : ∀ (k7 : Int32 → Int32 → ST → ST → Option (ST × ST)), (∀ (y1 : Int32) (y2 : Int32) (Ta : ST) (Dr : ST) (H : Heap) (locs : List Loc) (ls : Array Slot), va_P D vwCl ((kX6 cs ata (.ref (adr 0)) Ta) ++ ((kX3 cs adr  Dr))) H → va_D A ((kX6 cs ata (.ref (adr 0)) Ta) ++ ((kX3 cs adr  Dr))) → va_S A s.heap H locs → lv_has ls 3 [(0, .ref (ata 0)), (1, .int y1), (2, .int y2)] → k7 y1 y2 Ta Dr = some (Taz, Drz) → W p l e rmX6_readA_4 s m [.ref (ata 0), .int x1].toArray below meth c H locs 0 0 Q (F0 m 7 ls [])) → ∀ (y1 : Int32) (y2 : Int32) (Ta : ST) (Dr : ST) (H : Heap) (locs : List Loc) (ls : Array Slot), va_P D vwCl ((kX6 cs ata (.ref (adr 0)) Ta) ++ ((kX3 cs adr  Dr))) H → va_D A ((kX6 cs ata (.ref (adr 0)) Ta) ++ ((kX3 cs adr  Dr))) → va_S A s.heap H locs → lv_has ls 3 [(0, .ref (ata 0)), (1, .int y1), (2, .int y2)] → fX6_readA_4_7_s k7 y1 y2 Ta Dr = some (Taz, Drz) → W p l e rmX6_readA_4 s m [.ref (ata 0), .int x1].toArray below meth c H locs 0 0 Q (F0 m 7 ls []) := by
    intro k7 hk7 y1 y2 Ta Dr H locs ls hP hD hS hl hf
    unfold fX6_readA_4_7_s at hf
    refine lv_iload_n hx hb dX6_readA_7 rfl (lv_at hl 2 rfl) ?_
    refine lv_bipush (v := 80) hx hb dX6_readA_8 (by decide) ?_
    refine lv_icmp_ge (tgt := 42) hx hb dX6_readA_10 (by decide) (fun hc4 => ?_) (fun hc4 => ?_)
    · have hf := ip_el hc4 hf
      have he := Option.some.inj hf
      obtain ⟨e0, e1⟩ := Prod.mk.inj he
      exact hrv _ _ rfl rfl dX6_readA_42 _ _ _ (by rw [e0, e1]) hP hD hS
    · have hf := in_el hc4 hf
      refine lv_aload_n hx hb dX6_readA_13 rfl (lv_at hl 0 rfl) ?_
      refine lv_bipush (v := 38) hx hb dX6_readA_14 (by decide) ?_
      obtain ⟨r5, Ta_6, hg7, hf⟩ := b2_el hf
      refine cc_V (w' := ((kX6 cs ata (.ref (adr 0)) Ta_6) ++ ((kX3 cs adr  Dr)))) (wr := (kX3 cs adr  Dr)) (st1 := [.int r5]) [.int 38] hx hb hml hown hu (tX6_takes l D cs ata adr 38 Ta r5 Ta_6 hg7) q821 q60 q818 q820 q17 pdX6_takes ⟨rfl, rfl, Nat.le_of_ble_eq_true rfl, Nat.le_of_ble_eq_true rfl⟩ hK hZ hP hD hS hA [0, 1] [2, 3, 4] [3, 4, 0, 1, 2] rfl rfl rfl rfl rfl rfl rfl rfl rfl rfl hl.1 rfl (Nat.le_of_ble_eq_true rfl) dX6_readA_16 rfl (fun H locs hP hD hS => ?_)
      refine lv_if_eq (tgt := 42) hx hb dX6_readA_19 (by decide) (fun hc8 => ?_) (fun hc8 => ?_)
      · have hf := ip_el hc8 hf
        have he := Option.some.inj hf
        obtain ⟨e0, e1⟩ := Prod.mk.inj he
        exact hrv _ _ rfl rfl dX6_readA_42 _ _ _ (by rw [e0, e1]) hP hD hS
      · have hf := in_el hc8 hf
        refine lv_aload_n hx hb dX6_readA_22 rfl (lv_at hl 0 rfl) ?_
        refine lv_iload_n hx hb dX6_readA_23 rfl (lv_at hl 1 rfl) ?_
        obtain ⟨Ta_9, Dr_10, hg11, hf⟩ := b2_el hf
        refine cc_V1 (w' := ((kX6 cs ata (.ref (adr 0)) Ta_9) ++ ((kX3 cs adr  Dr_10)))) (st1 := []) [.int y1] hx hb hml hown hu (tX6_readB_4 l D cs ata adr y1 Ta_6 Dr Ta_9 Dr_10 hg11) q701 q60 q698 q700 q11 pdX6_readB ⟨rfl, rfl, Nat.le_of_ble_eq_true rfl, Nat.le_of_ble_eq_true rfl⟩ hK hZ hP hD hS hA rfl rfl rfl rfl hl.1 rfl (Nat.le_of_ble_eq_true rfl) dX6_readA_24 rfl (fun H locs hP hD hS => ?_)
        refine lv_aload_n hx hb dX6_readA_27 rfl (lv_at hl 0 rfl) ?_
        refine va_get (D := D) (ci := 6) (v := .ref (adr 0)) (C := RX6) (T := TX6) (N := 5) hx hb hu inX6 hown hK.1 hP 0 rfl rfl 1 (by decide) (hu _ q260) (fun _ h9 => h9) rfl dX6_readA_28 ?_
        refine lv_bipush (v := 38) hx hb dX6_readA_31 (by decide) ?_
        obtain ⟨Dr_12, hg13, hf⟩ := b1_el hf
        refine cc_V (w' := ((kX6 cs ata (.ref (adr 0)) Ta_9) ++ ((kX3 cs adr  Dr_12)))) (wr := (kX6 cs ata (.ref (adr 0)) Ta_9)) (st1 := []) [.int 38] hx hb hml hown hu (tX3_putSign l D cs adr 38 Dr_10 Dr_12 hg13) q816 q57 q813 q814 q815 pdX3_putSign ⟨rfl, rfl, Nat.le_of_ble_eq_true rfl, Nat.le_of_ble_eq_true rfl⟩ hK hZ hP hD hS hA [2, 3, 4] [0, 1] [0, 1, 2, 3, 4] rfl rfl rfl rfl rfl rfl rfl rfl rfl rfl hl.1 rfl (Nat.le_of_ble_eq_true rfl) dX6_readA_33 rfl (fun H locs hP hD hS => ?_)
        obtain ⟨v14, hv14, hf⟩ := lt_el hf
        refine lv_iinc (v := v14) (lv' := [(2, .int v14), (0, .ref (ata 0)), (1, .int y1)]) hx hb dX6_readA_36 hl (k := 2) rfl (by rw [hv14]; rfl) (by decide) rfl (fun ls hl => ?_)
        refine lv_goto (tgt := 7) hx hb dX6_readA_39 (by decide) ?_
        exact hk7 y1 v14 Ta_9 Dr_12 _ _ _ hP hD hS (lv_sub hl [1, 2, 0] rfl) hf
  have h7 : ∀ (n : Nat), ∀ (y1 : Int32) (y2 : Int32) (Ta : ST) (Dr : ST) (H : Heap) (locs : List Loc) (ls : Array Slot), va_P D vwCl ((kX6 cs ata (.ref (adr 0)) Ta) ++ ((kX3 cs adr  Dr))) H → va_D A ((kX6 cs ata (.ref (adr 0)) Ta) ++ ((kX3 cs adr  Dr))) → va_S A s.heap H locs → lv_has ls 3 [(0, .ref (ata 0)), (1, .int y1), (2, .int y2)] → fX6_readA_4_7 n y1 y2 Ta Dr = some (Taz, Drz) → W p l e rmX6_readA_4 s m [.ref (ata 0), .int x1].toArray below meth c H locs 0 0 Q (F0 m 7 ls []) := by
    intro n
    induction n with
    | zero => intro y1 y2 Ta Dr H locs ls hP hD hS hl hf; exact no_el hf
    | succ n ih => intro y1 y2 Ta Dr H locs ls hP hD hS hl hf; exact hs7 _ ih y1 y2 Ta Dr _ _ _ hP hD hS hl hf
  have hl : lv_has ls0 3 [(0, .ref (ata 0)), (1, .int x1)] := hl0
  have hP := hP0
  have hD := hD0
  have hS := hS0
  unfold fX6_readA_4 at hf
  refine lv_aload_n hx hb dX6_readA_0 rfl (lv_at hl 0 rfl) ?_
  refine lv_iload_n hx hb dX6_readA_1 rfl (lv_at hl 1 rfl) ?_
  obtain ⟨Ta_1, Dr_2, hg3, hf⟩ := b2_el hf
  refine cc_V1 (w' := ((kX6 cs ata (.ref (adr 0)) Ta_1) ++ ((kX3 cs adr  Dr_2)))) (st1 := []) [.int x1] hx hb hml hown hu (tX6_readB_4 l D cs ata adr x1 Ta Dr Ta_1 Dr_2 hg3) q701 q60 q698 q700 q11 pdX6_readB ⟨rfl, rfl, Nat.le_of_ble_eq_true rfl, Nat.le_of_ble_eq_true rfl⟩ hK hZ hP hD hS hA rfl rfl rfl rfl hl.1 rfl (Nat.le_of_ble_eq_true rfl) dX6_readA_2 rfl (fun H locs hP hD hS => ?_)
  refine lv_iconst (v := 0) hx hb dX6_readA_5 (by decide) ?_
  refine lv_istore_n (lv' := [(2, .int 0), (0, .ref (ata 0)), (1, .int x1)]) hx hb dX6_readA_6 rfl hl (by decide) rfl (fun ls hl => ?_)
  exact h7 400 x1 0 Ta_1 Dr_2 _ _ _ hP hD hS (lv_sub hl [1, 2, 0] rfl) hf

def fX6_readT_4_7_s (k7 : Int32 → Int32 → ST → ST → Option (ST × ST)) (y1 : Int32) (y2 : Int32) (Ta : ST) (Dr : ST) : Option (ST × ST) :=
  (if 80 ≤ y2 then some (Ta, Dr) else dc_b2 (fX6_takes 124 Ta) (fun r5 Ta_6 => (if r5 = 0 then some (Ta_6, Dr) else dc_b2 (fX6_readA_4 y1 Ta_6 Dr) (fun Ta_9 Dr_10 => dc_b1 (fX3_putSign 124 Dr_10) (fun Dr_12 => dc_lt (y2 + 1) (fun v14 => k7 y1 v14 Ta_9 Dr_12))))))
def fX6_readT_4_7 : Nat → Int32 → Int32 → ST → ST → Option (ST × ST)
  | 0 => fun _ _ _ _ => none
  | n + 1 => fX6_readT_4_7_s (fX6_readT_4_7 n)
def fX6_readT_4 (x1 : Int32) (Ta : ST) (Dr : ST) : Option (ST × ST) :=
  dc_b2 (fX6_readA_4 x1 Ta Dr) (fun Ta_1 Dr_2 => fX6_readT_4_7 400 x1 0 Ta_1 Dr_2)
abbrev rmX6_readT_4 : Room := { frames := 15, cells := 0, slots := 0, locals := 350 }
set_option maxRecDepth 100000 in
set_option maxHeartbeats 4000000 in
theorem tX6_readT_4 (l : Launch) (D : va_G) (cs : Nat → ClassId) (ata : Nat → Nat) (adr : Nat → Nat) (x1 : Int32) (Ta : ST) (Dr : ST) (Taz : ST) (Drz : ST) (hf : fX6_readT_4 x1 Ta Dr = some (Taz, Drz)) : CG l yX6_readT (wsm yX6_readT cX6_readT 3 none) rmX6_readT_4 D cs [.ref (ata 0), .int x1] none ((kX6 cs ata (.ref (adr 0)) Ta) ++ ((kX3 cs adr  Dr))) ((kX6 cs ata (.ref (adr 0)) Taz) ++ ((kX3 cs adr  Drz))) := by
  refine CG.intro (by decide) (Nat.le_of_ble_eq_true rfl) ?_
  intro p e s m below meth c A Q hx hb hml hown hu hK hZ hP0 hD0 hS0 hA hri hrz hrl hrv hra ls0 hl0
  have hs7 : ∀ (k7 : Int32 → Int32 → ST → ST → Option (ST × ST)), (∀ (y1 : Int32) (y2 : Int32) (Ta : ST) (Dr : ST) (H : Heap) (locs : List Loc) (ls : Array Slot), va_P D vwCl ((kX6 cs ata (.ref (adr 0)) Ta) ++ ((kX3 cs adr  Dr))) H → va_D A ((kX6 cs ata (.ref (adr 0)) Ta) ++ ((kX3 cs adr  Dr))) → va_S A s.heap H locs → lv_has ls 3 [(0, .ref (ata 0)), (1, .int y1), (2, .int y2)] → k7 y1 y2 Ta Dr = some (Taz, Drz) → W p l e rmX6_readT_4 s m [.ref (ata 0), .int x1].toArray below meth c H locs 0 0 Q (F0 m 7 ls [])) → ∀ (y1 : Int32) (y2 : Int32) (Ta : ST) (Dr : ST) (H : Heap) (locs : List Loc) (ls : Array Slot), va_P D vwCl ((kX6 cs ata (.ref (adr 0)) Ta) ++ ((kX3 cs adr  Dr))) H → va_D A ((kX6 cs ata (.ref (adr 0)) Ta) ++ ((kX3 cs adr  Dr))) → va_S A s.heap H locs → lv_has ls 3 [(0, .ref (ata 0)), (1, .int y1), (2, .int y2)] → fX6_readT_4_7_s k7 y1 y2 Ta Dr = some (Taz, Drz) → W p l e rmX6_readT_4 s m [.ref (ata 0), .int x1].toArray below meth c H locs 0 0 Q (F0 m 7 ls []) := by
    intro k7 hk7 y1 y2 Ta Dr H locs ls hP hD hS hl hf
    unfold fX6_readT_4_7_s at hf
    refine lv_iload_n hx hb dX6_readT_7 rfl (lv_at hl 2 rfl) ?_
    refine lv_bipush (v := 80) hx hb dX6_readT_8 (by decide) ?_
    refine lv_icmp_ge (tgt := 42) hx hb dX6_readT_10 (by decide) (fun hc4 => ?_) (fun hc4 => ?_)
    · have hf := ip_el hc4 hf
      have he := Option.some.inj hf
      obtain ⟨e0, e1⟩ := Prod.mk.inj he
      exact hrv _ _ rfl rfl dX6_readT_42 _ _ _ (by rw [e0, e1]) hP hD hS
    · have hf := in_el hc4 hf
      refine lv_aload_n hx hb dX6_readT_13 rfl (lv_at hl 0 rfl) ?_
      refine lv_bipush (v := 124) hx hb dX6_readT_14 (by decide) ?_
      obtain ⟨r5, Ta_6, hg7, hf⟩ := b2_el hf
      refine cc_V (w' := ((kX6 cs ata (.ref (adr 0)) Ta_6) ++ ((kX3 cs adr  Dr)))) (wr := (kX3 cs adr  Dr)) (st1 := [.int r5]) [.int 124] hx hb hml hown hu (tX6_takes l D cs ata adr 124 Ta r5 Ta_6 hg7) q821 q60 q818 q820 q17 pdX6_takes ⟨rfl, rfl, Nat.le_of_ble_eq_true rfl, Nat.le_of_ble_eq_true rfl⟩ hK hZ hP hD hS hA [0, 1] [2, 3, 4] [3, 4, 0, 1, 2] rfl rfl rfl rfl rfl rfl rfl rfl rfl rfl hl.1 rfl (Nat.le_of_ble_eq_true rfl) dX6_readT_16 rfl (fun H locs hP hD hS => ?_)
      refine lv_if_eq (tgt := 42) hx hb dX6_readT_19 (by decide) (fun hc8 => ?_) (fun hc8 => ?_)
      · have hf := ip_el hc8 hf
        have he := Option.some.inj hf
        obtain ⟨e0, e1⟩ := Prod.mk.inj he
        exact hrv _ _ rfl rfl dX6_readT_42 _ _ _ (by rw [e0, e1]) hP hD hS
      · have hf := in_el hc8 hf
        refine lv_aload_n hx hb dX6_readT_22 rfl (lv_at hl 0 rfl) ?_
        refine lv_iload_n hx hb dX6_readT_23 rfl (lv_at hl 1 rfl) ?_
        obtain ⟨Ta_9, Dr_10, hg11, hf⟩ := b2_el hf
        refine cc_V1 (w' := ((kX6 cs ata (.ref (adr 0)) Ta_9) ++ ((kX3 cs adr  Dr_10)))) (st1 := []) [.int y1] hx hb hml hown hu (tX6_readA_4 l D cs ata adr y1 Ta_6 Dr Ta_9 Dr_10 hg11) q697 q60 q694 q696 q10 pdX6_readA ⟨rfl, rfl, Nat.le_of_ble_eq_true rfl, Nat.le_of_ble_eq_true rfl⟩ hK hZ hP hD hS hA rfl rfl rfl rfl hl.1 rfl (Nat.le_of_ble_eq_true rfl) dX6_readT_24 rfl (fun H locs hP hD hS => ?_)
        refine lv_aload_n hx hb dX6_readT_27 rfl (lv_at hl 0 rfl) ?_
        refine va_get (D := D) (ci := 6) (v := .ref (adr 0)) (C := RX6) (T := TX6) (N := 5) hx hb hu inX6 hown hK.1 hP 0 rfl rfl 1 (by decide) (hu _ q260) (fun _ h9 => h9) rfl dX6_readT_28 ?_
        refine lv_bipush (v := 124) hx hb dX6_readT_31 (by decide) ?_
        obtain ⟨Dr_12, hg13, hf⟩ := b1_el hf
        refine cc_V (w' := ((kX6 cs ata (.ref (adr 0)) Ta_9) ++ ((kX3 cs adr  Dr_12)))) (wr := (kX6 cs ata (.ref (adr 0)) Ta_9)) (st1 := []) [.int 124] hx hb hml hown hu (tX3_putSign l D cs adr 124 Dr_10 Dr_12 hg13) q816 q57 q813 q814 q815 pdX3_putSign ⟨rfl, rfl, Nat.le_of_ble_eq_true rfl, Nat.le_of_ble_eq_true rfl⟩ hK hZ hP hD hS hA [2, 3, 4] [0, 1] [0, 1, 2, 3, 4] rfl rfl rfl rfl rfl rfl rfl rfl rfl rfl hl.1 rfl (Nat.le_of_ble_eq_true rfl) dX6_readT_33 rfl (fun H locs hP hD hS => ?_)
        obtain ⟨v14, hv14, hf⟩ := lt_el hf
        refine lv_iinc (v := v14) (lv' := [(2, .int v14), (0, .ref (ata 0)), (1, .int y1)]) hx hb dX6_readT_36 hl (k := 2) rfl (by rw [hv14]; rfl) (by decide) rfl (fun ls hl => ?_)
        refine lv_goto (tgt := 7) hx hb dX6_readT_39 (by decide) ?_
        exact hk7 y1 v14 Ta_9 Dr_12 _ _ _ hP hD hS (lv_sub hl [1, 2, 0] rfl) hf
  have h7 : ∀ (n : Nat), ∀ (y1 : Int32) (y2 : Int32) (Ta : ST) (Dr : ST) (H : Heap) (locs : List Loc) (ls : Array Slot), va_P D vwCl ((kX6 cs ata (.ref (adr 0)) Ta) ++ ((kX3 cs adr  Dr))) H → va_D A ((kX6 cs ata (.ref (adr 0)) Ta) ++ ((kX3 cs adr  Dr))) → va_S A s.heap H locs → lv_has ls 3 [(0, .ref (ata 0)), (1, .int y1), (2, .int y2)] → fX6_readT_4_7 n y1 y2 Ta Dr = some (Taz, Drz) → W p l e rmX6_readT_4 s m [.ref (ata 0), .int x1].toArray below meth c H locs 0 0 Q (F0 m 7 ls []) := by
    intro n
    induction n with
    | zero => intro y1 y2 Ta Dr H locs ls hP hD hS hl hf; exact no_el hf
    | succ n ih => intro y1 y2 Ta Dr H locs ls hP hD hS hl hf; exact hs7 _ ih y1 y2 Ta Dr _ _ _ hP hD hS hl hf
  have hl : lv_has ls0 3 [(0, .ref (ata 0)), (1, .int x1)] := hl0
  have hP := hP0
  have hD := hD0
  have hS := hS0
  unfold fX6_readT_4 at hf
  refine lv_aload_n hx hb dX6_readT_0 rfl (lv_at hl 0 rfl) ?_
  refine lv_iload_n hx hb dX6_readT_1 rfl (lv_at hl 1 rfl) ?_
  obtain ⟨Ta_1, Dr_2, hg3, hf⟩ := b2_el hf
  refine cc_V1 (w' := ((kX6 cs ata (.ref (adr 0)) Ta_1) ++ ((kX3 cs adr  Dr_2)))) (st1 := []) [.int x1] hx hb hml hown hu (tX6_readA_4 l D cs ata adr x1 Ta Dr Ta_1 Dr_2 hg3) q697 q60 q694 q696 q10 pdX6_readA ⟨rfl, rfl, Nat.le_of_ble_eq_true rfl, Nat.le_of_ble_eq_true rfl⟩ hK hZ hP hD hS hA rfl rfl rfl rfl hl.1 rfl (Nat.le_of_ble_eq_true rfl) dX6_readT_2 rfl (fun H locs hP hD hS => ?_)
  refine lv_iconst (v := 0) hx hb dX6_readT_5 (by decide) ?_
  refine lv_istore_n (lv' := [(2, .int 0), (0, .ref (ata 0)), (1, .int x1)]) hx hb dX6_readT_6 rfl hl (by decide) rfl (fun ls hl => ?_)
  exact h7 400 x1 0 Ta_1 Dr_2 _ _ _ hP hD hS (lv_sub hl [1, 2, 0] rfl) hf

def fX6_readQ_3_144 (y1 : Int32) (Ta : ST) (Dr : ST) : Option (ST × ST) :=
  (if 5 ≤ y1 then dc_lt (sti Ta 0 4 1) (fun Ta_8 => some (Ta_8, Dr)) else dc_b2 (fX6_takes 40 Ta) (fun r9 Ta_10 => (if r9 = 0 then dc_lt (sti Ta_10 0 4 1) (fun Ta_13 => some (Ta_13, Dr)) else dc_b2 (fX6_readT_4 (y1 + 1) Ta_10 Dr) (fun Ta_14 Dr_15 => dc_b2 (fX6_takes 41 Ta_14) (fun r17 Ta_18 => (if r17 = 0 then dc_lt (sti Ta_18 0 4 1) (fun Ta_21 => some (Ta_21, Dr_15)) else some (Ta_18, Dr_15)))))))
def fX6_readQ_3_111 (y1 : Int32) (Ta : ST) (Dr : ST) : Option (ST × ST) :=
  (if 5 ≤ y1 then fX6_readQ_3_144 y1 Ta Dr else dc_b2 (fX6_takes 45 Ta) (fun r22 Ta_23 => (if r22 = 0 then fX6_readQ_3_144 y1 Ta_23 Dr else dc_b2 (fX6_readQ_4 (y1 + 1) Ta_23 Dr) (fun Ta_26 Dr_27 => dc_b1 (fX3_putSign 126 Dr_27) (fun Dr_29 => some (Ta_26, Dr_29))))))
def fX6_readQ_3_78 (y1 : Int32) (Ta : ST) (Dr : ST) : Option (ST × ST) :=
  (if 5 ≤ y1 then fX6_readQ_3_111 y1 Ta Dr else dc_b2 (fX6_takes 33 Ta) (fun r31 Ta_32 => (if r31 = 0 then fX6_readQ_3_111 y1 Ta_32 Dr else dc_b2 (fX6_readQ_4 (y1 + 1) Ta_32 Dr) (fun Ta_35 Dr_36 => dc_b1 (fX3_putSign 33 Dr_36) (fun Dr_38 => some (Ta_35, Dr_38))))))
def fX6_readQ_3 (x1 : Int32) (Ta : ST) (Dr : ST) : Option (ST × ST) :=
  dc_b1 (fX6_seesDigit Ta) (fun r1 => (if r1 = 0 then (if (Ta 0 4) = 0 then (if (Ta 0 2) ≤ (Ta 0 3) then fX6_readQ_3_78 x1 Ta Dr else dc_ck (Ta 0 3) 80 (dc_b1 (fJ0_indexOf_0f7a4 (Ta 1 (Int32.toNatClampNeg (Ta 0 3)))) (fun r42 => (if r42 < 0 then fX6_readQ_3_78 x1 Ta Dr else dc_ck (Ta 0 3) 80 (dc_b1 (fX3_putSign (Ta 1 (Int32.toNatClampNeg (Ta 0 3))) Dr) (fun Dr_46 => dc_lt (sti Ta 0 3 ((Ta 0 3) + 1)) (fun Ta_48 => some (Ta_48, Dr_46)))))))) else fX6_readQ_3_78 x1 Ta Dr) else dc_b2 (fX6_readNumber Ta Dr) (fun Ta_49 Dr_50 => some (Ta_49, Dr_50))))
abbrev rmX6_readQ_3 : Room := { frames := 16, cells := 0, slots := 0, locals := 372 }
set_option maxRecDepth 100000 in
set_option maxHeartbeats 4000000 in
theorem tX6_readQ_3 (l : Launch) (D : va_G) (cs : Nat → ClassId) (ata : Nat → Nat) (adr : Nat → Nat) (x1 : Int32) (Ta : ST) (Dr : ST) (Taz : ST) (Drz : ST) (hf : fX6_readQ_3 x1 Ta Dr = some (Taz, Drz)) : CG l yX6_readQ (wsm yX6_readQ cX6_readQ 2 none) rmX6_readQ_3 D cs [.ref (ata 0), .int x1] none ((kX6 cs ata (.ref (adr 0)) Ta) ++ ((kX3 cs adr  Dr))) ((kX6 cs ata (.ref (adr 0)) Taz) ++ ((kX3 cs adr  Drz))) := by
  refine CG.intro (by decide) (Nat.le_of_ble_eq_true rfl) ?_
  intro p e s m below meth c A Q hx hb hml hown hu hK hZ hP0 hD0 hS0 hA hri hrz hrl hrv hra ls0 hl0
  have h144 : ∀ (y1 : Int32) (Ta : ST) (Dr : ST) (H : Heap) (locs : List Loc) (ls : Array Slot), va_P D vwCl ((kX6 cs ata (.ref (adr 0)) Ta) ++ ((kX3 cs adr  Dr))) H → va_D A ((kX6 cs ata (.ref (adr 0)) Ta) ++ ((kX3 cs adr  Dr))) → va_S A s.heap H locs → lv_has ls 2 [(0, .ref (ata 0)), (1, .int y1)] → fX6_readQ_3_144 y1 Ta Dr = some (Taz, Drz) → W p l e rmX6_readQ_3 s m [.ref (ata 0), .int x1].toArray below meth c H locs 0 0 Q (F0 m 144 ls []) := by
    intro y1 Ta Dr H locs ls hP hD hS hl hf
    unfold fX6_readQ_3_144 at hf
    refine lv_iload_n hx hb dX6_readQ_144 rfl (lv_at hl 1 rfl) ?_
    refine lv_iconst (v := 5) hx hb dX6_readQ_145 (by decide) ?_
    refine lv_icmp_ge (tgt := 182) hx hb dX6_readQ_146 (by decide) (fun hc7 => ?_) (fun hc7 => ?_)
    · have hf := ip_el hc7 hf
      refine lv_aload_n hx hb dX6_readQ_182 rfl (lv_at hl 0 rfl) ?_
      refine lv_iconst (v := 1) hx hb dX6_readQ_183 (by decide) ?_
      obtain ⟨Ta_8, hTa_8, hf⟩ := lt_el hf
      refine va_put (D := D) (ci := 6) (v := .int 1) (ty := .boolean) (C := RX6) (T := TX6) (N := 5) hx hb hu inX6 tyX6 tyX6_ok nmX6 hown hK.1 hP hD hS 0 rfl rfl 4 (by decide) (hu _ q266) (fun _ h9 => h9) rfl (by decide +kernel) rfl rfl (Nat.le_of_ble_eq_true rfl) dX6_readQ_184 (fun H locs hP hD hS => ?_)
      have hP : va_P D vwCl ((kX6 cs ata (.ref (adr 0)) Ta_8) ++ ((kX3 cs adr  Dr))) H := by rw [hTa_8]; exact hP
      have hD : va_D A ((kX6 cs ata (.ref (adr 0)) Ta_8) ++ ((kX3 cs adr  Dr))) := by rw [hTa_8]; exact hD
      have he := Option.some.inj hf
      obtain ⟨e0, e1⟩ := Prod.mk.inj he
      exact hrv _ _ rfl rfl dX6_readQ_187 _ _ _ (by rw [e0, e1]) hP hD hS
    · have hf := in_el hc7 hf
      refine lv_aload_n hx hb dX6_readQ_149 rfl (lv_at hl 0 rfl) ?_
      refine lv_bipush (v := 40) hx hb dX6_readQ_150 (by decide) ?_
      obtain ⟨r9, Ta_10, hg11, hf⟩ := b2_el hf
      refine cc_V (w' := ((kX6 cs ata (.ref (adr 0)) Ta_10) ++ ((kX3 cs adr  Dr)))) (wr := (kX3 cs adr  Dr)) (st1 := [.int r9]) [.int 40] hx hb hml hown hu (tX6_takes l D cs ata adr 40 Ta r9 Ta_10 hg11) q821 q60 q818 q820 q17 pdX6_takes ⟨rfl, rfl, Nat.le_of_ble_eq_true rfl, Nat.le_of_ble_eq_true rfl⟩ hK hZ hP hD hS hA [0, 1] [2, 3, 4] [3, 4, 0, 1, 2] rfl rfl rfl rfl rfl rfl rfl rfl rfl rfl hl.1 rfl (Nat.le_of_ble_eq_true rfl) dX6_readQ_152 rfl (fun H locs hP hD hS => ?_)
      refine lv_if_eq (tgt := 182) hx hb dX6_readQ_155 (by decide) (fun hc12 => ?_) (fun hc12 => ?_)
      · have hf := ip_el hc12 hf
        refine lv_aload_n hx hb dX6_readQ_182 rfl (lv_at hl 0 rfl) ?_
        refine lv_iconst (v := 1) hx hb dX6_readQ_183 (by decide) ?_
        obtain ⟨Ta_13, hTa_13, hf⟩ := lt_el hf
        refine va_put (D := D) (ci := 6) (v := .int 1) (ty := .boolean) (C := RX6) (T := TX6) (N := 5) hx hb hu inX6 tyX6 tyX6_ok nmX6 hown hK.1 hP hD hS 0 rfl rfl 4 (by decide) (hu _ q266) (fun _ h9 => h9) rfl (by decide +kernel) rfl rfl (Nat.le_of_ble_eq_true rfl) dX6_readQ_184 (fun H locs hP hD hS => ?_)
        have hP : va_P D vwCl ((kX6 cs ata (.ref (adr 0)) Ta_13) ++ ((kX3 cs adr  Dr))) H := by rw [hTa_13]; exact hP
        have hD : va_D A ((kX6 cs ata (.ref (adr 0)) Ta_13) ++ ((kX3 cs adr  Dr))) := by rw [hTa_13]; exact hD
        have he := Option.some.inj hf
        obtain ⟨e0, e1⟩ := Prod.mk.inj he
        exact hrv _ _ rfl rfl dX6_readQ_187 _ _ _ (by rw [e0, e1]) hP hD hS
      · have hf := in_el hc12 hf
        refine lv_aload_n hx hb dX6_readQ_158 rfl (lv_at hl 0 rfl) ?_
        refine lv_iload_n hx hb dX6_readQ_159 rfl (lv_at hl 1 rfl) ?_
        refine lv_iconst (v := 1) hx hb dX6_readQ_160 (by decide) ?_
        refine lv_iadd hx hb dX6_readQ_161 ?_
        obtain ⟨Ta_14, Dr_15, hg16, hf⟩ := b2_el hf
        refine cc_V1 (w' := ((kX6 cs ata (.ref (adr 0)) Ta_14) ++ ((kX3 cs adr  Dr_15)))) (st1 := []) [.int (y1 + 1)] hx hb hml hown hu (tX6_readT_4 l D cs ata adr (y1 + 1) Ta_10 Dr Ta_14 Dr_15 hg16) q693 q60 q690 q692 q9 pdX6_readT ⟨rfl, rfl, Nat.le_of_ble_eq_true rfl, Nat.le_of_ble_eq_true rfl⟩ hK hZ hP hD hS hA rfl rfl rfl rfl hl.1 rfl (Nat.le_of_ble_eq_true rfl) dX6_readQ_162 rfl (fun H locs hP hD hS => ?_)
        refine lv_aload_n hx hb dX6_readQ_165 rfl (lv_at hl 0 rfl) ?_
        refine lv_bipush (v := 41) hx hb dX6_readQ_166 (by decide) ?_
        obtain ⟨r17, Ta_18, hg19, hf⟩ := b2_el hf
        refine cc_V (w' := ((kX6 cs ata (.ref (adr 0)) Ta_18) ++ ((kX3 cs adr  Dr_15)))) (wr := (kX3 cs adr  Dr_15)) (st1 := [.int r17]) [.int 41] hx hb hml hown hu (tX6_takes l D cs ata adr 41 Ta_14 r17 Ta_18 hg19) q821 q60 q818 q820 q17 pdX6_takes ⟨rfl, rfl, Nat.le_of_ble_eq_true rfl, Nat.le_of_ble_eq_true rfl⟩ hK hZ hP hD hS hA [0, 1] [2, 3, 4] [3, 4, 0, 1, 2] rfl rfl rfl rfl rfl rfl rfl rfl rfl rfl hl.1 rfl (Nat.le_of_ble_eq_true rfl) dX6_readQ_168 rfl (fun H locs hP hD hS => ?_)
        refine lv_if_ne (tgt := 187) hx hb dX6_readQ_171 (by decide) (fun hc20 => ?_) (fun hc20 => ?_)
        · have hf := in_el hc20 hf
          have he := Option.some.inj hf
          obtain ⟨e0, e1⟩ := Prod.mk.inj he
          exact hrv _ _ rfl rfl dX6_readQ_187 _ _ _ (by rw [e0, e1]) hP hD hS
        · have hf := ip_el hc20 hf
          refine lv_aload_n hx hb dX6_readQ_174 rfl (lv_at hl 0 rfl) ?_
          refine lv_iconst (v := 1) hx hb dX6_readQ_175 (by decide) ?_
          obtain ⟨Ta_21, hTa_21, hf⟩ := lt_el hf
          refine va_put (D := D) (ci := 6) (v := .int 1) (ty := .boolean) (C := RX6) (T := TX6) (N := 5) hx hb hu inX6 tyX6 tyX6_ok nmX6 hown hK.1 hP hD hS 0 rfl rfl 4 (by decide) (hu _ q266) (fun _ h9 => h9) rfl (by decide +kernel) rfl rfl (Nat.le_of_ble_eq_true rfl) dX6_readQ_176 (fun H locs hP hD hS => ?_)
          have hP : va_P D vwCl ((kX6 cs ata (.ref (adr 0)) Ta_21) ++ ((kX3 cs adr  Dr_15))) H := by rw [hTa_21]; exact hP
          have hD : va_D A ((kX6 cs ata (.ref (adr 0)) Ta_21) ++ ((kX3 cs adr  Dr_15))) := by rw [hTa_21]; exact hD
          refine lv_goto (tgt := 187) hx hb dX6_readQ_179 (by decide) ?_
          have he := Option.some.inj hf
          obtain ⟨e0, e1⟩ := Prod.mk.inj he
          exact hrv _ _ rfl rfl dX6_readQ_187 _ _ _ (by rw [e0, e1]) hP hD hS
  have h111 : ∀ (y1 : Int32) (Ta : ST) (Dr : ST) (H : Heap) (locs : List Loc) (ls : Array Slot), va_P D vwCl ((kX6 cs ata (.ref (adr 0)) Ta) ++ ((kX3 cs adr  Dr))) H → va_D A ((kX6 cs ata (.ref (adr 0)) Ta) ++ ((kX3 cs adr  Dr))) → va_S A s.heap H locs → lv_has ls 2 [(0, .ref (ata 0)), (1, .int y1)] → fX6_readQ_3_111 y1 Ta Dr = some (Taz, Drz) → W p l e rmX6_readQ_3 s m [.ref (ata 0), .int x1].toArray below meth c H locs 0 0 Q (F0 m 111 ls []) := by
    intro y1 Ta Dr H locs ls hP hD hS hl hf
    unfold fX6_readQ_3_111 at hf
    refine lv_iload_n hx hb dX6_readQ_111 rfl (lv_at hl 1 rfl) ?_
    refine lv_iconst (v := 5) hx hb dX6_readQ_112 (by decide) ?_
    refine lv_icmp_ge (tgt := 144) hx hb dX6_readQ_113 (by decide) (fun hc6 => ?_) (fun hc6 => ?_)
    · have hf := ip_el hc6 hf
      exact h144 y1 Ta Dr _ _ _ hP hD hS (lv_sub hl [0, 1] rfl) hf
    · have hf := in_el hc6 hf
      refine lv_aload_n hx hb dX6_readQ_116 rfl (lv_at hl 0 rfl) ?_
      refine lv_bipush (v := 45) hx hb dX6_readQ_117 (by decide) ?_
      obtain ⟨r22, Ta_23, hg24, hf⟩ := b2_el hf
      refine cc_V (w' := ((kX6 cs ata (.ref (adr 0)) Ta_23) ++ ((kX3 cs adr  Dr)))) (wr := (kX3 cs adr  Dr)) (st1 := [.int r22]) [.int 45] hx hb hml hown hu (tX6_takes l D cs ata adr 45 Ta r22 Ta_23 hg24) q821 q60 q818 q820 q17 pdX6_takes ⟨rfl, rfl, Nat.le_of_ble_eq_true rfl, Nat.le_of_ble_eq_true rfl⟩ hK hZ hP hD hS hA [0, 1] [2, 3, 4] [3, 4, 0, 1, 2] rfl rfl rfl rfl rfl rfl rfl rfl rfl rfl hl.1 rfl (Nat.le_of_ble_eq_true rfl) dX6_readQ_119 rfl (fun H locs hP hD hS => ?_)
      refine lv_if_eq (tgt := 144) hx hb dX6_readQ_122 (by decide) (fun hc25 => ?_) (fun hc25 => ?_)
      · have hf := ip_el hc25 hf
        exact h144 y1 Ta_23 Dr _ _ _ hP hD hS (lv_sub hl [0, 1] rfl) hf
      · have hf := in_el hc25 hf
        refine lv_aload_n hx hb dX6_readQ_125 rfl (lv_at hl 0 rfl) ?_
        refine lv_iload_n hx hb dX6_readQ_126 rfl (lv_at hl 1 rfl) ?_
        refine lv_iconst (v := 1) hx hb dX6_readQ_127 (by decide) ?_
        refine lv_iadd hx hb dX6_readQ_128 ?_
        obtain ⟨Ta_26, Dr_27, hg28, hf⟩ := b2_el hf
        refine cc_V1 (w' := ((kX6 cs ata (.ref (adr 0)) Ta_26) ++ ((kX3 cs adr  Dr_27)))) (st1 := []) [.int (y1 + 1)] hx hb hml hown hu (tX6_readQ_4 l D cs ata adr (y1 + 1) Ta_23 Dr Ta_26 Dr_27 hg28) q713 q60 q710 q712 q14 pdX6_readQ ⟨rfl, rfl, Nat.le_of_ble_eq_true rfl, Nat.le_of_ble_eq_true rfl⟩ hK hZ hP hD hS hA rfl rfl rfl rfl hl.1 rfl (Nat.le_of_ble_eq_true rfl) dX6_readQ_129 rfl (fun H locs hP hD hS => ?_)
        refine lv_aload_n hx hb dX6_readQ_132 rfl (lv_at hl 0 rfl) ?_
        refine va_get (D := D) (ci := 6) (v := .ref (adr 0)) (C := RX6) (T := TX6) (N := 5) hx hb hu inX6 hown hK.1 hP 0 rfl rfl 1 (by decide) (hu _ q260) (fun _ h9 => h9) rfl dX6_readQ_133 ?_
        refine lv_bipush (v := 126) hx hb dX6_readQ_136 (by decide) ?_
        obtain ⟨Dr_29, hg30, hf⟩ := b1_el hf
        refine cc_V (w' := ((kX6 cs ata (.ref (adr 0)) Ta_26) ++ ((kX3 cs adr  Dr_29)))) (wr := (kX6 cs ata (.ref (adr 0)) Ta_26)) (st1 := []) [.int 126] hx hb hml hown hu (tX3_putSign l D cs adr 126 Dr_27 Dr_29 hg30) q816 q57 q813 q814 q815 pdX3_putSign ⟨rfl, rfl, Nat.le_of_ble_eq_true rfl, Nat.le_of_ble_eq_true rfl⟩ hK hZ hP hD hS hA [2, 3, 4] [0, 1] [0, 1, 2, 3, 4] rfl rfl rfl rfl rfl rfl rfl rfl rfl rfl hl.1 rfl (Nat.le_of_ble_eq_true rfl) dX6_readQ_138 rfl (fun H locs hP hD hS => ?_)
        refine lv_goto (tgt := 187) hx hb dX6_readQ_141 (by decide) ?_
        have he := Option.some.inj hf
        obtain ⟨e0, e1⟩ := Prod.mk.inj he
        exact hrv _ _ rfl rfl dX6_readQ_187 _ _ _ (by rw [e0, e1]) hP hD hS
  have h78 : ∀ (y1 : Int32) (Ta : ST) (Dr : ST) (H : Heap) (locs : List Loc) (ls : Array Slot), va_P D vwCl ((kX6 cs ata (.ref (adr 0)) Ta) ++ ((kX3 cs adr  Dr))) H → va_D A ((kX6 cs ata (.ref (adr 0)) Ta) ++ ((kX3 cs adr  Dr))) → va_S A s.heap H locs → lv_has ls 2 [(0, .ref (ata 0)), (1, .int y1)] → fX6_readQ_3_78 y1 Ta Dr = some (Taz, Drz) → W p l e rmX6_readQ_3 s m [.ref (ata 0), .int x1].toArray below meth c H locs 0 0 Q (F0 m 78 ls []) := by
    intro y1 Ta Dr H locs ls hP hD hS hl hf
    unfold fX6_readQ_3_78 at hf
    refine lv_iload_n hx hb dX6_readQ_78 rfl (lv_at hl 1 rfl) ?_
    refine lv_iconst (v := 5) hx hb dX6_readQ_79 (by decide) ?_
    refine lv_icmp_ge (tgt := 111) hx hb dX6_readQ_80 (by decide) (fun hc5 => ?_) (fun hc5 => ?_)
    · have hf := ip_el hc5 hf
      exact h111 y1 Ta Dr _ _ _ hP hD hS (lv_sub hl [0, 1] rfl) hf
    · have hf := in_el hc5 hf
      refine lv_aload_n hx hb dX6_readQ_83 rfl (lv_at hl 0 rfl) ?_
      refine lv_bipush (v := 33) hx hb dX6_readQ_84 (by decide) ?_
      obtain ⟨r31, Ta_32, hg33, hf⟩ := b2_el hf
      refine cc_V (w' := ((kX6 cs ata (.ref (adr 0)) Ta_32) ++ ((kX3 cs adr  Dr)))) (wr := (kX3 cs adr  Dr)) (st1 := [.int r31]) [.int 33] hx hb hml hown hu (tX6_takes l D cs ata adr 33 Ta r31 Ta_32 hg33) q821 q60 q818 q820 q17 pdX6_takes ⟨rfl, rfl, Nat.le_of_ble_eq_true rfl, Nat.le_of_ble_eq_true rfl⟩ hK hZ hP hD hS hA [0, 1] [2, 3, 4] [3, 4, 0, 1, 2] rfl rfl rfl rfl rfl rfl rfl rfl rfl rfl hl.1 rfl (Nat.le_of_ble_eq_true rfl) dX6_readQ_86 rfl (fun H locs hP hD hS => ?_)
      refine lv_if_eq (tgt := 111) hx hb dX6_readQ_89 (by decide) (fun hc34 => ?_) (fun hc34 => ?_)
      · have hf := ip_el hc34 hf
        exact h111 y1 Ta_32 Dr _ _ _ hP hD hS (lv_sub hl [0, 1] rfl) hf
      · have hf := in_el hc34 hf
        refine lv_aload_n hx hb dX6_readQ_92 rfl (lv_at hl 0 rfl) ?_
        refine lv_iload_n hx hb dX6_readQ_93 rfl (lv_at hl 1 rfl) ?_
        refine lv_iconst (v := 1) hx hb dX6_readQ_94 (by decide) ?_
        refine lv_iadd hx hb dX6_readQ_95 ?_
        obtain ⟨Ta_35, Dr_36, hg37, hf⟩ := b2_el hf
        refine cc_V1 (w' := ((kX6 cs ata (.ref (adr 0)) Ta_35) ++ ((kX3 cs adr  Dr_36)))) (st1 := []) [.int (y1 + 1)] hx hb hml hown hu (tX6_readQ_4 l D cs ata adr (y1 + 1) Ta_32 Dr Ta_35 Dr_36 hg37) q713 q60 q710 q712 q14 pdX6_readQ ⟨rfl, rfl, Nat.le_of_ble_eq_true rfl, Nat.le_of_ble_eq_true rfl⟩ hK hZ hP hD hS hA rfl rfl rfl rfl hl.1 rfl (Nat.le_of_ble_eq_true rfl) dX6_readQ_96 rfl (fun H locs hP hD hS => ?_)
        refine lv_aload_n hx hb dX6_readQ_99 rfl (lv_at hl 0 rfl) ?_
        refine va_get (D := D) (ci := 6) (v := .ref (adr 0)) (C := RX6) (T := TX6) (N := 5) hx hb hu inX6 hown hK.1 hP 0 rfl rfl 1 (by decide) (hu _ q260) (fun _ h9 => h9) rfl dX6_readQ_100 ?_
        refine lv_bipush (v := 33) hx hb dX6_readQ_103 (by decide) ?_
        obtain ⟨Dr_38, hg39, hf⟩ := b1_el hf
        refine cc_V (w' := ((kX6 cs ata (.ref (adr 0)) Ta_35) ++ ((kX3 cs adr  Dr_38)))) (wr := (kX6 cs ata (.ref (adr 0)) Ta_35)) (st1 := []) [.int 33] hx hb hml hown hu (tX3_putSign l D cs adr 33 Dr_36 Dr_38 hg39) q816 q57 q813 q814 q815 pdX3_putSign ⟨rfl, rfl, Nat.le_of_ble_eq_true rfl, Nat.le_of_ble_eq_true rfl⟩ hK hZ hP hD hS hA [2, 3, 4] [0, 1] [0, 1, 2, 3, 4] rfl rfl rfl rfl rfl rfl rfl rfl rfl rfl hl.1 rfl (Nat.le_of_ble_eq_true rfl) dX6_readQ_105 rfl (fun H locs hP hD hS => ?_)
        refine lv_goto (tgt := 187) hx hb dX6_readQ_108 (by decide) ?_
        have he := Option.some.inj hf
        obtain ⟨e0, e1⟩ := Prod.mk.inj he
        exact hrv _ _ rfl rfl dX6_readQ_187 _ _ _ (by rw [e0, e1]) hP hD hS
  have hl : lv_has ls0 2 [(0, .ref (ata 0)), (1, .int x1)] := hl0
  have hP := hP0
  have hD := hD0
  have hS := hS0
  unfold fX6_readQ_3 at hf
  refine lv_aload_n hx hb dX6_readQ_0 rfl (lv_at hl 0 rfl) ?_
  obtain ⟨r1, hg2, hf⟩ := b1_el hf
  refine cc_V (w' := ((kX6 cs ata (.ref (adr 0)) Ta) ++ ((kX3 cs adr  Dr)))) (wr := (kX3 cs adr  Dr)) (st1 := [.int r1]) [] hx hb hml hown hu (tX6_seesDigit l D cs ata adr Ta r1 hg2) q717 q60 q714 q716 q15 pdX6_seesDigit ⟨rfl, rfl, Nat.le_of_ble_eq_true rfl, Nat.le_of_ble_eq_true rfl⟩ hK hZ hP hD hS hA [0, 1] [2, 3, 4] [3, 4, 0, 1, 2] rfl rfl rfl rfl rfl rfl rfl rfl rfl rfl hl.1 rfl (Nat.le_of_ble_eq_true rfl) dX6_readQ_1 rfl (fun H locs hP hD hS => ?_)
  refine lv_if_eq (tgt := 14) hx hb dX6_readQ_4 (by decide) (fun hc3 => ?_) (fun hc3 => ?_)
  · have hf := ip_el hc3 hf
    refine lv_aload_n hx hb dX6_readQ_14 rfl (lv_at hl 0 rfl) ?_
    refine va_get (D := D) (ci := 6) (v := .int (Ta 0 4)) (C := RX6) (T := TX6) (N := 5) hx hb hu inX6 hown hK.1 hP 0 rfl rfl 4 (by decide) (hu _ q266) (fun _ h9 => h9) rfl dX6_readQ_15 ?_
    refine lv_if_ne (tgt := 78) hx hb dX6_readQ_18 (by decide) (fun hc4 => ?_) (fun hc4 => ?_)
    · have hf := in_el hc4 hf
      exact h78 x1 Ta Dr _ _ _ hP hD hS (lv_sub hl [0, 1] rfl) hf
    · have hf := ip_el hc4 hf
      refine lv_aload_n hx hb dX6_readQ_21 rfl (lv_at hl 0 rfl) ?_
      refine va_get (D := D) (ci := 6) (v := .int (Ta 0 3)) (C := RX6) (T := TX6) (N := 5) hx hb hu inX6 hown hK.1 hP 0 rfl rfl 3 (by decide) (hu _ q264) (fun _ h9 => h9) rfl dX6_readQ_22 ?_
      refine lv_aload_n hx hb dX6_readQ_25 rfl (lv_at hl 0 rfl) ?_
      refine va_get (D := D) (ci := 6) (v := .int (Ta 0 2)) (C := RX6) (T := TX6) (N := 5) hx hb hu inX6 hown hK.1 hP 0 rfl rfl 2 (by decide) (hu _ q262) (fun _ h9 => h9) rfl dX6_readQ_26 ?_
      refine lv_icmp_ge (tgt := 78) hx hb dX6_readQ_29 (by decide) (fun hc40 => ?_) (fun hc40 => ?_)
      · have hf := ip_el hc40 hf
        exact h78 x1 Ta Dr _ _ _ hP hD hS (lv_sub hl [0, 1] rfl) hf
      · have hf := in_el hc40 hf
        refine va_ldcS hx hb hown hZ.2.2.2.2.1 dX6_readQ_32 ?_
        refine lv_aload_n hx hb dX6_readQ_34 rfl (lv_at hl 0 rfl) ?_
        refine va_get (D := D) (ci := 6) (v := .ref (ata 1)) (C := RX6) (T := TX6) (N := 5) hx hb hu inX6 hown hK.1 hP 0 rfl rfl 0 (by decide) (hu _ q259) (fun _ h9 => h9) rfl dX6_readQ_35 ?_
        refine lv_aload_n hx hb dX6_readQ_38 rfl (lv_at hl 0 rfl) ?_
        refine va_get (D := D) (ci := 6) (v := .int (Ta 0 3)) (C := RX6) (T := TX6) (N := 5) hx hb hu inX6 hown hK.1 hP 0 rfl rfl 3 (by decide) (hu _ q264) (fun _ h9 => h9) rfl dX6_readQ_39 ?_
        obtain ⟨hi41, hf⟩ := ck_el hf
        refine va_cald hx hb hK.1 hP 1 2 rfl rfl hi41 dX6_readQ_42 ?_
        obtain ⟨r42, hg43, hf⟩ := b1_el hf
        refine cc_Z0 (st1 := [.int r42]) [.int (Ta 1 (Int32.toNatClampNeg (Ta 0 3)))] hx hb hml hown hu (tJ0_indexOf_0f7a4 l D cs (Ta 1 (Int32.toNatClampNeg (Ta 0 3))) r42 hg43) q730 q66 q727 q728 q729 pdJ0_indexOf_0f7a4 ⟨rfl, rfl, Nat.le_of_ble_eq_true rfl, Nat.le_of_ble_eq_true rfl⟩ hK hZ hP hD hS hA (vk_recv hZ.2.2.2.2.2 (i := 0) (by decide) hS) rfl hl.1 rfl (Nat.le_of_ble_eq_true rfl) dX6_readQ_43 rfl (fun H locs hP hD hS => ?_)
        refine lv_if_lt (tgt := 78) hx hb dX6_readQ_46 (by decide) (fun hc44 => ?_) (fun hc44 => ?_)
        · have hf := ip_el hc44 hf
          exact h78 x1 Ta Dr _ _ _ hP hD hS (lv_sub hl [0, 1] rfl) hf
        · have hf := in_el hc44 hf
          refine lv_aload_n hx hb dX6_readQ_49 rfl (lv_at hl 0 rfl) ?_
          refine va_get (D := D) (ci := 6) (v := .ref (adr 0)) (C := RX6) (T := TX6) (N := 5) hx hb hu inX6 hown hK.1 hP 0 rfl rfl 1 (by decide) (hu _ q260) (fun _ h9 => h9) rfl dX6_readQ_50 ?_
          refine lv_aload_n hx hb dX6_readQ_53 rfl (lv_at hl 0 rfl) ?_
          refine va_get (D := D) (ci := 6) (v := .ref (ata 1)) (C := RX6) (T := TX6) (N := 5) hx hb hu inX6 hown hK.1 hP 0 rfl rfl 0 (by decide) (hu _ q259) (fun _ h9 => h9) rfl dX6_readQ_54 ?_
          refine lv_aload_n hx hb dX6_readQ_57 rfl (lv_at hl 0 rfl) ?_
          refine va_get (D := D) (ci := 6) (v := .int (Ta 0 3)) (C := RX6) (T := TX6) (N := 5) hx hb hu inX6 hown hK.1 hP 0 rfl rfl 3 (by decide) (hu _ q264) (fun _ h9 => h9) rfl dX6_readQ_58 ?_
          obtain ⟨hi45, hf⟩ := ck_el hf
          refine va_cald hx hb hK.1 hP 1 2 rfl rfl hi45 dX6_readQ_61 ?_
          obtain ⟨Dr_46, hg47, hf⟩ := b1_el hf
          refine cc_V (w' := ((kX6 cs ata (.ref (adr 0)) Ta) ++ ((kX3 cs adr  Dr_46)))) (wr := (kX6 cs ata (.ref (adr 0)) Ta)) (st1 := []) [.int (Ta 1 (Int32.toNatClampNeg (Ta 0 3)))] hx hb hml hown hu (tX3_putSign l D cs adr (Ta 1 (Int32.toNatClampNeg (Ta 0 3))) Dr Dr_46 hg47) q816 q57 q813 q814 q815 pdX3_putSign ⟨rfl, rfl, Nat.le_of_ble_eq_true rfl, Nat.le_of_ble_eq_true rfl⟩ hK hZ hP hD hS hA [2, 3, 4] [0, 1] [0, 1, 2, 3, 4] rfl rfl rfl rfl rfl rfl rfl rfl rfl rfl hl.1 rfl (Nat.le_of_ble_eq_true rfl) dX6_readQ_62 rfl (fun H locs hP hD hS => ?_)
          refine lv_aload_n hx hb dX6_readQ_65 rfl (lv_at hl 0 rfl) ?_
          refine lv_dup hx hb dX6_readQ_66 rfl ?_
          refine va_get (D := D) (ci := 6) (v := .int (Ta 0 3)) (C := RX6) (T := TX6) (N := 5) hx hb hu inX6 hown hK.1 hP 0 rfl rfl 3 (by decide) (hu _ q264) (fun _ h9 => h9) rfl dX6_readQ_67 ?_
          refine lv_iconst (v := 1) hx hb dX6_readQ_70 (by decide) ?_
          refine lv_iadd hx hb dX6_readQ_71 ?_
          obtain ⟨Ta_48, hTa_48, hf⟩ := lt_el hf
          refine va_put (D := D) (ci := 6) (v := .int ((Ta 0 3) + 1)) (ty := .int) (C := RX6) (T := TX6) (N := 5) hx hb hu inX6 tyX6 tyX6_ok nmX6 hown hK.1 hP hD hS 0 rfl rfl 3 (by decide) (hu _ q264) (fun _ h9 => h9) rfl (by decide +kernel) rfl rfl (Nat.le_of_ble_eq_true rfl) dX6_readQ_72 (fun H locs hP hD hS => ?_)
          have hP : va_P D vwCl ((kX6 cs ata (.ref (adr 0)) Ta_48) ++ ((kX3 cs adr  Dr_46))) H := by rw [hTa_48]; exact hP
          have hD : va_D A ((kX6 cs ata (.ref (adr 0)) Ta_48) ++ ((kX3 cs adr  Dr_46))) := by rw [hTa_48]; exact hD
          refine lv_goto (tgt := 187) hx hb dX6_readQ_75 (by decide) ?_
          have he := Option.some.inj hf
          obtain ⟨e0, e1⟩ := Prod.mk.inj he
          exact hrv _ _ rfl rfl dX6_readQ_187 _ _ _ (by rw [e0, e1]) hP hD hS
  · have hf := in_el hc3 hf
    refine lv_aload_n hx hb dX6_readQ_7 rfl (lv_at hl 0 rfl) ?_
    obtain ⟨Ta_49, Dr_50, hg51, hf⟩ := b2_el hf
    refine cc_V1 (w' := ((kX6 cs ata (.ref (adr 0)) Ta_49) ++ ((kX3 cs adr  Dr_50)))) (st1 := []) [] hx hb hml hown hu (tX6_readNumber l D cs ata adr Ta Dr Ta_49 Dr_50 hg51) q721 q60 q718 q720 q16 pdX6_readNumber ⟨rfl, rfl, Nat.le_of_ble_eq_true rfl, Nat.le_of_ble_eq_true rfl⟩ hK hZ hP hD hS hA rfl rfl rfl rfl hl.1 rfl (Nat.le_of_ble_eq_true rfl) dX6_readQ_8 rfl (fun H locs hP hD hS => ?_)
    refine lv_goto (tgt := 187) hx hb dX6_readQ_11 (by decide) ?_
    have he := Option.some.inj hf
    obtain ⟨e0, e1⟩ := Prod.mk.inj he
    exact hrv _ _ rfl rfl dX6_readQ_187 _ _ _ (by rw [e0, e1]) hP hD hS

def fX6_readP_3_40 (k7 : Int32 → Int32 → ST → ST → Option (ST × ST)) (y1 : Int32) (y2 : Int32) (Ta : ST) (Dr : ST) : Option (ST × ST) :=
  dc_ck (Ta 0 3) 80 (dc_lt (Ta 1 (Int32.toNatClampNeg (Ta 0 3))) (fun v9 => dc_lt (sti Ta 0 3 ((Ta 0 3) + 1)) (fun Ta_10 => dc_b2 (fX6_readQ_3 y1 Ta_10 Dr) (fun Ta_11 Dr_12 => dc_b1 (fX3_putSign v9 Dr_12) (fun Dr_14 => dc_lt (y2 + 1) (fun v16 => k7 y1 v16 Ta_11 Dr_14))))))
def fX6_readP_3_7_s (k7 : Int32 → Int32 → ST → ST → Option (ST × ST)) (y1 : Int32) (y2 : Int32) (Ta : ST) (Dr : ST) : Option (ST × ST) :=
  (if 80 ≤ y2 then some (Ta, Dr) else dc_b1 (fX6_sees 42 Ta) (fun r5 => (if r5 = 0 then dc_b1 (fX6_sees 47 Ta) (fun r17 => (if r17 = 0 then dc_b1 (fX6_sees 37 Ta) (fun r20 => (if r20 = 0 then some (Ta, Dr) else fX6_readP_3_40 k7 y1 y2 Ta Dr)) else fX6_readP_3_40 k7 y1 y2 Ta Dr)) else fX6_readP_3_40 k7 y1 y2 Ta Dr)))
def fX6_readP_3_7 : Nat → Int32 → Int32 → ST → ST → Option (ST × ST)
  | 0 => fun _ _ _ _ => none
  | n + 1 => fX6_readP_3_7_s (fX6_readP_3_7 n)
def fX6_readP_3 (x1 : Int32) (Ta : ST) (Dr : ST) : Option (ST × ST) :=
  dc_b2 (fX6_readQ_3 x1 Ta Dr) (fun Ta_1 Dr_2 => fX6_readP_3_7 400 x1 0 Ta_1 Dr_2)
abbrev rmX6_readP_3 : Room := { frames := 17, cells := 0, slots := 0, locals := 393 }
set_option maxRecDepth 100000 in
set_option maxHeartbeats 4000000 in
theorem tX6_readP_3 (l : Launch) (D : va_G) (cs : Nat → ClassId) (ata : Nat → Nat) (adr : Nat → Nat) (x1 : Int32) (Ta : ST) (Dr : ST) (Taz : ST) (Drz : ST) (hf : fX6_readP_3 x1 Ta Dr = some (Taz, Drz)) : CG l yX6_readP (wsm yX6_readP cX6_readP 4 none) rmX6_readP_3 D cs [.ref (ata 0), .int x1] none ((kX6 cs ata (.ref (adr 0)) Ta) ++ ((kX3 cs adr  Dr))) ((kX6 cs ata (.ref (adr 0)) Taz) ++ ((kX3 cs adr  Drz))) := by
  refine CG.intro (by decide) (Nat.le_of_ble_eq_true rfl) ?_
  intro p e s m below meth c A Q hx hb hml hown hu hK hZ hP0 hD0 hS0 hA hri hrz hrl hrv hra ls0 hl0
  have h40 : ∀ (k7 : Int32 → Int32 → ST → ST → Option (ST × ST)), (∀ (y1 : Int32) (y2 : Int32) (Ta : ST) (Dr : ST) (H : Heap) (locs : List Loc) (ls : Array Slot), va_P D vwCl ((kX6 cs ata (.ref (adr 0)) Ta) ++ ((kX3 cs adr  Dr))) H → va_D A ((kX6 cs ata (.ref (adr 0)) Ta) ++ ((kX3 cs adr  Dr))) → va_S A s.heap H locs → lv_has ls 4 [(0, .ref (ata 0)), (1, .int y1), (2, .int y2)] → k7 y1 y2 Ta Dr = some (Taz, Drz) → W p l e rmX6_readP_3 s m [.ref (ata 0), .int x1].toArray below meth c H locs 0 0 Q (F0 m 7 ls [])) → ∀ (y1 : Int32) (y2 : Int32) (Ta : ST) (Dr : ST) (H : Heap) (locs : List Loc) (ls : Array Slot), va_P D vwCl ((kX6 cs ata (.ref (adr 0)) Ta) ++ ((kX3 cs adr  Dr))) H → va_D A ((kX6 cs ata (.ref (adr 0)) Ta) ++ ((kX3 cs adr  Dr))) → va_S A s.heap H locs → lv_has ls 4 [(0, .ref (ata 0)), (1, .int y1), (2, .int y2)] → fX6_readP_3_40 k7 y1 y2 Ta Dr = some (Taz, Drz) → W p l e rmX6_readP_3 s m [.ref (ata 0), .int x1].toArray below meth c H locs 0 0 Q (F0 m 40 ls []) := by
    intro k7 hk7 y1 y2 Ta Dr H locs ls hP hD hS hl hf
    unfold fX6_readP_3_40 at hf
    refine lv_aload_n hx hb dX6_readP_40 rfl (lv_at hl 0 rfl) ?_
    refine va_get (D := D) (ci := 6) (v := .ref (ata 1)) (C := RX6) (T := TX6) (N := 5) hx hb hu inX6 hown hK.1 hP 0 rfl rfl 0 (by decide) (hu _ q259) (fun _ h9 => h9) rfl dX6_readP_41 ?_
    refine lv_aload_n hx hb dX6_readP_44 rfl (lv_at hl 0 rfl) ?_
    refine va_get (D := D) (ci := 6) (v := .int (Ta 0 3)) (C := RX6) (T := TX6) (N := 5) hx hb hu inX6 hown hK.1 hP 0 rfl rfl 3 (by decide) (hu _ q264) (fun _ h9 => h9) rfl dX6_readP_45 ?_
    obtain ⟨hi8, hf⟩ := ck_el hf
    refine va_cald hx hb hK.1 hP 1 2 rfl rfl hi8 dX6_readP_48 ?_
    obtain ⟨v9, hv9, hf⟩ := lt_el hf
    refine lv_tope hv9 ?_
    refine lv_istore_n (lv' := [(3, .int v9), (0, .ref (ata 0)), (1, .int y1), (2, .int y2)]) hx hb dX6_readP_49 rfl hl (by decide) rfl (fun ls hl => ?_)
    refine lv_aload_n hx hb dX6_readP_50 rfl (lv_at hl 1 rfl) ?_
    refine lv_dup hx hb dX6_readP_51 rfl ?_
    refine va_get (D := D) (ci := 6) (v := .int (Ta 0 3)) (C := RX6) (T := TX6) (N := 5) hx hb hu inX6 hown hK.1 hP 0 rfl rfl 3 (by decide) (hu _ q264) (fun _ h9 => h9) rfl dX6_readP_52 ?_
    refine lv_iconst (v := 1) hx hb dX6_readP_55 (by decide) ?_
    refine lv_iadd hx hb dX6_readP_56 ?_
    obtain ⟨Ta_10, hTa_10, hf⟩ := lt_el hf
    refine va_put (D := D) (ci := 6) (v := .int ((Ta 0 3) + 1)) (ty := .int) (C := RX6) (T := TX6) (N := 5) hx hb hu inX6 tyX6 tyX6_ok nmX6 hown hK.1 hP hD hS 0 rfl rfl 3 (by decide) (hu _ q264) (fun _ h9 => h9) rfl (by decide +kernel) rfl rfl (Nat.le_of_ble_eq_true rfl) dX6_readP_57 (fun H locs hP hD hS => ?_)
    have hP : va_P D vwCl ((kX6 cs ata (.ref (adr 0)) Ta_10) ++ ((kX3 cs adr  Dr))) H := by rw [hTa_10]; exact hP
    have hD : va_D A ((kX6 cs ata (.ref (adr 0)) Ta_10) ++ ((kX3 cs adr  Dr))) := by rw [hTa_10]; exact hD
    refine lv_aload_n hx hb dX6_readP_60 rfl (lv_at hl 1 rfl) ?_
    refine lv_iload_n hx hb dX6_readP_61 rfl (lv_at hl 2 rfl) ?_
    obtain ⟨Ta_11, Dr_12, hg13, hf⟩ := b2_el hf
    refine cc_V1 (w' := ((kX6 cs ata (.ref (adr 0)) Ta_11) ++ ((kX3 cs adr  Dr_12)))) (st1 := []) [.int y1] hx hb hml hown hu (tX6_readQ_3 l D cs ata adr y1 Ta_10 Dr Ta_11 Dr_12 hg13) q713 q60 q710 q712 q14 pdX6_readQ ⟨rfl, rfl, Nat.le_of_ble_eq_true rfl, Nat.le_of_ble_eq_true rfl⟩ hK hZ hP hD hS hA rfl rfl rfl rfl hl.1 rfl (Nat.le_of_ble_eq_true rfl) dX6_readP_62 rfl (fun H locs hP hD hS => ?_)
    refine lv_aload_n hx hb dX6_readP_65 rfl (lv_at hl 1 rfl) ?_
    refine va_get (D := D) (ci := 6) (v := .ref (adr 0)) (C := RX6) (T := TX6) (N := 5) hx hb hu inX6 hown hK.1 hP 0 rfl rfl 1 (by decide) (hu _ q260) (fun _ h9 => h9) rfl dX6_readP_66 ?_
    refine lv_iload_n hx hb dX6_readP_69 rfl (lv_at hl 0 rfl) ?_
    obtain ⟨Dr_14, hg15, hf⟩ := b1_el hf
    refine cc_V (w' := ((kX6 cs ata (.ref (adr 0)) Ta_11) ++ ((kX3 cs adr  Dr_14)))) (wr := (kX6 cs ata (.ref (adr 0)) Ta_11)) (st1 := []) [.int v9] hx hb hml hown hu (tX3_putSign l D cs adr v9 Dr_12 Dr_14 hg15) q816 q57 q813 q814 q815 pdX3_putSign ⟨rfl, rfl, Nat.le_of_ble_eq_true rfl, Nat.le_of_ble_eq_true rfl⟩ hK hZ hP hD hS hA [2, 3, 4] [0, 1] [0, 1, 2, 3, 4] rfl rfl rfl rfl rfl rfl rfl rfl rfl rfl hl.1 rfl (Nat.le_of_ble_eq_true rfl) dX6_readP_70 rfl (fun H locs hP hD hS => ?_)
    obtain ⟨v16, hv16, hf⟩ := lt_el hf
    refine lv_iinc (v := v16) (lv' := [(2, .int v16), (3, .int v9), (0, .ref (ata 0)), (1, .int y1)]) hx hb dX6_readP_73 hl (k := 3) rfl (by rw [hv16]; rfl) (by decide) rfl (fun ls hl => ?_)
    refine lv_goto (tgt := 7) hx hb dX6_readP_76 (by decide) ?_
    exact hk7 y1 v16 Ta_11 Dr_14 _ _ _ hP hD hS (lv_sub hl [2, 3, 0] rfl) hf
  have hs7 : ∀ (k7 : Int32 → Int32 → ST → ST → Option (ST × ST)), (∀ (y1 : Int32) (y2 : Int32) (Ta : ST) (Dr : ST) (H : Heap) (locs : List Loc) (ls : Array Slot), va_P D vwCl ((kX6 cs ata (.ref (adr 0)) Ta) ++ ((kX3 cs adr  Dr))) H → va_D A ((kX6 cs ata (.ref (adr 0)) Ta) ++ ((kX3 cs adr  Dr))) → va_S A s.heap H locs → lv_has ls 4 [(0, .ref (ata 0)), (1, .int y1), (2, .int y2)] → k7 y1 y2 Ta Dr = some (Taz, Drz) → W p l e rmX6_readP_3 s m [.ref (ata 0), .int x1].toArray below meth c H locs 0 0 Q (F0 m 7 ls [])) → ∀ (y1 : Int32) (y2 : Int32) (Ta : ST) (Dr : ST) (H : Heap) (locs : List Loc) (ls : Array Slot), va_P D vwCl ((kX6 cs ata (.ref (adr 0)) Ta) ++ ((kX3 cs adr  Dr))) H → va_D A ((kX6 cs ata (.ref (adr 0)) Ta) ++ ((kX3 cs adr  Dr))) → va_S A s.heap H locs → lv_has ls 4 [(0, .ref (ata 0)), (1, .int y1), (2, .int y2)] → fX6_readP_3_7_s k7 y1 y2 Ta Dr = some (Taz, Drz) → W p l e rmX6_readP_3 s m [.ref (ata 0), .int x1].toArray below meth c H locs 0 0 Q (F0 m 7 ls []) := by
    intro k7 hk7 y1 y2 Ta Dr H locs ls hP hD hS hl hf
    unfold fX6_readP_3_7_s at hf
    refine lv_iload_n hx hb dX6_readP_7 rfl (lv_at hl 2 rfl) ?_
    refine lv_bipush (v := 80) hx hb dX6_readP_8 (by decide) ?_
    refine lv_icmp_ge (tgt := 79) hx hb dX6_readP_10 (by decide) (fun hc4 => ?_) (fun hc4 => ?_)
    · have hf := ip_el hc4 hf
      have he := Option.some.inj hf
      obtain ⟨e0, e1⟩ := Prod.mk.inj he
      exact hrv _ _ rfl rfl dX6_readP_79 _ _ _ (by rw [e0, e1]) hP hD hS
    · have hf := in_el hc4 hf
      refine lv_aload_n hx hb dX6_readP_13 rfl (lv_at hl 0 rfl) ?_
      refine lv_bipush (v := 42) hx hb dX6_readP_14 (by decide) ?_
      obtain ⟨r5, hg6, hf⟩ := b1_el hf
      refine cc_V (w' := ((kX6 cs ata (.ref (adr 0)) Ta) ++ ((kX3 cs adr  Dr)))) (wr := (kX3 cs adr  Dr)) (st1 := [.int r5]) [.int 42] hx hb hml hown hu (tX6_sees l D cs ata adr 42 Ta r5 hg6) q825 q60 q822 q824 q18 pdX6_sees ⟨rfl, rfl, Nat.le_of_ble_eq_true rfl, Nat.le_of_ble_eq_true rfl⟩ hK hZ hP hD hS hA [0, 1] [2, 3, 4] [3, 4, 0, 1, 2] rfl rfl rfl rfl rfl rfl rfl rfl rfl rfl hl.1 rfl (Nat.le_of_ble_eq_true rfl) dX6_readP_16 rfl (fun H locs hP hD hS => ?_)
      refine lv_if_ne (tgt := 40) hx hb dX6_readP_19 (by decide) (fun hc7 => ?_) (fun hc7 => ?_)
      · have hf := in_el hc7 hf
        exact h40 k7 hk7 y1 y2 Ta Dr _ _ _ hP hD hS (lv_sub hl [0, 1, 2] rfl) hf
      · have hf := ip_el hc7 hf
        refine lv_aload_n hx hb dX6_readP_22 rfl (lv_at hl 0 rfl) ?_
        refine lv_bipush (v := 47) hx hb dX6_readP_23 (by decide) ?_
        obtain ⟨r17, hg18, hf⟩ := b1_el hf
        refine cc_V (w' := ((kX6 cs ata (.ref (adr 0)) Ta) ++ ((kX3 cs adr  Dr)))) (wr := (kX3 cs adr  Dr)) (st1 := [.int r17]) [.int 47] hx hb hml hown hu (tX6_sees l D cs ata adr 47 Ta r17 hg18) q825 q60 q822 q824 q18 pdX6_sees ⟨rfl, rfl, Nat.le_of_ble_eq_true rfl, Nat.le_of_ble_eq_true rfl⟩ hK hZ hP hD hS hA [0, 1] [2, 3, 4] [3, 4, 0, 1, 2] rfl rfl rfl rfl rfl rfl rfl rfl rfl rfl hl.1 rfl (Nat.le_of_ble_eq_true rfl) dX6_readP_25 rfl (fun H locs hP hD hS => ?_)
        refine lv_if_ne (tgt := 40) hx hb dX6_readP_28 (by decide) (fun hc19 => ?_) (fun hc19 => ?_)
        · have hf := in_el hc19 hf
          exact h40 k7 hk7 y1 y2 Ta Dr _ _ _ hP hD hS (lv_sub hl [0, 1, 2] rfl) hf
        · have hf := ip_el hc19 hf
          refine lv_aload_n hx hb dX6_readP_31 rfl (lv_at hl 0 rfl) ?_
          refine lv_bipush (v := 37) hx hb dX6_readP_32 (by decide) ?_
          obtain ⟨r20, hg21, hf⟩ := b1_el hf
          refine cc_V (w' := ((kX6 cs ata (.ref (adr 0)) Ta) ++ ((kX3 cs adr  Dr)))) (wr := (kX3 cs adr  Dr)) (st1 := [.int r20]) [.int 37] hx hb hml hown hu (tX6_sees l D cs ata adr 37 Ta r20 hg21) q825 q60 q822 q824 q18 pdX6_sees ⟨rfl, rfl, Nat.le_of_ble_eq_true rfl, Nat.le_of_ble_eq_true rfl⟩ hK hZ hP hD hS hA [0, 1] [2, 3, 4] [3, 4, 0, 1, 2] rfl rfl rfl rfl rfl rfl rfl rfl rfl rfl hl.1 rfl (Nat.le_of_ble_eq_true rfl) dX6_readP_34 rfl (fun H locs hP hD hS => ?_)
          refine lv_if_eq (tgt := 79) hx hb dX6_readP_37 (by decide) (fun hc22 => ?_) (fun hc22 => ?_)
          · have hf := ip_el hc22 hf
            have he := Option.some.inj hf
            obtain ⟨e0, e1⟩ := Prod.mk.inj he
            exact hrv _ _ rfl rfl dX6_readP_79 _ _ _ (by rw [e0, e1]) hP hD hS
          · have hf := in_el hc22 hf
            exact h40 k7 hk7 y1 y2 Ta Dr _ _ _ hP hD hS (lv_sub hl [0, 1, 2] rfl) hf
  have h7 : ∀ (n : Nat), ∀ (y1 : Int32) (y2 : Int32) (Ta : ST) (Dr : ST) (H : Heap) (locs : List Loc) (ls : Array Slot), va_P D vwCl ((kX6 cs ata (.ref (adr 0)) Ta) ++ ((kX3 cs adr  Dr))) H → va_D A ((kX6 cs ata (.ref (adr 0)) Ta) ++ ((kX3 cs adr  Dr))) → va_S A s.heap H locs → lv_has ls 4 [(0, .ref (ata 0)), (1, .int y1), (2, .int y2)] → fX6_readP_3_7 n y1 y2 Ta Dr = some (Taz, Drz) → W p l e rmX6_readP_3 s m [.ref (ata 0), .int x1].toArray below meth c H locs 0 0 Q (F0 m 7 ls []) := by
    intro n
    induction n with
    | zero => intro y1 y2 Ta Dr H locs ls hP hD hS hl hf; exact no_el hf
    | succ n ih => intro y1 y2 Ta Dr H locs ls hP hD hS hl hf; exact hs7 _ ih y1 y2 Ta Dr _ _ _ hP hD hS hl hf
  have hl : lv_has ls0 4 [(0, .ref (ata 0)), (1, .int x1)] := hl0
  have hP := hP0
  have hD := hD0
  have hS := hS0
  unfold fX6_readP_3 at hf
  refine lv_aload_n hx hb dX6_readP_0 rfl (lv_at hl 0 rfl) ?_
  refine lv_iload_n hx hb dX6_readP_1 rfl (lv_at hl 1 rfl) ?_
  obtain ⟨Ta_1, Dr_2, hg3, hf⟩ := b2_el hf
  refine cc_V1 (w' := ((kX6 cs ata (.ref (adr 0)) Ta_1) ++ ((kX3 cs adr  Dr_2)))) (st1 := []) [.int x1] hx hb hml hown hu (tX6_readQ_3 l D cs ata adr x1 Ta Dr Ta_1 Dr_2 hg3) q713 q60 q710 q712 q14 pdX6_readQ ⟨rfl, rfl, Nat.le_of_ble_eq_true rfl, Nat.le_of_ble_eq_true rfl⟩ hK hZ hP hD hS hA rfl rfl rfl rfl hl.1 rfl (Nat.le_of_ble_eq_true rfl) dX6_readP_2 rfl (fun H locs hP hD hS => ?_)
  refine lv_iconst (v := 0) hx hb dX6_readP_5 (by decide) ?_
  refine lv_istore_n (lv' := [(2, .int 0), (0, .ref (ata 0)), (1, .int x1)]) hx hb dX6_readP_6 rfl hl (by decide) rfl (fun ls hl => ?_)
  exact h7 400 x1 0 Ta_1 Dr_2 _ _ _ hP hD hS (lv_sub hl [1, 2, 0] rfl) hf

def fX6_readS_3_31 (k7 : Int32 → Int32 → ST → ST → Option (ST × ST)) (y1 : Int32) (y2 : Int32) (Ta : ST) (Dr : ST) : Option (ST × ST) :=
  dc_ck (Ta 0 3) 80 (dc_lt (Ta 1 (Int32.toNatClampNeg (Ta 0 3))) (fun v9 => dc_lt (sti Ta 0 3 ((Ta 0 3) + 1)) (fun Ta_10 => dc_b2 (fX6_readP_3 y1 Ta_10 Dr) (fun Ta_11 Dr_12 => dc_b1 (fX3_putSign v9 Dr_12) (fun Dr_14 => dc_lt (y2 + 1) (fun v16 => k7 y1 v16 Ta_11 Dr_14))))))
def fX6_readS_3_7_s (k7 : Int32 → Int32 → ST → ST → Option (ST × ST)) (y1 : Int32) (y2 : Int32) (Ta : ST) (Dr : ST) : Option (ST × ST) :=
  (if 80 ≤ y2 then some (Ta, Dr) else dc_b1 (fX6_sees 43 Ta) (fun r5 => (if r5 = 0 then dc_b1 (fX6_sees 45 Ta) (fun r17 => (if r17 = 0 then some (Ta, Dr) else fX6_readS_3_31 k7 y1 y2 Ta Dr)) else fX6_readS_3_31 k7 y1 y2 Ta Dr)))
def fX6_readS_3_7 : Nat → Int32 → Int32 → ST → ST → Option (ST × ST)
  | 0 => fun _ _ _ _ => none
  | n + 1 => fX6_readS_3_7_s (fX6_readS_3_7 n)
def fX6_readS_3 (x1 : Int32) (Ta : ST) (Dr : ST) : Option (ST × ST) :=
  dc_b2 (fX6_readP_3 x1 Ta Dr) (fun Ta_1 Dr_2 => fX6_readS_3_7 400 x1 0 Ta_1 Dr_2)
abbrev rmX6_readS_3 : Room := { frames := 18, cells := 0, slots := 0, locals := 416 }
set_option maxRecDepth 100000 in
set_option maxHeartbeats 4000000 in
theorem tX6_readS_3 (l : Launch) (D : va_G) (cs : Nat → ClassId) (ata : Nat → Nat) (adr : Nat → Nat) (x1 : Int32) (Ta : ST) (Dr : ST) (Taz : ST) (Drz : ST) (hf : fX6_readS_3 x1 Ta Dr = some (Taz, Drz)) : CG l yX6_readS (wsm yX6_readS cX6_readS 4 none) rmX6_readS_3 D cs [.ref (ata 0), .int x1] none ((kX6 cs ata (.ref (adr 0)) Ta) ++ ((kX3 cs adr  Dr))) ((kX6 cs ata (.ref (adr 0)) Taz) ++ ((kX3 cs adr  Drz))) := by
  refine CG.intro (by decide) (Nat.le_of_ble_eq_true rfl) ?_
  intro p e s m below meth c A Q hx hb hml hown hu hK hZ hP0 hD0 hS0 hA hri hrz hrl hrv hra ls0 hl0
  have h31 : ∀ (k7 : Int32 → Int32 → ST → ST → Option (ST × ST)), (∀ (y1 : Int32) (y2 : Int32) (Ta : ST) (Dr : ST) (H : Heap) (locs : List Loc) (ls : Array Slot), va_P D vwCl ((kX6 cs ata (.ref (adr 0)) Ta) ++ ((kX3 cs adr  Dr))) H → va_D A ((kX6 cs ata (.ref (adr 0)) Ta) ++ ((kX3 cs adr  Dr))) → va_S A s.heap H locs → lv_has ls 4 [(0, .ref (ata 0)), (1, .int y1), (2, .int y2)] → k7 y1 y2 Ta Dr = some (Taz, Drz) → W p l e rmX6_readS_3 s m [.ref (ata 0), .int x1].toArray below meth c H locs 0 0 Q (F0 m 7 ls [])) → ∀ (y1 : Int32) (y2 : Int32) (Ta : ST) (Dr : ST) (H : Heap) (locs : List Loc) (ls : Array Slot), va_P D vwCl ((kX6 cs ata (.ref (adr 0)) Ta) ++ ((kX3 cs adr  Dr))) H → va_D A ((kX6 cs ata (.ref (adr 0)) Ta) ++ ((kX3 cs adr  Dr))) → va_S A s.heap H locs → lv_has ls 4 [(0, .ref (ata 0)), (1, .int y1), (2, .int y2)] → fX6_readS_3_31 k7 y1 y2 Ta Dr = some (Taz, Drz) → W p l e rmX6_readS_3 s m [.ref (ata 0), .int x1].toArray below meth c H locs 0 0 Q (F0 m 31 ls []) := by
    intro k7 hk7 y1 y2 Ta Dr H locs ls hP hD hS hl hf
    unfold fX6_readS_3_31 at hf
    refine lv_aload_n hx hb dX6_readS_31 rfl (lv_at hl 0 rfl) ?_
    refine va_get (D := D) (ci := 6) (v := .ref (ata 1)) (C := RX6) (T := TX6) (N := 5) hx hb hu inX6 hown hK.1 hP 0 rfl rfl 0 (by decide) (hu _ q259) (fun _ h9 => h9) rfl dX6_readS_32 ?_
    refine lv_aload_n hx hb dX6_readS_35 rfl (lv_at hl 0 rfl) ?_
    refine va_get (D := D) (ci := 6) (v := .int (Ta 0 3)) (C := RX6) (T := TX6) (N := 5) hx hb hu inX6 hown hK.1 hP 0 rfl rfl 3 (by decide) (hu _ q264) (fun _ h9 => h9) rfl dX6_readS_36 ?_
    obtain ⟨hi8, hf⟩ := ck_el hf
    refine va_cald hx hb hK.1 hP 1 2 rfl rfl hi8 dX6_readS_39 ?_
    obtain ⟨v9, hv9, hf⟩ := lt_el hf
    refine lv_tope hv9 ?_
    refine lv_istore_n (lv' := [(3, .int v9), (0, .ref (ata 0)), (1, .int y1), (2, .int y2)]) hx hb dX6_readS_40 rfl hl (by decide) rfl (fun ls hl => ?_)
    refine lv_aload_n hx hb dX6_readS_41 rfl (lv_at hl 1 rfl) ?_
    refine lv_dup hx hb dX6_readS_42 rfl ?_
    refine va_get (D := D) (ci := 6) (v := .int (Ta 0 3)) (C := RX6) (T := TX6) (N := 5) hx hb hu inX6 hown hK.1 hP 0 rfl rfl 3 (by decide) (hu _ q264) (fun _ h9 => h9) rfl dX6_readS_43 ?_
    refine lv_iconst (v := 1) hx hb dX6_readS_46 (by decide) ?_
    refine lv_iadd hx hb dX6_readS_47 ?_
    obtain ⟨Ta_10, hTa_10, hf⟩ := lt_el hf
    refine va_put (D := D) (ci := 6) (v := .int ((Ta 0 3) + 1)) (ty := .int) (C := RX6) (T := TX6) (N := 5) hx hb hu inX6 tyX6 tyX6_ok nmX6 hown hK.1 hP hD hS 0 rfl rfl 3 (by decide) (hu _ q264) (fun _ h9 => h9) rfl (by decide +kernel) rfl rfl (Nat.le_of_ble_eq_true rfl) dX6_readS_48 (fun H locs hP hD hS => ?_)
    have hP : va_P D vwCl ((kX6 cs ata (.ref (adr 0)) Ta_10) ++ ((kX3 cs adr  Dr))) H := by rw [hTa_10]; exact hP
    have hD : va_D A ((kX6 cs ata (.ref (adr 0)) Ta_10) ++ ((kX3 cs adr  Dr))) := by rw [hTa_10]; exact hD
    refine lv_aload_n hx hb dX6_readS_51 rfl (lv_at hl 1 rfl) ?_
    refine lv_iload_n hx hb dX6_readS_52 rfl (lv_at hl 2 rfl) ?_
    obtain ⟨Ta_11, Dr_12, hg13, hf⟩ := b2_el hf
    refine cc_V1 (w' := ((kX6 cs ata (.ref (adr 0)) Ta_11) ++ ((kX3 cs adr  Dr_12)))) (st1 := []) [.int y1] hx hb hml hown hu (tX6_readP_3 l D cs ata adr y1 Ta_10 Dr Ta_11 Dr_12 hg13) q709 q60 q706 q708 q13 pdX6_readP ⟨rfl, rfl, Nat.le_of_ble_eq_true rfl, Nat.le_of_ble_eq_true rfl⟩ hK hZ hP hD hS hA rfl rfl rfl rfl hl.1 rfl (Nat.le_of_ble_eq_true rfl) dX6_readS_53 rfl (fun H locs hP hD hS => ?_)
    refine lv_aload_n hx hb dX6_readS_56 rfl (lv_at hl 1 rfl) ?_
    refine va_get (D := D) (ci := 6) (v := .ref (adr 0)) (C := RX6) (T := TX6) (N := 5) hx hb hu inX6 hown hK.1 hP 0 rfl rfl 1 (by decide) (hu _ q260) (fun _ h9 => h9) rfl dX6_readS_57 ?_
    refine lv_iload_n hx hb dX6_readS_60 rfl (lv_at hl 0 rfl) ?_
    obtain ⟨Dr_14, hg15, hf⟩ := b1_el hf
    refine cc_V (w' := ((kX6 cs ata (.ref (adr 0)) Ta_11) ++ ((kX3 cs adr  Dr_14)))) (wr := (kX6 cs ata (.ref (adr 0)) Ta_11)) (st1 := []) [.int v9] hx hb hml hown hu (tX3_putSign l D cs adr v9 Dr_12 Dr_14 hg15) q816 q57 q813 q814 q815 pdX3_putSign ⟨rfl, rfl, Nat.le_of_ble_eq_true rfl, Nat.le_of_ble_eq_true rfl⟩ hK hZ hP hD hS hA [2, 3, 4] [0, 1] [0, 1, 2, 3, 4] rfl rfl rfl rfl rfl rfl rfl rfl rfl rfl hl.1 rfl (Nat.le_of_ble_eq_true rfl) dX6_readS_61 rfl (fun H locs hP hD hS => ?_)
    obtain ⟨v16, hv16, hf⟩ := lt_el hf
    refine lv_iinc (v := v16) (lv' := [(2, .int v16), (3, .int v9), (0, .ref (ata 0)), (1, .int y1)]) hx hb dX6_readS_64 hl (k := 3) rfl (by rw [hv16]; rfl) (by decide) rfl (fun ls hl => ?_)
    refine lv_goto (tgt := 7) hx hb dX6_readS_67 (by decide) ?_
    exact hk7 y1 v16 Ta_11 Dr_14 _ _ _ hP hD hS (lv_sub hl [2, 3, 0] rfl) hf
  have hs7 : ∀ (k7 : Int32 → Int32 → ST → ST → Option (ST × ST)), (∀ (y1 : Int32) (y2 : Int32) (Ta : ST) (Dr : ST) (H : Heap) (locs : List Loc) (ls : Array Slot), va_P D vwCl ((kX6 cs ata (.ref (adr 0)) Ta) ++ ((kX3 cs adr  Dr))) H → va_D A ((kX6 cs ata (.ref (adr 0)) Ta) ++ ((kX3 cs adr  Dr))) → va_S A s.heap H locs → lv_has ls 4 [(0, .ref (ata 0)), (1, .int y1), (2, .int y2)] → k7 y1 y2 Ta Dr = some (Taz, Drz) → W p l e rmX6_readS_3 s m [.ref (ata 0), .int x1].toArray below meth c H locs 0 0 Q (F0 m 7 ls [])) → ∀ (y1 : Int32) (y2 : Int32) (Ta : ST) (Dr : ST) (H : Heap) (locs : List Loc) (ls : Array Slot), va_P D vwCl ((kX6 cs ata (.ref (adr 0)) Ta) ++ ((kX3 cs adr  Dr))) H → va_D A ((kX6 cs ata (.ref (adr 0)) Ta) ++ ((kX3 cs adr  Dr))) → va_S A s.heap H locs → lv_has ls 4 [(0, .ref (ata 0)), (1, .int y1), (2, .int y2)] → fX6_readS_3_7_s k7 y1 y2 Ta Dr = some (Taz, Drz) → W p l e rmX6_readS_3 s m [.ref (ata 0), .int x1].toArray below meth c H locs 0 0 Q (F0 m 7 ls []) := by
    intro k7 hk7 y1 y2 Ta Dr H locs ls hP hD hS hl hf
    unfold fX6_readS_3_7_s at hf
    refine lv_iload_n hx hb dX6_readS_7 rfl (lv_at hl 2 rfl) ?_
    refine lv_bipush (v := 80) hx hb dX6_readS_8 (by decide) ?_
    refine lv_icmp_ge (tgt := 70) hx hb dX6_readS_10 (by decide) (fun hc4 => ?_) (fun hc4 => ?_)
    · have hf := ip_el hc4 hf
      have he := Option.some.inj hf
      obtain ⟨e0, e1⟩ := Prod.mk.inj he
      exact hrv _ _ rfl rfl dX6_readS_70 _ _ _ (by rw [e0, e1]) hP hD hS
    · have hf := in_el hc4 hf
      refine lv_aload_n hx hb dX6_readS_13 rfl (lv_at hl 0 rfl) ?_
      refine lv_bipush (v := 43) hx hb dX6_readS_14 (by decide) ?_
      obtain ⟨r5, hg6, hf⟩ := b1_el hf
      refine cc_V (w' := ((kX6 cs ata (.ref (adr 0)) Ta) ++ ((kX3 cs adr  Dr)))) (wr := (kX3 cs adr  Dr)) (st1 := [.int r5]) [.int 43] hx hb hml hown hu (tX6_sees l D cs ata adr 43 Ta r5 hg6) q825 q60 q822 q824 q18 pdX6_sees ⟨rfl, rfl, Nat.le_of_ble_eq_true rfl, Nat.le_of_ble_eq_true rfl⟩ hK hZ hP hD hS hA [0, 1] [2, 3, 4] [3, 4, 0, 1, 2] rfl rfl rfl rfl rfl rfl rfl rfl rfl rfl hl.1 rfl (Nat.le_of_ble_eq_true rfl) dX6_readS_16 rfl (fun H locs hP hD hS => ?_)
      refine lv_if_ne (tgt := 31) hx hb dX6_readS_19 (by decide) (fun hc7 => ?_) (fun hc7 => ?_)
      · have hf := in_el hc7 hf
        exact h31 k7 hk7 y1 y2 Ta Dr _ _ _ hP hD hS (lv_sub hl [0, 1, 2] rfl) hf
      · have hf := ip_el hc7 hf
        refine lv_aload_n hx hb dX6_readS_22 rfl (lv_at hl 0 rfl) ?_
        refine lv_bipush (v := 45) hx hb dX6_readS_23 (by decide) ?_
        obtain ⟨r17, hg18, hf⟩ := b1_el hf
        refine cc_V (w' := ((kX6 cs ata (.ref (adr 0)) Ta) ++ ((kX3 cs adr  Dr)))) (wr := (kX3 cs adr  Dr)) (st1 := [.int r17]) [.int 45] hx hb hml hown hu (tX6_sees l D cs ata adr 45 Ta r17 hg18) q825 q60 q822 q824 q18 pdX6_sees ⟨rfl, rfl, Nat.le_of_ble_eq_true rfl, Nat.le_of_ble_eq_true rfl⟩ hK hZ hP hD hS hA [0, 1] [2, 3, 4] [3, 4, 0, 1, 2] rfl rfl rfl rfl rfl rfl rfl rfl rfl rfl hl.1 rfl (Nat.le_of_ble_eq_true rfl) dX6_readS_25 rfl (fun H locs hP hD hS => ?_)
        refine lv_if_eq (tgt := 70) hx hb dX6_readS_28 (by decide) (fun hc19 => ?_) (fun hc19 => ?_)
        · have hf := ip_el hc19 hf
          have he := Option.some.inj hf
          obtain ⟨e0, e1⟩ := Prod.mk.inj he
          exact hrv _ _ rfl rfl dX6_readS_70 _ _ _ (by rw [e0, e1]) hP hD hS
        · have hf := in_el hc19 hf
          exact h31 k7 hk7 y1 y2 Ta Dr _ _ _ hP hD hS (lv_sub hl [0, 1, 2] rfl) hf
  have h7 : ∀ (n : Nat), ∀ (y1 : Int32) (y2 : Int32) (Ta : ST) (Dr : ST) (H : Heap) (locs : List Loc) (ls : Array Slot), va_P D vwCl ((kX6 cs ata (.ref (adr 0)) Ta) ++ ((kX3 cs adr  Dr))) H → va_D A ((kX6 cs ata (.ref (adr 0)) Ta) ++ ((kX3 cs adr  Dr))) → va_S A s.heap H locs → lv_has ls 4 [(0, .ref (ata 0)), (1, .int y1), (2, .int y2)] → fX6_readS_3_7 n y1 y2 Ta Dr = some (Taz, Drz) → W p l e rmX6_readS_3 s m [.ref (ata 0), .int x1].toArray below meth c H locs 0 0 Q (F0 m 7 ls []) := by
    intro n
    induction n with
    | zero => intro y1 y2 Ta Dr H locs ls hP hD hS hl hf; exact no_el hf
    | succ n ih => intro y1 y2 Ta Dr H locs ls hP hD hS hl hf; exact hs7 _ ih y1 y2 Ta Dr _ _ _ hP hD hS hl hf
  have hl : lv_has ls0 4 [(0, .ref (ata 0)), (1, .int x1)] := hl0
  have hP := hP0
  have hD := hD0
  have hS := hS0
  unfold fX6_readS_3 at hf
  refine lv_aload_n hx hb dX6_readS_0 rfl (lv_at hl 0 rfl) ?_
  refine lv_iload_n hx hb dX6_readS_1 rfl (lv_at hl 1 rfl) ?_
  obtain ⟨Ta_1, Dr_2, hg3, hf⟩ := b2_el hf
  refine cc_V1 (w' := ((kX6 cs ata (.ref (adr 0)) Ta_1) ++ ((kX3 cs adr  Dr_2)))) (st1 := []) [.int x1] hx hb hml hown hu (tX6_readP_3 l D cs ata adr x1 Ta Dr Ta_1 Dr_2 hg3) q709 q60 q706 q708 q13 pdX6_readP ⟨rfl, rfl, Nat.le_of_ble_eq_true rfl, Nat.le_of_ble_eq_true rfl⟩ hK hZ hP hD hS hA rfl rfl rfl rfl hl.1 rfl (Nat.le_of_ble_eq_true rfl) dX6_readS_2 rfl (fun H locs hP hD hS => ?_)
  refine lv_iconst (v := 0) hx hb dX6_readS_5 (by decide) ?_
  refine lv_istore_n (lv' := [(2, .int 0), (0, .ref (ata 0)), (1, .int x1)]) hx hb dX6_readS_6 rfl hl (by decide) rfl (fun ls hl => ?_)
  exact h7 400 x1 0 Ta_1 Dr_2 _ _ _ hP hD hS (lv_sub hl [1, 2, 0] rfl) hf

def fX6_readB_3_32 (y1 : Int32) (Ta : ST) (Dr : ST) : Option (ST × ST) :=
  dc_ck (Ta 0 3) 80 (dc_lt (Ta 1 (Int32.toNatClampNeg (Ta 0 3))) (fun v8 => dc_lt (sti Ta 0 3 ((Ta 0 3) + 1)) (fun Ta_9 => dc_b2 (fX6_readS_3 y1 Ta_9 Dr) (fun Ta_10 Dr_11 => dc_b1 (fX3_putSign v8 Dr_11) (fun Dr_13 => some (Ta_10, Dr_13))))))
def fX6_readB_3 (x1 : Int32) (Ta : ST) (Dr : ST) : Option (ST × ST) :=
  dc_b2 (fX6_readS_3 x1 Ta Dr) (fun Ta_1 Dr_2 => dc_b1 (fX6_sees 60 Ta_1) (fun r4 => (if r4 = 0 then dc_b1 (fX6_sees 61 Ta_1) (fun r15 => (if r15 = 0 then dc_b1 (fX6_sees 62 Ta_1) (fun r18 => (if r18 = 0 then some (Ta_1, Dr_2) else fX6_readB_3_32 x1 Ta_1 Dr_2)) else fX6_readB_3_32 x1 Ta_1 Dr_2)) else fX6_readB_3_32 x1 Ta_1 Dr_2)))
abbrev rmX6_readB_3 : Room := { frames := 19, cells := 0, slots := 0, locals := 439 }
set_option maxRecDepth 100000 in
set_option maxHeartbeats 4000000 in
theorem tX6_readB_3 (l : Launch) (D : va_G) (cs : Nat → ClassId) (ata : Nat → Nat) (adr : Nat → Nat) (x1 : Int32) (Ta : ST) (Dr : ST) (Taz : ST) (Drz : ST) (hf : fX6_readB_3 x1 Ta Dr = some (Taz, Drz)) : CG l yX6_readB (wsm yX6_readB cX6_readB 3 none) rmX6_readB_3 D cs [.ref (ata 0), .int x1] none ((kX6 cs ata (.ref (adr 0)) Ta) ++ ((kX3 cs adr  Dr))) ((kX6 cs ata (.ref (adr 0)) Taz) ++ ((kX3 cs adr  Drz))) := by
  refine CG.intro (by decide) (Nat.le_of_ble_eq_true rfl) ?_
  intro p e s m below meth c A Q hx hb hml hown hu hK hZ hP0 hD0 hS0 hA hri hrz hrl hrv hra ls0 hl0
  have h32 : ∀ (y1 : Int32) (Ta : ST) (Dr : ST) (H : Heap) (locs : List Loc) (ls : Array Slot), va_P D vwCl ((kX6 cs ata (.ref (adr 0)) Ta) ++ ((kX3 cs adr  Dr))) H → va_D A ((kX6 cs ata (.ref (adr 0)) Ta) ++ ((kX3 cs adr  Dr))) → va_S A s.heap H locs → lv_has ls 3 [(0, .ref (ata 0)), (1, .int y1)] → fX6_readB_3_32 y1 Ta Dr = some (Taz, Drz) → W p l e rmX6_readB_3 s m [.ref (ata 0), .int x1].toArray below meth c H locs 0 0 Q (F0 m 32 ls []) := by
    intro y1 Ta Dr H locs ls hP hD hS hl hf
    unfold fX6_readB_3_32 at hf
    refine lv_aload_n hx hb dX6_readB_32 rfl (lv_at hl 0 rfl) ?_
    refine va_get (D := D) (ci := 6) (v := .ref (ata 1)) (C := RX6) (T := TX6) (N := 5) hx hb hu inX6 hown hK.1 hP 0 rfl rfl 0 (by decide) (hu _ q259) (fun _ h9 => h9) rfl dX6_readB_33 ?_
    refine lv_aload_n hx hb dX6_readB_36 rfl (lv_at hl 0 rfl) ?_
    refine va_get (D := D) (ci := 6) (v := .int (Ta 0 3)) (C := RX6) (T := TX6) (N := 5) hx hb hu inX6 hown hK.1 hP 0 rfl rfl 3 (by decide) (hu _ q264) (fun _ h9 => h9) rfl dX6_readB_37 ?_
    obtain ⟨hi7, hf⟩ := ck_el hf
    refine va_cald hx hb hK.1 hP 1 2 rfl rfl hi7 dX6_readB_40 ?_
    obtain ⟨v8, hv8, hf⟩ := lt_el hf
    refine lv_tope hv8 ?_
    refine lv_istore_n (lv' := [(2, .int v8), (0, .ref (ata 0)), (1, .int y1)]) hx hb dX6_readB_41 rfl hl (by decide) rfl (fun ls hl => ?_)
    refine lv_aload_n hx hb dX6_readB_42 rfl (lv_at hl 1 rfl) ?_
    refine lv_dup hx hb dX6_readB_43 rfl ?_
    refine va_get (D := D) (ci := 6) (v := .int (Ta 0 3)) (C := RX6) (T := TX6) (N := 5) hx hb hu inX6 hown hK.1 hP 0 rfl rfl 3 (by decide) (hu _ q264) (fun _ h9 => h9) rfl dX6_readB_44 ?_
    refine lv_iconst (v := 1) hx hb dX6_readB_47 (by decide) ?_
    refine lv_iadd hx hb dX6_readB_48 ?_
    obtain ⟨Ta_9, hTa_9, hf⟩ := lt_el hf
    refine va_put (D := D) (ci := 6) (v := .int ((Ta 0 3) + 1)) (ty := .int) (C := RX6) (T := TX6) (N := 5) hx hb hu inX6 tyX6 tyX6_ok nmX6 hown hK.1 hP hD hS 0 rfl rfl 3 (by decide) (hu _ q264) (fun _ h9 => h9) rfl (by decide +kernel) rfl rfl (Nat.le_of_ble_eq_true rfl) dX6_readB_49 (fun H locs hP hD hS => ?_)
    have hP : va_P D vwCl ((kX6 cs ata (.ref (adr 0)) Ta_9) ++ ((kX3 cs adr  Dr))) H := by rw [hTa_9]; exact hP
    have hD : va_D A ((kX6 cs ata (.ref (adr 0)) Ta_9) ++ ((kX3 cs adr  Dr))) := by rw [hTa_9]; exact hD
    refine lv_aload_n hx hb dX6_readB_52 rfl (lv_at hl 1 rfl) ?_
    refine lv_iload_n hx hb dX6_readB_53 rfl (lv_at hl 2 rfl) ?_
    obtain ⟨Ta_10, Dr_11, hg12, hf⟩ := b2_el hf
    refine cc_V1 (w' := ((kX6 cs ata (.ref (adr 0)) Ta_10) ++ ((kX3 cs adr  Dr_11)))) (st1 := []) [.int y1] hx hb hml hown hu (tX6_readS_3 l D cs ata adr y1 Ta_9 Dr Ta_10 Dr_11 hg12) q705 q60 q702 q704 q12 pdX6_readS ⟨rfl, rfl, Nat.le_of_ble_eq_true rfl, Nat.le_of_ble_eq_true rfl⟩ hK hZ hP hD hS hA rfl rfl rfl rfl hl.1 rfl (Nat.le_of_ble_eq_true rfl) dX6_readB_54 rfl (fun H locs hP hD hS => ?_)
    refine lv_aload_n hx hb dX6_readB_57 rfl (lv_at hl 1 rfl) ?_
    refine va_get (D := D) (ci := 6) (v := .ref (adr 0)) (C := RX6) (T := TX6) (N := 5) hx hb hu inX6 hown hK.1 hP 0 rfl rfl 1 (by decide) (hu _ q260) (fun _ h9 => h9) rfl dX6_readB_58 ?_
    refine lv_iload_n hx hb dX6_readB_61 rfl (lv_at hl 0 rfl) ?_
    obtain ⟨Dr_13, hg14, hf⟩ := b1_el hf
    refine cc_V (w' := ((kX6 cs ata (.ref (adr 0)) Ta_10) ++ ((kX3 cs adr  Dr_13)))) (wr := (kX6 cs ata (.ref (adr 0)) Ta_10)) (st1 := []) [.int v8] hx hb hml hown hu (tX3_putSign l D cs adr v8 Dr_11 Dr_13 hg14) q816 q57 q813 q814 q815 pdX3_putSign ⟨rfl, rfl, Nat.le_of_ble_eq_true rfl, Nat.le_of_ble_eq_true rfl⟩ hK hZ hP hD hS hA [2, 3, 4] [0, 1] [0, 1, 2, 3, 4] rfl rfl rfl rfl rfl rfl rfl rfl rfl rfl hl.1 rfl (Nat.le_of_ble_eq_true rfl) dX6_readB_62 rfl (fun H locs hP hD hS => ?_)
    have he := Option.some.inj hf
    obtain ⟨e0, e1⟩ := Prod.mk.inj he
    exact hrv _ _ rfl rfl dX6_readB_65 _ _ _ (by rw [e0, e1]) hP hD hS
  have hl : lv_has ls0 3 [(0, .ref (ata 0)), (1, .int x1)] := hl0
  have hP := hP0
  have hD := hD0
  have hS := hS0
  unfold fX6_readB_3 at hf
  refine lv_aload_n hx hb dX6_readB_0 rfl (lv_at hl 0 rfl) ?_
  refine lv_iload_n hx hb dX6_readB_1 rfl (lv_at hl 1 rfl) ?_
  obtain ⟨Ta_1, Dr_2, hg3, hf⟩ := b2_el hf
  refine cc_V1 (w' := ((kX6 cs ata (.ref (adr 0)) Ta_1) ++ ((kX3 cs adr  Dr_2)))) (st1 := []) [.int x1] hx hb hml hown hu (tX6_readS_3 l D cs ata adr x1 Ta Dr Ta_1 Dr_2 hg3) q705 q60 q702 q704 q12 pdX6_readS ⟨rfl, rfl, Nat.le_of_ble_eq_true rfl, Nat.le_of_ble_eq_true rfl⟩ hK hZ hP hD hS hA rfl rfl rfl rfl hl.1 rfl (Nat.le_of_ble_eq_true rfl) dX6_readB_2 rfl (fun H locs hP hD hS => ?_)
  refine lv_aload_n hx hb dX6_readB_5 rfl (lv_at hl 0 rfl) ?_
  refine lv_bipush (v := 60) hx hb dX6_readB_6 (by decide) ?_
  obtain ⟨r4, hg5, hf⟩ := b1_el hf
  refine cc_V (w' := ((kX6 cs ata (.ref (adr 0)) Ta_1) ++ ((kX3 cs adr  Dr_2)))) (wr := (kX3 cs adr  Dr_2)) (st1 := [.int r4]) [.int 60] hx hb hml hown hu (tX6_sees l D cs ata adr 60 Ta_1 r4 hg5) q825 q60 q822 q824 q18 pdX6_sees ⟨rfl, rfl, Nat.le_of_ble_eq_true rfl, Nat.le_of_ble_eq_true rfl⟩ hK hZ hP hD hS hA [0, 1] [2, 3, 4] [3, 4, 0, 1, 2] rfl rfl rfl rfl rfl rfl rfl rfl rfl rfl hl.1 rfl (Nat.le_of_ble_eq_true rfl) dX6_readB_8 rfl (fun H locs hP hD hS => ?_)
  refine lv_if_ne (tgt := 32) hx hb dX6_readB_11 (by decide) (fun hc6 => ?_) (fun hc6 => ?_)
  · have hf := in_el hc6 hf
    exact h32 x1 Ta_1 Dr_2 _ _ _ hP hD hS (lv_sub hl [0, 1] rfl) hf
  · have hf := ip_el hc6 hf
    refine lv_aload_n hx hb dX6_readB_14 rfl (lv_at hl 0 rfl) ?_
    refine lv_bipush (v := 61) hx hb dX6_readB_15 (by decide) ?_
    obtain ⟨r15, hg16, hf⟩ := b1_el hf
    refine cc_V (w' := ((kX6 cs ata (.ref (adr 0)) Ta_1) ++ ((kX3 cs adr  Dr_2)))) (wr := (kX3 cs adr  Dr_2)) (st1 := [.int r15]) [.int 61] hx hb hml hown hu (tX6_sees l D cs ata adr 61 Ta_1 r15 hg16) q825 q60 q822 q824 q18 pdX6_sees ⟨rfl, rfl, Nat.le_of_ble_eq_true rfl, Nat.le_of_ble_eq_true rfl⟩ hK hZ hP hD hS hA [0, 1] [2, 3, 4] [3, 4, 0, 1, 2] rfl rfl rfl rfl rfl rfl rfl rfl rfl rfl hl.1 rfl (Nat.le_of_ble_eq_true rfl) dX6_readB_17 rfl (fun H locs hP hD hS => ?_)
    refine lv_if_ne (tgt := 32) hx hb dX6_readB_20 (by decide) (fun hc17 => ?_) (fun hc17 => ?_)
    · have hf := in_el hc17 hf
      exact h32 x1 Ta_1 Dr_2 _ _ _ hP hD hS (lv_sub hl [0, 1] rfl) hf
    · have hf := ip_el hc17 hf
      refine lv_aload_n hx hb dX6_readB_23 rfl (lv_at hl 0 rfl) ?_
      refine lv_bipush (v := 62) hx hb dX6_readB_24 (by decide) ?_
      obtain ⟨r18, hg19, hf⟩ := b1_el hf
      refine cc_V (w' := ((kX6 cs ata (.ref (adr 0)) Ta_1) ++ ((kX3 cs adr  Dr_2)))) (wr := (kX3 cs adr  Dr_2)) (st1 := [.int r18]) [.int 62] hx hb hml hown hu (tX6_sees l D cs ata adr 62 Ta_1 r18 hg19) q825 q60 q822 q824 q18 pdX6_sees ⟨rfl, rfl, Nat.le_of_ble_eq_true rfl, Nat.le_of_ble_eq_true rfl⟩ hK hZ hP hD hS hA [0, 1] [2, 3, 4] [3, 4, 0, 1, 2] rfl rfl rfl rfl rfl rfl rfl rfl rfl rfl hl.1 rfl (Nat.le_of_ble_eq_true rfl) dX6_readB_26 rfl (fun H locs hP hD hS => ?_)
      refine lv_if_eq (tgt := 65) hx hb dX6_readB_29 (by decide) (fun hc20 => ?_) (fun hc20 => ?_)
      · have hf := ip_el hc20 hf
        have he := Option.some.inj hf
        obtain ⟨e0, e1⟩ := Prod.mk.inj he
        exact hrv _ _ rfl rfl dX6_readB_65 _ _ _ (by rw [e0, e1]) hP hD hS
      · have hf := in_el hc20 hf
        exact h32 x1 Ta_1 Dr_2 _ _ _ hP hD hS (lv_sub hl [0, 1] rfl) hf

def fX6_readA_3_7_s (k7 : Int32 → Int32 → ST → ST → Option (ST × ST)) (y1 : Int32) (y2 : Int32) (Ta : ST) (Dr : ST) : Option (ST × ST) :=
  (if 80 ≤ y2 then some (Ta, Dr) else dc_b2 (fX6_takes 38 Ta) (fun r5 Ta_6 => (if r5 = 0 then some (Ta_6, Dr) else dc_b2 (fX6_readB_3 y1 Ta_6 Dr) (fun Ta_9 Dr_10 => dc_b1 (fX3_putSign 38 Dr_10) (fun Dr_12 => dc_lt (y2 + 1) (fun v14 => k7 y1 v14 Ta_9 Dr_12))))))
def fX6_readA_3_7 : Nat → Int32 → Int32 → ST → ST → Option (ST × ST)
  | 0 => fun _ _ _ _ => none
  | n + 1 => fX6_readA_3_7_s (fX6_readA_3_7 n)
def fX6_readA_3 (x1 : Int32) (Ta : ST) (Dr : ST) : Option (ST × ST) :=
  dc_b2 (fX6_readB_3 x1 Ta Dr) (fun Ta_1 Dr_2 => fX6_readA_3_7 400 x1 0 Ta_1 Dr_2)
abbrev rmX6_readA_3 : Room := { frames := 20, cells := 0, slots := 0, locals := 461 }
set_option maxRecDepth 100000 in
set_option maxHeartbeats 4000000 in
theorem tX6_readA_3 (l : Launch) (D : va_G) (cs : Nat → ClassId) (ata : Nat → Nat) (adr : Nat → Nat) (x1 : Int32) (Ta : ST) (Dr : ST) (Taz : ST) (Drz : ST) (hf : fX6_readA_3 x1 Ta Dr = some (Taz, Drz)) : CG l yX6_readA (wsm yX6_readA cX6_readA 3 none) rmX6_readA_3 D cs [.ref (ata 0), .int x1] none ((kX6 cs ata (.ref (adr 0)) Ta) ++ ((kX3 cs adr  Dr))) ((kX6 cs ata (.ref (adr 0)) Taz) ++ ((kX3 cs adr  Drz))) := by
  refine CG.intro (by decide) (Nat.le_of_ble_eq_true rfl) ?_
  intro p e s m below meth c A Q hx hb hml hown hu hK hZ hP0 hD0 hS0 hA hri hrz hrl hrv hra ls0 hl0
  have hs7 : ∀ (k7 : Int32 → Int32 → ST → ST → Option (ST × ST)), (∀ (y1 : Int32) (y2 : Int32) (Ta : ST) (Dr : ST) (H : Heap) (locs : List Loc) (ls : Array Slot), va_P D vwCl ((kX6 cs ata (.ref (adr 0)) Ta) ++ ((kX3 cs adr  Dr))) H → va_D A ((kX6 cs ata (.ref (adr 0)) Ta) ++ ((kX3 cs adr  Dr))) → va_S A s.heap H locs → lv_has ls 3 [(0, .ref (ata 0)), (1, .int y1), (2, .int y2)] → k7 y1 y2 Ta Dr = some (Taz, Drz) → W p l e rmX6_readA_3 s m [.ref (ata 0), .int x1].toArray below meth c H locs 0 0 Q (F0 m 7 ls [])) → ∀ (y1 : Int32) (y2 : Int32) (Ta : ST) (Dr : ST) (H : Heap) (locs : List Loc) (ls : Array Slot), va_P D vwCl ((kX6 cs ata (.ref (adr 0)) Ta) ++ ((kX3 cs adr  Dr))) H → va_D A ((kX6 cs ata (.ref (adr 0)) Ta) ++ ((kX3 cs adr  Dr))) → va_S A s.heap H locs → lv_has ls 3 [(0, .ref (ata 0)), (1, .int y1), (2, .int y2)] → fX6_readA_3_7_s k7 y1 y2 Ta Dr = some (Taz, Drz) → W p l e rmX6_readA_3 s m [.ref (ata 0), .int x1].toArray below meth c H locs 0 0 Q (F0 m 7 ls []) := by
    intro k7 hk7 y1 y2 Ta Dr H locs ls hP hD hS hl hf
    unfold fX6_readA_3_7_s at hf
    refine lv_iload_n hx hb dX6_readA_7 rfl (lv_at hl 2 rfl) ?_
    refine lv_bipush (v := 80) hx hb dX6_readA_8 (by decide) ?_
    refine lv_icmp_ge (tgt := 42) hx hb dX6_readA_10 (by decide) (fun hc4 => ?_) (fun hc4 => ?_)
    · have hf := ip_el hc4 hf
      have he := Option.some.inj hf
      obtain ⟨e0, e1⟩ := Prod.mk.inj he
      exact hrv _ _ rfl rfl dX6_readA_42 _ _ _ (by rw [e0, e1]) hP hD hS
    · have hf := in_el hc4 hf
      refine lv_aload_n hx hb dX6_readA_13 rfl (lv_at hl 0 rfl) ?_
      refine lv_bipush (v := 38) hx hb dX6_readA_14 (by decide) ?_
      obtain ⟨r5, Ta_6, hg7, hf⟩ := b2_el hf
      refine cc_V (w' := ((kX6 cs ata (.ref (adr 0)) Ta_6) ++ ((kX3 cs adr  Dr)))) (wr := (kX3 cs adr  Dr)) (st1 := [.int r5]) [.int 38] hx hb hml hown hu (tX6_takes l D cs ata adr 38 Ta r5 Ta_6 hg7) q821 q60 q818 q820 q17 pdX6_takes ⟨rfl, rfl, Nat.le_of_ble_eq_true rfl, Nat.le_of_ble_eq_true rfl⟩ hK hZ hP hD hS hA [0, 1] [2, 3, 4] [3, 4, 0, 1, 2] rfl rfl rfl rfl rfl rfl rfl rfl rfl rfl hl.1 rfl (Nat.le_of_ble_eq_true rfl) dX6_readA_16 rfl (fun H locs hP hD hS => ?_)
      refine lv_if_eq (tgt := 42) hx hb dX6_readA_19 (by decide) (fun hc8 => ?_) (fun hc8 => ?_)
      · have hf := ip_el hc8 hf
        have he := Option.some.inj hf
        obtain ⟨e0, e1⟩ := Prod.mk.inj he
        exact hrv _ _ rfl rfl dX6_readA_42 _ _ _ (by rw [e0, e1]) hP hD hS
      · have hf := in_el hc8 hf
        refine lv_aload_n hx hb dX6_readA_22 rfl (lv_at hl 0 rfl) ?_
        refine lv_iload_n hx hb dX6_readA_23 rfl (lv_at hl 1 rfl) ?_
        obtain ⟨Ta_9, Dr_10, hg11, hf⟩ := b2_el hf
        refine cc_V1 (w' := ((kX6 cs ata (.ref (adr 0)) Ta_9) ++ ((kX3 cs adr  Dr_10)))) (st1 := []) [.int y1] hx hb hml hown hu (tX6_readB_3 l D cs ata adr y1 Ta_6 Dr Ta_9 Dr_10 hg11) q701 q60 q698 q700 q11 pdX6_readB ⟨rfl, rfl, Nat.le_of_ble_eq_true rfl, Nat.le_of_ble_eq_true rfl⟩ hK hZ hP hD hS hA rfl rfl rfl rfl hl.1 rfl (Nat.le_of_ble_eq_true rfl) dX6_readA_24 rfl (fun H locs hP hD hS => ?_)
        refine lv_aload_n hx hb dX6_readA_27 rfl (lv_at hl 0 rfl) ?_
        refine va_get (D := D) (ci := 6) (v := .ref (adr 0)) (C := RX6) (T := TX6) (N := 5) hx hb hu inX6 hown hK.1 hP 0 rfl rfl 1 (by decide) (hu _ q260) (fun _ h9 => h9) rfl dX6_readA_28 ?_
        refine lv_bipush (v := 38) hx hb dX6_readA_31 (by decide) ?_
        obtain ⟨Dr_12, hg13, hf⟩ := b1_el hf
        refine cc_V (w' := ((kX6 cs ata (.ref (adr 0)) Ta_9) ++ ((kX3 cs adr  Dr_12)))) (wr := (kX6 cs ata (.ref (adr 0)) Ta_9)) (st1 := []) [.int 38] hx hb hml hown hu (tX3_putSign l D cs adr 38 Dr_10 Dr_12 hg13) q816 q57 q813 q814 q815 pdX3_putSign ⟨rfl, rfl, Nat.le_of_ble_eq_true rfl, Nat.le_of_ble_eq_true rfl⟩ hK hZ hP hD hS hA [2, 3, 4] [0, 1] [0, 1, 2, 3, 4] rfl rfl rfl rfl rfl rfl rfl rfl rfl rfl hl.1 rfl (Nat.le_of_ble_eq_true rfl) dX6_readA_33 rfl (fun H locs hP hD hS => ?_)
        obtain ⟨v14, hv14, hf⟩ := lt_el hf
        refine lv_iinc (v := v14) (lv' := [(2, .int v14), (0, .ref (ata 0)), (1, .int y1)]) hx hb dX6_readA_36 hl (k := 2) rfl (by rw [hv14]; rfl) (by decide) rfl (fun ls hl => ?_)
        refine lv_goto (tgt := 7) hx hb dX6_readA_39 (by decide) ?_
        exact hk7 y1 v14 Ta_9 Dr_12 _ _ _ hP hD hS (lv_sub hl [1, 2, 0] rfl) hf
  have h7 : ∀ (n : Nat), ∀ (y1 : Int32) (y2 : Int32) (Ta : ST) (Dr : ST) (H : Heap) (locs : List Loc) (ls : Array Slot), va_P D vwCl ((kX6 cs ata (.ref (adr 0)) Ta) ++ ((kX3 cs adr  Dr))) H → va_D A ((kX6 cs ata (.ref (adr 0)) Ta) ++ ((kX3 cs adr  Dr))) → va_S A s.heap H locs → lv_has ls 3 [(0, .ref (ata 0)), (1, .int y1), (2, .int y2)] → fX6_readA_3_7 n y1 y2 Ta Dr = some (Taz, Drz) → W p l e rmX6_readA_3 s m [.ref (ata 0), .int x1].toArray below meth c H locs 0 0 Q (F0 m 7 ls []) := by
    intro n
    induction n with
    | zero => intro y1 y2 Ta Dr H locs ls hP hD hS hl hf; exact no_el hf
    | succ n ih => intro y1 y2 Ta Dr H locs ls hP hD hS hl hf; exact hs7 _ ih y1 y2 Ta Dr _ _ _ hP hD hS hl hf
  have hl : lv_has ls0 3 [(0, .ref (ata 0)), (1, .int x1)] := hl0
  have hP := hP0
  have hD := hD0
  have hS := hS0
  unfold fX6_readA_3 at hf
  refine lv_aload_n hx hb dX6_readA_0 rfl (lv_at hl 0 rfl) ?_
  refine lv_iload_n hx hb dX6_readA_1 rfl (lv_at hl 1 rfl) ?_
  obtain ⟨Ta_1, Dr_2, hg3, hf⟩ := b2_el hf
  refine cc_V1 (w' := ((kX6 cs ata (.ref (adr 0)) Ta_1) ++ ((kX3 cs adr  Dr_2)))) (st1 := []) [.int x1] hx hb hml hown hu (tX6_readB_3 l D cs ata adr x1 Ta Dr Ta_1 Dr_2 hg3) q701 q60 q698 q700 q11 pdX6_readB ⟨rfl, rfl, Nat.le_of_ble_eq_true rfl, Nat.le_of_ble_eq_true rfl⟩ hK hZ hP hD hS hA rfl rfl rfl rfl hl.1 rfl (Nat.le_of_ble_eq_true rfl) dX6_readA_2 rfl (fun H locs hP hD hS => ?_)
  refine lv_iconst (v := 0) hx hb dX6_readA_5 (by decide) ?_
  refine lv_istore_n (lv' := [(2, .int 0), (0, .ref (ata 0)), (1, .int x1)]) hx hb dX6_readA_6 rfl hl (by decide) rfl (fun ls hl => ?_)
  exact h7 400 x1 0 Ta_1 Dr_2 _ _ _ hP hD hS (lv_sub hl [1, 2, 0] rfl) hf

def fX6_readT_3_7_s (k7 : Int32 → Int32 → ST → ST → Option (ST × ST)) (y1 : Int32) (y2 : Int32) (Ta : ST) (Dr : ST) : Option (ST × ST) :=
  (if 80 ≤ y2 then some (Ta, Dr) else dc_b2 (fX6_takes 124 Ta) (fun r5 Ta_6 => (if r5 = 0 then some (Ta_6, Dr) else dc_b2 (fX6_readA_3 y1 Ta_6 Dr) (fun Ta_9 Dr_10 => dc_b1 (fX3_putSign 124 Dr_10) (fun Dr_12 => dc_lt (y2 + 1) (fun v14 => k7 y1 v14 Ta_9 Dr_12))))))
def fX6_readT_3_7 : Nat → Int32 → Int32 → ST → ST → Option (ST × ST)
  | 0 => fun _ _ _ _ => none
  | n + 1 => fX6_readT_3_7_s (fX6_readT_3_7 n)
def fX6_readT_3 (x1 : Int32) (Ta : ST) (Dr : ST) : Option (ST × ST) :=
  dc_b2 (fX6_readA_3 x1 Ta Dr) (fun Ta_1 Dr_2 => fX6_readT_3_7 400 x1 0 Ta_1 Dr_2)
abbrev rmX6_readT_3 : Room := { frames := 21, cells := 0, slots := 0, locals := 483 }
set_option maxRecDepth 100000 in
set_option maxHeartbeats 4000000 in
theorem tX6_readT_3 (l : Launch) (D : va_G) (cs : Nat → ClassId) (ata : Nat → Nat) (adr : Nat → Nat) (x1 : Int32) (Ta : ST) (Dr : ST) (Taz : ST) (Drz : ST) (hf : fX6_readT_3 x1 Ta Dr = some (Taz, Drz)) : CG l yX6_readT (wsm yX6_readT cX6_readT 3 none) rmX6_readT_3 D cs [.ref (ata 0), .int x1] none ((kX6 cs ata (.ref (adr 0)) Ta) ++ ((kX3 cs adr  Dr))) ((kX6 cs ata (.ref (adr 0)) Taz) ++ ((kX3 cs adr  Drz))) := by
  refine CG.intro (by decide) (Nat.le_of_ble_eq_true rfl) ?_
  intro p e s m below meth c A Q hx hb hml hown hu hK hZ hP0 hD0 hS0 hA hri hrz hrl hrv hra ls0 hl0
  have hs7 : ∀ (k7 : Int32 → Int32 → ST → ST → Option (ST × ST)), (∀ (y1 : Int32) (y2 : Int32) (Ta : ST) (Dr : ST) (H : Heap) (locs : List Loc) (ls : Array Slot), va_P D vwCl ((kX6 cs ata (.ref (adr 0)) Ta) ++ ((kX3 cs adr  Dr))) H → va_D A ((kX6 cs ata (.ref (adr 0)) Ta) ++ ((kX3 cs adr  Dr))) → va_S A s.heap H locs → lv_has ls 3 [(0, .ref (ata 0)), (1, .int y1), (2, .int y2)] → k7 y1 y2 Ta Dr = some (Taz, Drz) → W p l e rmX6_readT_3 s m [.ref (ata 0), .int x1].toArray below meth c H locs 0 0 Q (F0 m 7 ls [])) → ∀ (y1 : Int32) (y2 : Int32) (Ta : ST) (Dr : ST) (H : Heap) (locs : List Loc) (ls : Array Slot), va_P D vwCl ((kX6 cs ata (.ref (adr 0)) Ta) ++ ((kX3 cs adr  Dr))) H → va_D A ((kX6 cs ata (.ref (adr 0)) Ta) ++ ((kX3 cs adr  Dr))) → va_S A s.heap H locs → lv_has ls 3 [(0, .ref (ata 0)), (1, .int y1), (2, .int y2)] → fX6_readT_3_7_s k7 y1 y2 Ta Dr = some (Taz, Drz) → W p l e rmX6_readT_3 s m [.ref (ata 0), .int x1].toArray below meth c H locs 0 0 Q (F0 m 7 ls []) := by
    intro k7 hk7 y1 y2 Ta Dr H locs ls hP hD hS hl hf
    unfold fX6_readT_3_7_s at hf
    refine lv_iload_n hx hb dX6_readT_7 rfl (lv_at hl 2 rfl) ?_
    refine lv_bipush (v := 80) hx hb dX6_readT_8 (by decide) ?_
    refine lv_icmp_ge (tgt := 42) hx hb dX6_readT_10 (by decide) (fun hc4 => ?_) (fun hc4 => ?_)
    · have hf := ip_el hc4 hf
      have he := Option.some.inj hf
      obtain ⟨e0, e1⟩ := Prod.mk.inj he
      exact hrv _ _ rfl rfl dX6_readT_42 _ _ _ (by rw [e0, e1]) hP hD hS
    · have hf := in_el hc4 hf
      refine lv_aload_n hx hb dX6_readT_13 rfl (lv_at hl 0 rfl) ?_
      refine lv_bipush (v := 124) hx hb dX6_readT_14 (by decide) ?_
      obtain ⟨r5, Ta_6, hg7, hf⟩ := b2_el hf
      refine cc_V (w' := ((kX6 cs ata (.ref (adr 0)) Ta_6) ++ ((kX3 cs adr  Dr)))) (wr := (kX3 cs adr  Dr)) (st1 := [.int r5]) [.int 124] hx hb hml hown hu (tX6_takes l D cs ata adr 124 Ta r5 Ta_6 hg7) q821 q60 q818 q820 q17 pdX6_takes ⟨rfl, rfl, Nat.le_of_ble_eq_true rfl, Nat.le_of_ble_eq_true rfl⟩ hK hZ hP hD hS hA [0, 1] [2, 3, 4] [3, 4, 0, 1, 2] rfl rfl rfl rfl rfl rfl rfl rfl rfl rfl hl.1 rfl (Nat.le_of_ble_eq_true rfl) dX6_readT_16 rfl (fun H locs hP hD hS => ?_)
      refine lv_if_eq (tgt := 42) hx hb dX6_readT_19 (by decide) (fun hc8 => ?_) (fun hc8 => ?_)
      · have hf := ip_el hc8 hf
        have he := Option.some.inj hf
        obtain ⟨e0, e1⟩ := Prod.mk.inj he
        exact hrv _ _ rfl rfl dX6_readT_42 _ _ _ (by rw [e0, e1]) hP hD hS
      · have hf := in_el hc8 hf
        refine lv_aload_n hx hb dX6_readT_22 rfl (lv_at hl 0 rfl) ?_
        refine lv_iload_n hx hb dX6_readT_23 rfl (lv_at hl 1 rfl) ?_
        obtain ⟨Ta_9, Dr_10, hg11, hf⟩ := b2_el hf
        refine cc_V1 (w' := ((kX6 cs ata (.ref (adr 0)) Ta_9) ++ ((kX3 cs adr  Dr_10)))) (st1 := []) [.int y1] hx hb hml hown hu (tX6_readA_3 l D cs ata adr y1 Ta_6 Dr Ta_9 Dr_10 hg11) q697 q60 q694 q696 q10 pdX6_readA ⟨rfl, rfl, Nat.le_of_ble_eq_true rfl, Nat.le_of_ble_eq_true rfl⟩ hK hZ hP hD hS hA rfl rfl rfl rfl hl.1 rfl (Nat.le_of_ble_eq_true rfl) dX6_readT_24 rfl (fun H locs hP hD hS => ?_)
        refine lv_aload_n hx hb dX6_readT_27 rfl (lv_at hl 0 rfl) ?_
        refine va_get (D := D) (ci := 6) (v := .ref (adr 0)) (C := RX6) (T := TX6) (N := 5) hx hb hu inX6 hown hK.1 hP 0 rfl rfl 1 (by decide) (hu _ q260) (fun _ h9 => h9) rfl dX6_readT_28 ?_
        refine lv_bipush (v := 124) hx hb dX6_readT_31 (by decide) ?_
        obtain ⟨Dr_12, hg13, hf⟩ := b1_el hf
        refine cc_V (w' := ((kX6 cs ata (.ref (adr 0)) Ta_9) ++ ((kX3 cs adr  Dr_12)))) (wr := (kX6 cs ata (.ref (adr 0)) Ta_9)) (st1 := []) [.int 124] hx hb hml hown hu (tX3_putSign l D cs adr 124 Dr_10 Dr_12 hg13) q816 q57 q813 q814 q815 pdX3_putSign ⟨rfl, rfl, Nat.le_of_ble_eq_true rfl, Nat.le_of_ble_eq_true rfl⟩ hK hZ hP hD hS hA [2, 3, 4] [0, 1] [0, 1, 2, 3, 4] rfl rfl rfl rfl rfl rfl rfl rfl rfl rfl hl.1 rfl (Nat.le_of_ble_eq_true rfl) dX6_readT_33 rfl (fun H locs hP hD hS => ?_)
        obtain ⟨v14, hv14, hf⟩ := lt_el hf
        refine lv_iinc (v := v14) (lv' := [(2, .int v14), (0, .ref (ata 0)), (1, .int y1)]) hx hb dX6_readT_36 hl (k := 2) rfl (by rw [hv14]; rfl) (by decide) rfl (fun ls hl => ?_)
        refine lv_goto (tgt := 7) hx hb dX6_readT_39 (by decide) ?_
        exact hk7 y1 v14 Ta_9 Dr_12 _ _ _ hP hD hS (lv_sub hl [1, 2, 0] rfl) hf
  have h7 : ∀ (n : Nat), ∀ (y1 : Int32) (y2 : Int32) (Ta : ST) (Dr : ST) (H : Heap) (locs : List Loc) (ls : Array Slot), va_P D vwCl ((kX6 cs ata (.ref (adr 0)) Ta) ++ ((kX3 cs adr  Dr))) H → va_D A ((kX6 cs ata (.ref (adr 0)) Ta) ++ ((kX3 cs adr  Dr))) → va_S A s.heap H locs → lv_has ls 3 [(0, .ref (ata 0)), (1, .int y1), (2, .int y2)] → fX6_readT_3_7 n y1 y2 Ta Dr = some (Taz, Drz) → W p l e rmX6_readT_3 s m [.ref (ata 0), .int x1].toArray below meth c H locs 0 0 Q (F0 m 7 ls []) := by
    intro n
    induction n with
    | zero => intro y1 y2 Ta Dr H locs ls hP hD hS hl hf; exact no_el hf
    | succ n ih => intro y1 y2 Ta Dr H locs ls hP hD hS hl hf; exact hs7 _ ih y1 y2 Ta Dr _ _ _ hP hD hS hl hf
  have hl : lv_has ls0 3 [(0, .ref (ata 0)), (1, .int x1)] := hl0
  have hP := hP0
  have hD := hD0
  have hS := hS0
  unfold fX6_readT_3 at hf
  refine lv_aload_n hx hb dX6_readT_0 rfl (lv_at hl 0 rfl) ?_
  refine lv_iload_n hx hb dX6_readT_1 rfl (lv_at hl 1 rfl) ?_
  obtain ⟨Ta_1, Dr_2, hg3, hf⟩ := b2_el hf
  refine cc_V1 (w' := ((kX6 cs ata (.ref (adr 0)) Ta_1) ++ ((kX3 cs adr  Dr_2)))) (st1 := []) [.int x1] hx hb hml hown hu (tX6_readA_3 l D cs ata adr x1 Ta Dr Ta_1 Dr_2 hg3) q697 q60 q694 q696 q10 pdX6_readA ⟨rfl, rfl, Nat.le_of_ble_eq_true rfl, Nat.le_of_ble_eq_true rfl⟩ hK hZ hP hD hS hA rfl rfl rfl rfl hl.1 rfl (Nat.le_of_ble_eq_true rfl) dX6_readT_2 rfl (fun H locs hP hD hS => ?_)
  refine lv_iconst (v := 0) hx hb dX6_readT_5 (by decide) ?_
  refine lv_istore_n (lv' := [(2, .int 0), (0, .ref (ata 0)), (1, .int x1)]) hx hb dX6_readT_6 rfl hl (by decide) rfl (fun ls hl => ?_)
  exact h7 400 x1 0 Ta_1 Dr_2 _ _ _ hP hD hS (lv_sub hl [1, 2, 0] rfl) hf

def fX6_readQ_2_144 (y1 : Int32) (Ta : ST) (Dr : ST) : Option (ST × ST) :=
  (if 5 ≤ y1 then dc_lt (sti Ta 0 4 1) (fun Ta_8 => some (Ta_8, Dr)) else dc_b2 (fX6_takes 40 Ta) (fun r9 Ta_10 => (if r9 = 0 then dc_lt (sti Ta_10 0 4 1) (fun Ta_13 => some (Ta_13, Dr)) else dc_b2 (fX6_readT_3 (y1 + 1) Ta_10 Dr) (fun Ta_14 Dr_15 => dc_b2 (fX6_takes 41 Ta_14) (fun r17 Ta_18 => (if r17 = 0 then dc_lt (sti Ta_18 0 4 1) (fun Ta_21 => some (Ta_21, Dr_15)) else some (Ta_18, Dr_15)))))))
def fX6_readQ_2_111 (y1 : Int32) (Ta : ST) (Dr : ST) : Option (ST × ST) :=
  (if 5 ≤ y1 then fX6_readQ_2_144 y1 Ta Dr else dc_b2 (fX6_takes 45 Ta) (fun r22 Ta_23 => (if r22 = 0 then fX6_readQ_2_144 y1 Ta_23 Dr else dc_b2 (fX6_readQ_3 (y1 + 1) Ta_23 Dr) (fun Ta_26 Dr_27 => dc_b1 (fX3_putSign 126 Dr_27) (fun Dr_29 => some (Ta_26, Dr_29))))))
def fX6_readQ_2_78 (y1 : Int32) (Ta : ST) (Dr : ST) : Option (ST × ST) :=
  (if 5 ≤ y1 then fX6_readQ_2_111 y1 Ta Dr else dc_b2 (fX6_takes 33 Ta) (fun r31 Ta_32 => (if r31 = 0 then fX6_readQ_2_111 y1 Ta_32 Dr else dc_b2 (fX6_readQ_3 (y1 + 1) Ta_32 Dr) (fun Ta_35 Dr_36 => dc_b1 (fX3_putSign 33 Dr_36) (fun Dr_38 => some (Ta_35, Dr_38))))))
def fX6_readQ_2 (x1 : Int32) (Ta : ST) (Dr : ST) : Option (ST × ST) :=
  dc_b1 (fX6_seesDigit Ta) (fun r1 => (if r1 = 0 then (if (Ta 0 4) = 0 then (if (Ta 0 2) ≤ (Ta 0 3) then fX6_readQ_2_78 x1 Ta Dr else dc_ck (Ta 0 3) 80 (dc_b1 (fJ0_indexOf_0f7a4 (Ta 1 (Int32.toNatClampNeg (Ta 0 3)))) (fun r42 => (if r42 < 0 then fX6_readQ_2_78 x1 Ta Dr else dc_ck (Ta 0 3) 80 (dc_b1 (fX3_putSign (Ta 1 (Int32.toNatClampNeg (Ta 0 3))) Dr) (fun Dr_46 => dc_lt (sti Ta 0 3 ((Ta 0 3) + 1)) (fun Ta_48 => some (Ta_48, Dr_46)))))))) else fX6_readQ_2_78 x1 Ta Dr) else dc_b2 (fX6_readNumber Ta Dr) (fun Ta_49 Dr_50 => some (Ta_49, Dr_50))))
abbrev rmX6_readQ_2 : Room := { frames := 22, cells := 0, slots := 0, locals := 505 }
set_option maxRecDepth 100000 in
set_option maxHeartbeats 4000000 in
theorem tX6_readQ_2 (l : Launch) (D : va_G) (cs : Nat → ClassId) (ata : Nat → Nat) (adr : Nat → Nat) (x1 : Int32) (Ta : ST) (Dr : ST) (Taz : ST) (Drz : ST) (hf : fX6_readQ_2 x1 Ta Dr = some (Taz, Drz)) : CG l yX6_readQ (wsm yX6_readQ cX6_readQ 2 none) rmX6_readQ_2 D cs [.ref (ata 0), .int x1] none ((kX6 cs ata (.ref (adr 0)) Ta) ++ ((kX3 cs adr  Dr))) ((kX6 cs ata (.ref (adr 0)) Taz) ++ ((kX3 cs adr  Drz))) := by
  refine CG.intro (by decide) (Nat.le_of_ble_eq_true rfl) ?_
  intro p e s m below meth c A Q hx hb hml hown hu hK hZ hP0 hD0 hS0 hA hri hrz hrl hrv hra ls0 hl0
  have h144 : ∀ (y1 : Int32) (Ta : ST) (Dr : ST) (H : Heap) (locs : List Loc) (ls : Array Slot), va_P D vwCl ((kX6 cs ata (.ref (adr 0)) Ta) ++ ((kX3 cs adr  Dr))) H → va_D A ((kX6 cs ata (.ref (adr 0)) Ta) ++ ((kX3 cs adr  Dr))) → va_S A s.heap H locs → lv_has ls 2 [(0, .ref (ata 0)), (1, .int y1)] → fX6_readQ_2_144 y1 Ta Dr = some (Taz, Drz) → W p l e rmX6_readQ_2 s m [.ref (ata 0), .int x1].toArray below meth c H locs 0 0 Q (F0 m 144 ls []) := by
    intro y1 Ta Dr H locs ls hP hD hS hl hf
    unfold fX6_readQ_2_144 at hf
    refine lv_iload_n hx hb dX6_readQ_144 rfl (lv_at hl 1 rfl) ?_
    refine lv_iconst (v := 5) hx hb dX6_readQ_145 (by decide) ?_
    refine lv_icmp_ge (tgt := 182) hx hb dX6_readQ_146 (by decide) (fun hc7 => ?_) (fun hc7 => ?_)
    · have hf := ip_el hc7 hf
      refine lv_aload_n hx hb dX6_readQ_182 rfl (lv_at hl 0 rfl) ?_
      refine lv_iconst (v := 1) hx hb dX6_readQ_183 (by decide) ?_
      obtain ⟨Ta_8, hTa_8, hf⟩ := lt_el hf
      refine va_put (D := D) (ci := 6) (v := .int 1) (ty := .boolean) (C := RX6) (T := TX6) (N := 5) hx hb hu inX6 tyX6 tyX6_ok nmX6 hown hK.1 hP hD hS 0 rfl rfl 4 (by decide) (hu _ q266) (fun _ h9 => h9) rfl (by decide +kernel) rfl rfl (Nat.le_of_ble_eq_true rfl) dX6_readQ_184 (fun H locs hP hD hS => ?_)
      have hP : va_P D vwCl ((kX6 cs ata (.ref (adr 0)) Ta_8) ++ ((kX3 cs adr  Dr))) H := by rw [hTa_8]; exact hP
      have hD : va_D A ((kX6 cs ata (.ref (adr 0)) Ta_8) ++ ((kX3 cs adr  Dr))) := by rw [hTa_8]; exact hD
      have he := Option.some.inj hf
      obtain ⟨e0, e1⟩ := Prod.mk.inj he
      exact hrv _ _ rfl rfl dX6_readQ_187 _ _ _ (by rw [e0, e1]) hP hD hS
    · have hf := in_el hc7 hf
      refine lv_aload_n hx hb dX6_readQ_149 rfl (lv_at hl 0 rfl) ?_
      refine lv_bipush (v := 40) hx hb dX6_readQ_150 (by decide) ?_
      obtain ⟨r9, Ta_10, hg11, hf⟩ := b2_el hf
      refine cc_V (w' := ((kX6 cs ata (.ref (adr 0)) Ta_10) ++ ((kX3 cs adr  Dr)))) (wr := (kX3 cs adr  Dr)) (st1 := [.int r9]) [.int 40] hx hb hml hown hu (tX6_takes l D cs ata adr 40 Ta r9 Ta_10 hg11) q821 q60 q818 q820 q17 pdX6_takes ⟨rfl, rfl, Nat.le_of_ble_eq_true rfl, Nat.le_of_ble_eq_true rfl⟩ hK hZ hP hD hS hA [0, 1] [2, 3, 4] [3, 4, 0, 1, 2] rfl rfl rfl rfl rfl rfl rfl rfl rfl rfl hl.1 rfl (Nat.le_of_ble_eq_true rfl) dX6_readQ_152 rfl (fun H locs hP hD hS => ?_)
      refine lv_if_eq (tgt := 182) hx hb dX6_readQ_155 (by decide) (fun hc12 => ?_) (fun hc12 => ?_)
      · have hf := ip_el hc12 hf
        refine lv_aload_n hx hb dX6_readQ_182 rfl (lv_at hl 0 rfl) ?_
        refine lv_iconst (v := 1) hx hb dX6_readQ_183 (by decide) ?_
        obtain ⟨Ta_13, hTa_13, hf⟩ := lt_el hf
        refine va_put (D := D) (ci := 6) (v := .int 1) (ty := .boolean) (C := RX6) (T := TX6) (N := 5) hx hb hu inX6 tyX6 tyX6_ok nmX6 hown hK.1 hP hD hS 0 rfl rfl 4 (by decide) (hu _ q266) (fun _ h9 => h9) rfl (by decide +kernel) rfl rfl (Nat.le_of_ble_eq_true rfl) dX6_readQ_184 (fun H locs hP hD hS => ?_)
        have hP : va_P D vwCl ((kX6 cs ata (.ref (adr 0)) Ta_13) ++ ((kX3 cs adr  Dr))) H := by rw [hTa_13]; exact hP
        have hD : va_D A ((kX6 cs ata (.ref (adr 0)) Ta_13) ++ ((kX3 cs adr  Dr))) := by rw [hTa_13]; exact hD
        have he := Option.some.inj hf
        obtain ⟨e0, e1⟩ := Prod.mk.inj he
        exact hrv _ _ rfl rfl dX6_readQ_187 _ _ _ (by rw [e0, e1]) hP hD hS
      · have hf := in_el hc12 hf
        refine lv_aload_n hx hb dX6_readQ_158 rfl (lv_at hl 0 rfl) ?_
        refine lv_iload_n hx hb dX6_readQ_159 rfl (lv_at hl 1 rfl) ?_
        refine lv_iconst (v := 1) hx hb dX6_readQ_160 (by decide) ?_
        refine lv_iadd hx hb dX6_readQ_161 ?_
        obtain ⟨Ta_14, Dr_15, hg16, hf⟩ := b2_el hf
        refine cc_V1 (w' := ((kX6 cs ata (.ref (adr 0)) Ta_14) ++ ((kX3 cs adr  Dr_15)))) (st1 := []) [.int (y1 + 1)] hx hb hml hown hu (tX6_readT_3 l D cs ata adr (y1 + 1) Ta_10 Dr Ta_14 Dr_15 hg16) q693 q60 q690 q692 q9 pdX6_readT ⟨rfl, rfl, Nat.le_of_ble_eq_true rfl, Nat.le_of_ble_eq_true rfl⟩ hK hZ hP hD hS hA rfl rfl rfl rfl hl.1 rfl (Nat.le_of_ble_eq_true rfl) dX6_readQ_162 rfl (fun H locs hP hD hS => ?_)
        refine lv_aload_n hx hb dX6_readQ_165 rfl (lv_at hl 0 rfl) ?_
        refine lv_bipush (v := 41) hx hb dX6_readQ_166 (by decide) ?_
        obtain ⟨r17, Ta_18, hg19, hf⟩ := b2_el hf
        refine cc_V (w' := ((kX6 cs ata (.ref (adr 0)) Ta_18) ++ ((kX3 cs adr  Dr_15)))) (wr := (kX3 cs adr  Dr_15)) (st1 := [.int r17]) [.int 41] hx hb hml hown hu (tX6_takes l D cs ata adr 41 Ta_14 r17 Ta_18 hg19) q821 q60 q818 q820 q17 pdX6_takes ⟨rfl, rfl, Nat.le_of_ble_eq_true rfl, Nat.le_of_ble_eq_true rfl⟩ hK hZ hP hD hS hA [0, 1] [2, 3, 4] [3, 4, 0, 1, 2] rfl rfl rfl rfl rfl rfl rfl rfl rfl rfl hl.1 rfl (Nat.le_of_ble_eq_true rfl) dX6_readQ_168 rfl (fun H locs hP hD hS => ?_)
        refine lv_if_ne (tgt := 187) hx hb dX6_readQ_171 (by decide) (fun hc20 => ?_) (fun hc20 => ?_)
        · have hf := in_el hc20 hf
          have he := Option.some.inj hf
          obtain ⟨e0, e1⟩ := Prod.mk.inj he
          exact hrv _ _ rfl rfl dX6_readQ_187 _ _ _ (by rw [e0, e1]) hP hD hS
        · have hf := ip_el hc20 hf
          refine lv_aload_n hx hb dX6_readQ_174 rfl (lv_at hl 0 rfl) ?_
          refine lv_iconst (v := 1) hx hb dX6_readQ_175 (by decide) ?_
          obtain ⟨Ta_21, hTa_21, hf⟩ := lt_el hf
          refine va_put (D := D) (ci := 6) (v := .int 1) (ty := .boolean) (C := RX6) (T := TX6) (N := 5) hx hb hu inX6 tyX6 tyX6_ok nmX6 hown hK.1 hP hD hS 0 rfl rfl 4 (by decide) (hu _ q266) (fun _ h9 => h9) rfl (by decide +kernel) rfl rfl (Nat.le_of_ble_eq_true rfl) dX6_readQ_176 (fun H locs hP hD hS => ?_)
          have hP : va_P D vwCl ((kX6 cs ata (.ref (adr 0)) Ta_21) ++ ((kX3 cs adr  Dr_15))) H := by rw [hTa_21]; exact hP
          have hD : va_D A ((kX6 cs ata (.ref (adr 0)) Ta_21) ++ ((kX3 cs adr  Dr_15))) := by rw [hTa_21]; exact hD
          refine lv_goto (tgt := 187) hx hb dX6_readQ_179 (by decide) ?_
          have he := Option.some.inj hf
          obtain ⟨e0, e1⟩ := Prod.mk.inj he
          exact hrv _ _ rfl rfl dX6_readQ_187 _ _ _ (by rw [e0, e1]) hP hD hS
  have h111 : ∀ (y1 : Int32) (Ta : ST) (Dr : ST) (H : Heap) (locs : List Loc) (ls : Array Slot), va_P D vwCl ((kX6 cs ata (.ref (adr 0)) Ta) ++ ((kX3 cs adr  Dr))) H → va_D A ((kX6 cs ata (.ref (adr 0)) Ta) ++ ((kX3 cs adr  Dr))) → va_S A s.heap H locs → lv_has ls 2 [(0, .ref (ata 0)), (1, .int y1)] → fX6_readQ_2_111 y1 Ta Dr = some (Taz, Drz) → W p l e rmX6_readQ_2 s m [.ref (ata 0), .int x1].toArray below meth c H locs 0 0 Q (F0 m 111 ls []) := by
    intro y1 Ta Dr H locs ls hP hD hS hl hf
    unfold fX6_readQ_2_111 at hf
    refine lv_iload_n hx hb dX6_readQ_111 rfl (lv_at hl 1 rfl) ?_
    refine lv_iconst (v := 5) hx hb dX6_readQ_112 (by decide) ?_
    refine lv_icmp_ge (tgt := 144) hx hb dX6_readQ_113 (by decide) (fun hc6 => ?_) (fun hc6 => ?_)
    · have hf := ip_el hc6 hf
      exact h144 y1 Ta Dr _ _ _ hP hD hS (lv_sub hl [0, 1] rfl) hf
    · have hf := in_el hc6 hf
      refine lv_aload_n hx hb dX6_readQ_116 rfl (lv_at hl 0 rfl) ?_
      refine lv_bipush (v := 45) hx hb dX6_readQ_117 (by decide) ?_
      obtain ⟨r22, Ta_23, hg24, hf⟩ := b2_el hf
      refine cc_V (w' := ((kX6 cs ata (.ref (adr 0)) Ta_23) ++ ((kX3 cs adr  Dr)))) (wr := (kX3 cs adr  Dr)) (st1 := [.int r22]) [.int 45] hx hb hml hown hu (tX6_takes l D cs ata adr 45 Ta r22 Ta_23 hg24) q821 q60 q818 q820 q17 pdX6_takes ⟨rfl, rfl, Nat.le_of_ble_eq_true rfl, Nat.le_of_ble_eq_true rfl⟩ hK hZ hP hD hS hA [0, 1] [2, 3, 4] [3, 4, 0, 1, 2] rfl rfl rfl rfl rfl rfl rfl rfl rfl rfl hl.1 rfl (Nat.le_of_ble_eq_true rfl) dX6_readQ_119 rfl (fun H locs hP hD hS => ?_)
      refine lv_if_eq (tgt := 144) hx hb dX6_readQ_122 (by decide) (fun hc25 => ?_) (fun hc25 => ?_)
      · have hf := ip_el hc25 hf
        exact h144 y1 Ta_23 Dr _ _ _ hP hD hS (lv_sub hl [0, 1] rfl) hf
      · have hf := in_el hc25 hf
        refine lv_aload_n hx hb dX6_readQ_125 rfl (lv_at hl 0 rfl) ?_
        refine lv_iload_n hx hb dX6_readQ_126 rfl (lv_at hl 1 rfl) ?_
        refine lv_iconst (v := 1) hx hb dX6_readQ_127 (by decide) ?_
        refine lv_iadd hx hb dX6_readQ_128 ?_
        obtain ⟨Ta_26, Dr_27, hg28, hf⟩ := b2_el hf
        refine cc_V1 (w' := ((kX6 cs ata (.ref (adr 0)) Ta_26) ++ ((kX3 cs adr  Dr_27)))) (st1 := []) [.int (y1 + 1)] hx hb hml hown hu (tX6_readQ_3 l D cs ata adr (y1 + 1) Ta_23 Dr Ta_26 Dr_27 hg28) q713 q60 q710 q712 q14 pdX6_readQ ⟨rfl, rfl, Nat.le_of_ble_eq_true rfl, Nat.le_of_ble_eq_true rfl⟩ hK hZ hP hD hS hA rfl rfl rfl rfl hl.1 rfl (Nat.le_of_ble_eq_true rfl) dX6_readQ_129 rfl (fun H locs hP hD hS => ?_)
        refine lv_aload_n hx hb dX6_readQ_132 rfl (lv_at hl 0 rfl) ?_
        refine va_get (D := D) (ci := 6) (v := .ref (adr 0)) (C := RX6) (T := TX6) (N := 5) hx hb hu inX6 hown hK.1 hP 0 rfl rfl 1 (by decide) (hu _ q260) (fun _ h9 => h9) rfl dX6_readQ_133 ?_
        refine lv_bipush (v := 126) hx hb dX6_readQ_136 (by decide) ?_
        obtain ⟨Dr_29, hg30, hf⟩ := b1_el hf
        refine cc_V (w' := ((kX6 cs ata (.ref (adr 0)) Ta_26) ++ ((kX3 cs adr  Dr_29)))) (wr := (kX6 cs ata (.ref (adr 0)) Ta_26)) (st1 := []) [.int 126] hx hb hml hown hu (tX3_putSign l D cs adr 126 Dr_27 Dr_29 hg30) q816 q57 q813 q814 q815 pdX3_putSign ⟨rfl, rfl, Nat.le_of_ble_eq_true rfl, Nat.le_of_ble_eq_true rfl⟩ hK hZ hP hD hS hA [2, 3, 4] [0, 1] [0, 1, 2, 3, 4] rfl rfl rfl rfl rfl rfl rfl rfl rfl rfl hl.1 rfl (Nat.le_of_ble_eq_true rfl) dX6_readQ_138 rfl (fun H locs hP hD hS => ?_)
        refine lv_goto (tgt := 187) hx hb dX6_readQ_141 (by decide) ?_
        have he := Option.some.inj hf
        obtain ⟨e0, e1⟩ := Prod.mk.inj he
        exact hrv _ _ rfl rfl dX6_readQ_187 _ _ _ (by rw [e0, e1]) hP hD hS
  have h78 : ∀ (y1 : Int32) (Ta : ST) (Dr : ST) (H : Heap) (locs : List Loc) (ls : Array Slot), va_P D vwCl ((kX6 cs ata (.ref (adr 0)) Ta) ++ ((kX3 cs adr  Dr))) H → va_D A ((kX6 cs ata (.ref (adr 0)) Ta) ++ ((kX3 cs adr  Dr))) → va_S A s.heap H locs → lv_has ls 2 [(0, .ref (ata 0)), (1, .int y1)] → fX6_readQ_2_78 y1 Ta Dr = some (Taz, Drz) → W p l e rmX6_readQ_2 s m [.ref (ata 0), .int x1].toArray below meth c H locs 0 0 Q (F0 m 78 ls []) := by
    intro y1 Ta Dr H locs ls hP hD hS hl hf
    unfold fX6_readQ_2_78 at hf
    refine lv_iload_n hx hb dX6_readQ_78 rfl (lv_at hl 1 rfl) ?_
    refine lv_iconst (v := 5) hx hb dX6_readQ_79 (by decide) ?_
    refine lv_icmp_ge (tgt := 111) hx hb dX6_readQ_80 (by decide) (fun hc5 => ?_) (fun hc5 => ?_)
    · have hf := ip_el hc5 hf
      exact h111 y1 Ta Dr _ _ _ hP hD hS (lv_sub hl [0, 1] rfl) hf
    · have hf := in_el hc5 hf
      refine lv_aload_n hx hb dX6_readQ_83 rfl (lv_at hl 0 rfl) ?_
      refine lv_bipush (v := 33) hx hb dX6_readQ_84 (by decide) ?_
      obtain ⟨r31, Ta_32, hg33, hf⟩ := b2_el hf
      refine cc_V (w' := ((kX6 cs ata (.ref (adr 0)) Ta_32) ++ ((kX3 cs adr  Dr)))) (wr := (kX3 cs adr  Dr)) (st1 := [.int r31]) [.int 33] hx hb hml hown hu (tX6_takes l D cs ata adr 33 Ta r31 Ta_32 hg33) q821 q60 q818 q820 q17 pdX6_takes ⟨rfl, rfl, Nat.le_of_ble_eq_true rfl, Nat.le_of_ble_eq_true rfl⟩ hK hZ hP hD hS hA [0, 1] [2, 3, 4] [3, 4, 0, 1, 2] rfl rfl rfl rfl rfl rfl rfl rfl rfl rfl hl.1 rfl (Nat.le_of_ble_eq_true rfl) dX6_readQ_86 rfl (fun H locs hP hD hS => ?_)
      refine lv_if_eq (tgt := 111) hx hb dX6_readQ_89 (by decide) (fun hc34 => ?_) (fun hc34 => ?_)
      · have hf := ip_el hc34 hf
        exact h111 y1 Ta_32 Dr _ _ _ hP hD hS (lv_sub hl [0, 1] rfl) hf
      · have hf := in_el hc34 hf
        refine lv_aload_n hx hb dX6_readQ_92 rfl (lv_at hl 0 rfl) ?_
        refine lv_iload_n hx hb dX6_readQ_93 rfl (lv_at hl 1 rfl) ?_
        refine lv_iconst (v := 1) hx hb dX6_readQ_94 (by decide) ?_
        refine lv_iadd hx hb dX6_readQ_95 ?_
        obtain ⟨Ta_35, Dr_36, hg37, hf⟩ := b2_el hf
        refine cc_V1 (w' := ((kX6 cs ata (.ref (adr 0)) Ta_35) ++ ((kX3 cs adr  Dr_36)))) (st1 := []) [.int (y1 + 1)] hx hb hml hown hu (tX6_readQ_3 l D cs ata adr (y1 + 1) Ta_32 Dr Ta_35 Dr_36 hg37) q713 q60 q710 q712 q14 pdX6_readQ ⟨rfl, rfl, Nat.le_of_ble_eq_true rfl, Nat.le_of_ble_eq_true rfl⟩ hK hZ hP hD hS hA rfl rfl rfl rfl hl.1 rfl (Nat.le_of_ble_eq_true rfl) dX6_readQ_96 rfl (fun H locs hP hD hS => ?_)
        refine lv_aload_n hx hb dX6_readQ_99 rfl (lv_at hl 0 rfl) ?_
        refine va_get (D := D) (ci := 6) (v := .ref (adr 0)) (C := RX6) (T := TX6) (N := 5) hx hb hu inX6 hown hK.1 hP 0 rfl rfl 1 (by decide) (hu _ q260) (fun _ h9 => h9) rfl dX6_readQ_100 ?_
        refine lv_bipush (v := 33) hx hb dX6_readQ_103 (by decide) ?_
        obtain ⟨Dr_38, hg39, hf⟩ := b1_el hf
        refine cc_V (w' := ((kX6 cs ata (.ref (adr 0)) Ta_35) ++ ((kX3 cs adr  Dr_38)))) (wr := (kX6 cs ata (.ref (adr 0)) Ta_35)) (st1 := []) [.int 33] hx hb hml hown hu (tX3_putSign l D cs adr 33 Dr_36 Dr_38 hg39) q816 q57 q813 q814 q815 pdX3_putSign ⟨rfl, rfl, Nat.le_of_ble_eq_true rfl, Nat.le_of_ble_eq_true rfl⟩ hK hZ hP hD hS hA [2, 3, 4] [0, 1] [0, 1, 2, 3, 4] rfl rfl rfl rfl rfl rfl rfl rfl rfl rfl hl.1 rfl (Nat.le_of_ble_eq_true rfl) dX6_readQ_105 rfl (fun H locs hP hD hS => ?_)
        refine lv_goto (tgt := 187) hx hb dX6_readQ_108 (by decide) ?_
        have he := Option.some.inj hf
        obtain ⟨e0, e1⟩ := Prod.mk.inj he
        exact hrv _ _ rfl rfl dX6_readQ_187 _ _ _ (by rw [e0, e1]) hP hD hS
  have hl : lv_has ls0 2 [(0, .ref (ata 0)), (1, .int x1)] := hl0
  have hP := hP0
  have hD := hD0
  have hS := hS0
  unfold fX6_readQ_2 at hf
  refine lv_aload_n hx hb dX6_readQ_0 rfl (lv_at hl 0 rfl) ?_
  obtain ⟨r1, hg2, hf⟩ := b1_el hf
  refine cc_V (w' := ((kX6 cs ata (.ref (adr 0)) Ta) ++ ((kX3 cs adr  Dr)))) (wr := (kX3 cs adr  Dr)) (st1 := [.int r1]) [] hx hb hml hown hu (tX6_seesDigit l D cs ata adr Ta r1 hg2) q717 q60 q714 q716 q15 pdX6_seesDigit ⟨rfl, rfl, Nat.le_of_ble_eq_true rfl, Nat.le_of_ble_eq_true rfl⟩ hK hZ hP hD hS hA [0, 1] [2, 3, 4] [3, 4, 0, 1, 2] rfl rfl rfl rfl rfl rfl rfl rfl rfl rfl hl.1 rfl (Nat.le_of_ble_eq_true rfl) dX6_readQ_1 rfl (fun H locs hP hD hS => ?_)
  refine lv_if_eq (tgt := 14) hx hb dX6_readQ_4 (by decide) (fun hc3 => ?_) (fun hc3 => ?_)
  · have hf := ip_el hc3 hf
    refine lv_aload_n hx hb dX6_readQ_14 rfl (lv_at hl 0 rfl) ?_
    refine va_get (D := D) (ci := 6) (v := .int (Ta 0 4)) (C := RX6) (T := TX6) (N := 5) hx hb hu inX6 hown hK.1 hP 0 rfl rfl 4 (by decide) (hu _ q266) (fun _ h9 => h9) rfl dX6_readQ_15 ?_
    refine lv_if_ne (tgt := 78) hx hb dX6_readQ_18 (by decide) (fun hc4 => ?_) (fun hc4 => ?_)
    · have hf := in_el hc4 hf
      exact h78 x1 Ta Dr _ _ _ hP hD hS (lv_sub hl [0, 1] rfl) hf
    · have hf := ip_el hc4 hf
      refine lv_aload_n hx hb dX6_readQ_21 rfl (lv_at hl 0 rfl) ?_
      refine va_get (D := D) (ci := 6) (v := .int (Ta 0 3)) (C := RX6) (T := TX6) (N := 5) hx hb hu inX6 hown hK.1 hP 0 rfl rfl 3 (by decide) (hu _ q264) (fun _ h9 => h9) rfl dX6_readQ_22 ?_
      refine lv_aload_n hx hb dX6_readQ_25 rfl (lv_at hl 0 rfl) ?_
      refine va_get (D := D) (ci := 6) (v := .int (Ta 0 2)) (C := RX6) (T := TX6) (N := 5) hx hb hu inX6 hown hK.1 hP 0 rfl rfl 2 (by decide) (hu _ q262) (fun _ h9 => h9) rfl dX6_readQ_26 ?_
      refine lv_icmp_ge (tgt := 78) hx hb dX6_readQ_29 (by decide) (fun hc40 => ?_) (fun hc40 => ?_)
      · have hf := ip_el hc40 hf
        exact h78 x1 Ta Dr _ _ _ hP hD hS (lv_sub hl [0, 1] rfl) hf
      · have hf := in_el hc40 hf
        refine va_ldcS hx hb hown hZ.2.2.2.2.1 dX6_readQ_32 ?_
        refine lv_aload_n hx hb dX6_readQ_34 rfl (lv_at hl 0 rfl) ?_
        refine va_get (D := D) (ci := 6) (v := .ref (ata 1)) (C := RX6) (T := TX6) (N := 5) hx hb hu inX6 hown hK.1 hP 0 rfl rfl 0 (by decide) (hu _ q259) (fun _ h9 => h9) rfl dX6_readQ_35 ?_
        refine lv_aload_n hx hb dX6_readQ_38 rfl (lv_at hl 0 rfl) ?_
        refine va_get (D := D) (ci := 6) (v := .int (Ta 0 3)) (C := RX6) (T := TX6) (N := 5) hx hb hu inX6 hown hK.1 hP 0 rfl rfl 3 (by decide) (hu _ q264) (fun _ h9 => h9) rfl dX6_readQ_39 ?_
        obtain ⟨hi41, hf⟩ := ck_el hf
        refine va_cald hx hb hK.1 hP 1 2 rfl rfl hi41 dX6_readQ_42 ?_
        obtain ⟨r42, hg43, hf⟩ := b1_el hf
        refine cc_Z0 (st1 := [.int r42]) [.int (Ta 1 (Int32.toNatClampNeg (Ta 0 3)))] hx hb hml hown hu (tJ0_indexOf_0f7a4 l D cs (Ta 1 (Int32.toNatClampNeg (Ta 0 3))) r42 hg43) q730 q66 q727 q728 q729 pdJ0_indexOf_0f7a4 ⟨rfl, rfl, Nat.le_of_ble_eq_true rfl, Nat.le_of_ble_eq_true rfl⟩ hK hZ hP hD hS hA (vk_recv hZ.2.2.2.2.2 (i := 0) (by decide) hS) rfl hl.1 rfl (Nat.le_of_ble_eq_true rfl) dX6_readQ_43 rfl (fun H locs hP hD hS => ?_)
        refine lv_if_lt (tgt := 78) hx hb dX6_readQ_46 (by decide) (fun hc44 => ?_) (fun hc44 => ?_)
        · have hf := ip_el hc44 hf
          exact h78 x1 Ta Dr _ _ _ hP hD hS (lv_sub hl [0, 1] rfl) hf
        · have hf := in_el hc44 hf
          refine lv_aload_n hx hb dX6_readQ_49 rfl (lv_at hl 0 rfl) ?_
          refine va_get (D := D) (ci := 6) (v := .ref (adr 0)) (C := RX6) (T := TX6) (N := 5) hx hb hu inX6 hown hK.1 hP 0 rfl rfl 1 (by decide) (hu _ q260) (fun _ h9 => h9) rfl dX6_readQ_50 ?_
          refine lv_aload_n hx hb dX6_readQ_53 rfl (lv_at hl 0 rfl) ?_
          refine va_get (D := D) (ci := 6) (v := .ref (ata 1)) (C := RX6) (T := TX6) (N := 5) hx hb hu inX6 hown hK.1 hP 0 rfl rfl 0 (by decide) (hu _ q259) (fun _ h9 => h9) rfl dX6_readQ_54 ?_
          refine lv_aload_n hx hb dX6_readQ_57 rfl (lv_at hl 0 rfl) ?_
          refine va_get (D := D) (ci := 6) (v := .int (Ta 0 3)) (C := RX6) (T := TX6) (N := 5) hx hb hu inX6 hown hK.1 hP 0 rfl rfl 3 (by decide) (hu _ q264) (fun _ h9 => h9) rfl dX6_readQ_58 ?_
          obtain ⟨hi45, hf⟩ := ck_el hf
          refine va_cald hx hb hK.1 hP 1 2 rfl rfl hi45 dX6_readQ_61 ?_
          obtain ⟨Dr_46, hg47, hf⟩ := b1_el hf
          refine cc_V (w' := ((kX6 cs ata (.ref (adr 0)) Ta) ++ ((kX3 cs adr  Dr_46)))) (wr := (kX6 cs ata (.ref (adr 0)) Ta)) (st1 := []) [.int (Ta 1 (Int32.toNatClampNeg (Ta 0 3)))] hx hb hml hown hu (tX3_putSign l D cs adr (Ta 1 (Int32.toNatClampNeg (Ta 0 3))) Dr Dr_46 hg47) q816 q57 q813 q814 q815 pdX3_putSign ⟨rfl, rfl, Nat.le_of_ble_eq_true rfl, Nat.le_of_ble_eq_true rfl⟩ hK hZ hP hD hS hA [2, 3, 4] [0, 1] [0, 1, 2, 3, 4] rfl rfl rfl rfl rfl rfl rfl rfl rfl rfl hl.1 rfl (Nat.le_of_ble_eq_true rfl) dX6_readQ_62 rfl (fun H locs hP hD hS => ?_)
          refine lv_aload_n hx hb dX6_readQ_65 rfl (lv_at hl 0 rfl) ?_
          refine lv_dup hx hb dX6_readQ_66 rfl ?_
          refine va_get (D := D) (ci := 6) (v := .int (Ta 0 3)) (C := RX6) (T := TX6) (N := 5) hx hb hu inX6 hown hK.1 hP 0 rfl rfl 3 (by decide) (hu _ q264) (fun _ h9 => h9) rfl dX6_readQ_67 ?_
          refine lv_iconst (v := 1) hx hb dX6_readQ_70 (by decide) ?_
          refine lv_iadd hx hb dX6_readQ_71 ?_
          obtain ⟨Ta_48, hTa_48, hf⟩ := lt_el hf
          refine va_put (D := D) (ci := 6) (v := .int ((Ta 0 3) + 1)) (ty := .int) (C := RX6) (T := TX6) (N := 5) hx hb hu inX6 tyX6 tyX6_ok nmX6 hown hK.1 hP hD hS 0 rfl rfl 3 (by decide) (hu _ q264) (fun _ h9 => h9) rfl (by decide +kernel) rfl rfl (Nat.le_of_ble_eq_true rfl) dX6_readQ_72 (fun H locs hP hD hS => ?_)
          have hP : va_P D vwCl ((kX6 cs ata (.ref (adr 0)) Ta_48) ++ ((kX3 cs adr  Dr_46))) H := by rw [hTa_48]; exact hP
          have hD : va_D A ((kX6 cs ata (.ref (adr 0)) Ta_48) ++ ((kX3 cs adr  Dr_46))) := by rw [hTa_48]; exact hD
          refine lv_goto (tgt := 187) hx hb dX6_readQ_75 (by decide) ?_
          have he := Option.some.inj hf
          obtain ⟨e0, e1⟩ := Prod.mk.inj he
          exact hrv _ _ rfl rfl dX6_readQ_187 _ _ _ (by rw [e0, e1]) hP hD hS
  · have hf := in_el hc3 hf
    refine lv_aload_n hx hb dX6_readQ_7 rfl (lv_at hl 0 rfl) ?_
    obtain ⟨Ta_49, Dr_50, hg51, hf⟩ := b2_el hf
    refine cc_V1 (w' := ((kX6 cs ata (.ref (adr 0)) Ta_49) ++ ((kX3 cs adr  Dr_50)))) (st1 := []) [] hx hb hml hown hu (tX6_readNumber l D cs ata adr Ta Dr Ta_49 Dr_50 hg51) q721 q60 q718 q720 q16 pdX6_readNumber ⟨rfl, rfl, Nat.le_of_ble_eq_true rfl, Nat.le_of_ble_eq_true rfl⟩ hK hZ hP hD hS hA rfl rfl rfl rfl hl.1 rfl (Nat.le_of_ble_eq_true rfl) dX6_readQ_8 rfl (fun H locs hP hD hS => ?_)
    refine lv_goto (tgt := 187) hx hb dX6_readQ_11 (by decide) ?_
    have he := Option.some.inj hf
    obtain ⟨e0, e1⟩ := Prod.mk.inj he
    exact hrv _ _ rfl rfl dX6_readQ_187 _ _ _ (by rw [e0, e1]) hP hD hS

def fX6_readP_2_40 (k7 : Int32 → Int32 → ST → ST → Option (ST × ST)) (y1 : Int32) (y2 : Int32) (Ta : ST) (Dr : ST) : Option (ST × ST) :=
  dc_ck (Ta 0 3) 80 (dc_lt (Ta 1 (Int32.toNatClampNeg (Ta 0 3))) (fun v9 => dc_lt (sti Ta 0 3 ((Ta 0 3) + 1)) (fun Ta_10 => dc_b2 (fX6_readQ_2 y1 Ta_10 Dr) (fun Ta_11 Dr_12 => dc_b1 (fX3_putSign v9 Dr_12) (fun Dr_14 => dc_lt (y2 + 1) (fun v16 => k7 y1 v16 Ta_11 Dr_14))))))
def fX6_readP_2_7_s (k7 : Int32 → Int32 → ST → ST → Option (ST × ST)) (y1 : Int32) (y2 : Int32) (Ta : ST) (Dr : ST) : Option (ST × ST) :=
  (if 80 ≤ y2 then some (Ta, Dr) else dc_b1 (fX6_sees 42 Ta) (fun r5 => (if r5 = 0 then dc_b1 (fX6_sees 47 Ta) (fun r17 => (if r17 = 0 then dc_b1 (fX6_sees 37 Ta) (fun r20 => (if r20 = 0 then some (Ta, Dr) else fX6_readP_2_40 k7 y1 y2 Ta Dr)) else fX6_readP_2_40 k7 y1 y2 Ta Dr)) else fX6_readP_2_40 k7 y1 y2 Ta Dr)))
def fX6_readP_2_7 : Nat → Int32 → Int32 → ST → ST → Option (ST × ST)
  | 0 => fun _ _ _ _ => none
  | n + 1 => fX6_readP_2_7_s (fX6_readP_2_7 n)
def fX6_readP_2 (x1 : Int32) (Ta : ST) (Dr : ST) : Option (ST × ST) :=
  dc_b2 (fX6_readQ_2 x1 Ta Dr) (fun Ta_1 Dr_2 => fX6_readP_2_7 400 x1 0 Ta_1 Dr_2)
abbrev rmX6_readP_2 : Room := { frames := 23, cells := 0, slots := 0, locals := 526 }
set_option maxRecDepth 100000 in
set_option maxHeartbeats 4000000 in
theorem tX6_readP_2 (l : Launch) (D : va_G) (cs : Nat → ClassId) (ata : Nat → Nat) (adr : Nat → Nat) (x1 : Int32) (Ta : ST) (Dr : ST) (Taz : ST) (Drz : ST) (hf : fX6_readP_2 x1 Ta Dr = some (Taz, Drz)) : CG l yX6_readP (wsm yX6_readP cX6_readP 4 none) rmX6_readP_2 D cs [.ref (ata 0), .int x1] none ((kX6 cs ata (.ref (adr 0)) Ta) ++ ((kX3 cs adr  Dr))) ((kX6 cs ata (.ref (adr 0)) Taz) ++ ((kX3 cs adr  Drz))) := by
  refine CG.intro (by decide) (Nat.le_of_ble_eq_true rfl) ?_
  intro p e s m below meth c A Q hx hb hml hown hu hK hZ hP0 hD0 hS0 hA hri hrz hrl hrv hra ls0 hl0
  have h40 : ∀ (k7 : Int32 → Int32 → ST → ST → Option (ST × ST)), (∀ (y1 : Int32) (y2 : Int32) (Ta : ST) (Dr : ST) (H : Heap) (locs : List Loc) (ls : Array Slot), va_P D vwCl ((kX6 cs ata (.ref (adr 0)) Ta) ++ ((kX3 cs adr  Dr))) H → va_D A ((kX6 cs ata (.ref (adr 0)) Ta) ++ ((kX3 cs adr  Dr))) → va_S A s.heap H locs → lv_has ls 4 [(0, .ref (ata 0)), (1, .int y1), (2, .int y2)] → k7 y1 y2 Ta Dr = some (Taz, Drz) → W p l e rmX6_readP_2 s m [.ref (ata 0), .int x1].toArray below meth c H locs 0 0 Q (F0 m 7 ls [])) → ∀ (y1 : Int32) (y2 : Int32) (Ta : ST) (Dr : ST) (H : Heap) (locs : List Loc) (ls : Array Slot), va_P D vwCl ((kX6 cs ata (.ref (adr 0)) Ta) ++ ((kX3 cs adr  Dr))) H → va_D A ((kX6 cs ata (.ref (adr 0)) Ta) ++ ((kX3 cs adr  Dr))) → va_S A s.heap H locs → lv_has ls 4 [(0, .ref (ata 0)), (1, .int y1), (2, .int y2)] → fX6_readP_2_40 k7 y1 y2 Ta Dr = some (Taz, Drz) → W p l e rmX6_readP_2 s m [.ref (ata 0), .int x1].toArray below meth c H locs 0 0 Q (F0 m 40 ls []) := by
    intro k7 hk7 y1 y2 Ta Dr H locs ls hP hD hS hl hf
    unfold fX6_readP_2_40 at hf
    refine lv_aload_n hx hb dX6_readP_40 rfl (lv_at hl 0 rfl) ?_
    refine va_get (D := D) (ci := 6) (v := .ref (ata 1)) (C := RX6) (T := TX6) (N := 5) hx hb hu inX6 hown hK.1 hP 0 rfl rfl 0 (by decide) (hu _ q259) (fun _ h9 => h9) rfl dX6_readP_41 ?_
    refine lv_aload_n hx hb dX6_readP_44 rfl (lv_at hl 0 rfl) ?_
    refine va_get (D := D) (ci := 6) (v := .int (Ta 0 3)) (C := RX6) (T := TX6) (N := 5) hx hb hu inX6 hown hK.1 hP 0 rfl rfl 3 (by decide) (hu _ q264) (fun _ h9 => h9) rfl dX6_readP_45 ?_
    obtain ⟨hi8, hf⟩ := ck_el hf
    refine va_cald hx hb hK.1 hP 1 2 rfl rfl hi8 dX6_readP_48 ?_
    obtain ⟨v9, hv9, hf⟩ := lt_el hf
    refine lv_tope hv9 ?_
    refine lv_istore_n (lv' := [(3, .int v9), (0, .ref (ata 0)), (1, .int y1), (2, .int y2)]) hx hb dX6_readP_49 rfl hl (by decide) rfl (fun ls hl => ?_)
    refine lv_aload_n hx hb dX6_readP_50 rfl (lv_at hl 1 rfl) ?_
    refine lv_dup hx hb dX6_readP_51 rfl ?_
    refine va_get (D := D) (ci := 6) (v := .int (Ta 0 3)) (C := RX6) (T := TX6) (N := 5) hx hb hu inX6 hown hK.1 hP 0 rfl rfl 3 (by decide) (hu _ q264) (fun _ h9 => h9) rfl dX6_readP_52 ?_
    refine lv_iconst (v := 1) hx hb dX6_readP_55 (by decide) ?_
    refine lv_iadd hx hb dX6_readP_56 ?_
    obtain ⟨Ta_10, hTa_10, hf⟩ := lt_el hf
    refine va_put (D := D) (ci := 6) (v := .int ((Ta 0 3) + 1)) (ty := .int) (C := RX6) (T := TX6) (N := 5) hx hb hu inX6 tyX6 tyX6_ok nmX6 hown hK.1 hP hD hS 0 rfl rfl 3 (by decide) (hu _ q264) (fun _ h9 => h9) rfl (by decide +kernel) rfl rfl (Nat.le_of_ble_eq_true rfl) dX6_readP_57 (fun H locs hP hD hS => ?_)
    have hP : va_P D vwCl ((kX6 cs ata (.ref (adr 0)) Ta_10) ++ ((kX3 cs adr  Dr))) H := by rw [hTa_10]; exact hP
    have hD : va_D A ((kX6 cs ata (.ref (adr 0)) Ta_10) ++ ((kX3 cs adr  Dr))) := by rw [hTa_10]; exact hD
    refine lv_aload_n hx hb dX6_readP_60 rfl (lv_at hl 1 rfl) ?_
    refine lv_iload_n hx hb dX6_readP_61 rfl (lv_at hl 2 rfl) ?_
    obtain ⟨Ta_11, Dr_12, hg13, hf⟩ := b2_el hf
    refine cc_V1 (w' := ((kX6 cs ata (.ref (adr 0)) Ta_11) ++ ((kX3 cs adr  Dr_12)))) (st1 := []) [.int y1] hx hb hml hown hu (tX6_readQ_2 l D cs ata adr y1 Ta_10 Dr Ta_11 Dr_12 hg13) q713 q60 q710 q712 q14 pdX6_readQ ⟨rfl, rfl, Nat.le_of_ble_eq_true rfl, Nat.le_of_ble_eq_true rfl⟩ hK hZ hP hD hS hA rfl rfl rfl rfl hl.1 rfl (Nat.le_of_ble_eq_true rfl) dX6_readP_62 rfl (fun H locs hP hD hS => ?_)
    refine lv_aload_n hx hb dX6_readP_65 rfl (lv_at hl 1 rfl) ?_
    refine va_get (D := D) (ci := 6) (v := .ref (adr 0)) (C := RX6) (T := TX6) (N := 5) hx hb hu inX6 hown hK.1 hP 0 rfl rfl 1 (by decide) (hu _ q260) (fun _ h9 => h9) rfl dX6_readP_66 ?_
    refine lv_iload_n hx hb dX6_readP_69 rfl (lv_at hl 0 rfl) ?_
    obtain ⟨Dr_14, hg15, hf⟩ := b1_el hf
    refine cc_V (w' := ((kX6 cs ata (.ref (adr 0)) Ta_11) ++ ((kX3 cs adr  Dr_14)))) (wr := (kX6 cs ata (.ref (adr 0)) Ta_11)) (st1 := []) [.int v9] hx hb hml hown hu (tX3_putSign l D cs adr v9 Dr_12 Dr_14 hg15) q816 q57 q813 q814 q815 pdX3_putSign ⟨rfl, rfl, Nat.le_of_ble_eq_true rfl, Nat.le_of_ble_eq_true rfl⟩ hK hZ hP hD hS hA [2, 3, 4] [0, 1] [0, 1, 2, 3, 4] rfl rfl rfl rfl rfl rfl rfl rfl rfl rfl hl.1 rfl (Nat.le_of_ble_eq_true rfl) dX6_readP_70 rfl (fun H locs hP hD hS => ?_)
    obtain ⟨v16, hv16, hf⟩ := lt_el hf
    refine lv_iinc (v := v16) (lv' := [(2, .int v16), (3, .int v9), (0, .ref (ata 0)), (1, .int y1)]) hx hb dX6_readP_73 hl (k := 3) rfl (by rw [hv16]; rfl) (by decide) rfl (fun ls hl => ?_)
    refine lv_goto (tgt := 7) hx hb dX6_readP_76 (by decide) ?_
    exact hk7 y1 v16 Ta_11 Dr_14 _ _ _ hP hD hS (lv_sub hl [2, 3, 0] rfl) hf
  have hs7 : ∀ (k7 : Int32 → Int32 → ST → ST → Option (ST × ST)), (∀ (y1 : Int32) (y2 : Int32) (Ta : ST) (Dr : ST) (H : Heap) (locs : List Loc) (ls : Array Slot), va_P D vwCl ((kX6 cs ata (.ref (adr 0)) Ta) ++ ((kX3 cs adr  Dr))) H → va_D A ((kX6 cs ata (.ref (adr 0)) Ta) ++ ((kX3 cs adr  Dr))) → va_S A s.heap H locs → lv_has ls 4 [(0, .ref (ata 0)), (1, .int y1), (2, .int y2)] → k7 y1 y2 Ta Dr = some (Taz, Drz) → W p l e rmX6_readP_2 s m [.ref (ata 0), .int x1].toArray below meth c H locs 0 0 Q (F0 m 7 ls [])) → ∀ (y1 : Int32) (y2 : Int32) (Ta : ST) (Dr : ST) (H : Heap) (locs : List Loc) (ls : Array Slot), va_P D vwCl ((kX6 cs ata (.ref (adr 0)) Ta) ++ ((kX3 cs adr  Dr))) H → va_D A ((kX6 cs ata (.ref (adr 0)) Ta) ++ ((kX3 cs adr  Dr))) → va_S A s.heap H locs → lv_has ls 4 [(0, .ref (ata 0)), (1, .int y1), (2, .int y2)] → fX6_readP_2_7_s k7 y1 y2 Ta Dr = some (Taz, Drz) → W p l e rmX6_readP_2 s m [.ref (ata 0), .int x1].toArray below meth c H locs 0 0 Q (F0 m 7 ls []) := by
    intro k7 hk7 y1 y2 Ta Dr H locs ls hP hD hS hl hf
    unfold fX6_readP_2_7_s at hf
    refine lv_iload_n hx hb dX6_readP_7 rfl (lv_at hl 2 rfl) ?_
    refine lv_bipush (v := 80) hx hb dX6_readP_8 (by decide) ?_
    refine lv_icmp_ge (tgt := 79) hx hb dX6_readP_10 (by decide) (fun hc4 => ?_) (fun hc4 => ?_)
    · have hf := ip_el hc4 hf
      have he := Option.some.inj hf
      obtain ⟨e0, e1⟩ := Prod.mk.inj he
      exact hrv _ _ rfl rfl dX6_readP_79 _ _ _ (by rw [e0, e1]) hP hD hS
    · have hf := in_el hc4 hf
      refine lv_aload_n hx hb dX6_readP_13 rfl (lv_at hl 0 rfl) ?_
      refine lv_bipush (v := 42) hx hb dX6_readP_14 (by decide) ?_
      obtain ⟨r5, hg6, hf⟩ := b1_el hf
      refine cc_V (w' := ((kX6 cs ata (.ref (adr 0)) Ta) ++ ((kX3 cs adr  Dr)))) (wr := (kX3 cs adr  Dr)) (st1 := [.int r5]) [.int 42] hx hb hml hown hu (tX6_sees l D cs ata adr 42 Ta r5 hg6) q825 q60 q822 q824 q18 pdX6_sees ⟨rfl, rfl, Nat.le_of_ble_eq_true rfl, Nat.le_of_ble_eq_true rfl⟩ hK hZ hP hD hS hA [0, 1] [2, 3, 4] [3, 4, 0, 1, 2] rfl rfl rfl rfl rfl rfl rfl rfl rfl rfl hl.1 rfl (Nat.le_of_ble_eq_true rfl) dX6_readP_16 rfl (fun H locs hP hD hS => ?_)
      refine lv_if_ne (tgt := 40) hx hb dX6_readP_19 (by decide) (fun hc7 => ?_) (fun hc7 => ?_)
      · have hf := in_el hc7 hf
        exact h40 k7 hk7 y1 y2 Ta Dr _ _ _ hP hD hS (lv_sub hl [0, 1, 2] rfl) hf
      · have hf := ip_el hc7 hf
        refine lv_aload_n hx hb dX6_readP_22 rfl (lv_at hl 0 rfl) ?_
        refine lv_bipush (v := 47) hx hb dX6_readP_23 (by decide) ?_
        obtain ⟨r17, hg18, hf⟩ := b1_el hf
        refine cc_V (w' := ((kX6 cs ata (.ref (adr 0)) Ta) ++ ((kX3 cs adr  Dr)))) (wr := (kX3 cs adr  Dr)) (st1 := [.int r17]) [.int 47] hx hb hml hown hu (tX6_sees l D cs ata adr 47 Ta r17 hg18) q825 q60 q822 q824 q18 pdX6_sees ⟨rfl, rfl, Nat.le_of_ble_eq_true rfl, Nat.le_of_ble_eq_true rfl⟩ hK hZ hP hD hS hA [0, 1] [2, 3, 4] [3, 4, 0, 1, 2] rfl rfl rfl rfl rfl rfl rfl rfl rfl rfl hl.1 rfl (Nat.le_of_ble_eq_true rfl) dX6_readP_25 rfl (fun H locs hP hD hS => ?_)
        refine lv_if_ne (tgt := 40) hx hb dX6_readP_28 (by decide) (fun hc19 => ?_) (fun hc19 => ?_)
        · have hf := in_el hc19 hf
          exact h40 k7 hk7 y1 y2 Ta Dr _ _ _ hP hD hS (lv_sub hl [0, 1, 2] rfl) hf
        · have hf := ip_el hc19 hf
          refine lv_aload_n hx hb dX6_readP_31 rfl (lv_at hl 0 rfl) ?_
          refine lv_bipush (v := 37) hx hb dX6_readP_32 (by decide) ?_
          obtain ⟨r20, hg21, hf⟩ := b1_el hf
          refine cc_V (w' := ((kX6 cs ata (.ref (adr 0)) Ta) ++ ((kX3 cs adr  Dr)))) (wr := (kX3 cs adr  Dr)) (st1 := [.int r20]) [.int 37] hx hb hml hown hu (tX6_sees l D cs ata adr 37 Ta r20 hg21) q825 q60 q822 q824 q18 pdX6_sees ⟨rfl, rfl, Nat.le_of_ble_eq_true rfl, Nat.le_of_ble_eq_true rfl⟩ hK hZ hP hD hS hA [0, 1] [2, 3, 4] [3, 4, 0, 1, 2] rfl rfl rfl rfl rfl rfl rfl rfl rfl rfl hl.1 rfl (Nat.le_of_ble_eq_true rfl) dX6_readP_34 rfl (fun H locs hP hD hS => ?_)
          refine lv_if_eq (tgt := 79) hx hb dX6_readP_37 (by decide) (fun hc22 => ?_) (fun hc22 => ?_)
          · have hf := ip_el hc22 hf
            have he := Option.some.inj hf
            obtain ⟨e0, e1⟩ := Prod.mk.inj he
            exact hrv _ _ rfl rfl dX6_readP_79 _ _ _ (by rw [e0, e1]) hP hD hS
          · have hf := in_el hc22 hf
            exact h40 k7 hk7 y1 y2 Ta Dr _ _ _ hP hD hS (lv_sub hl [0, 1, 2] rfl) hf
  have h7 : ∀ (n : Nat), ∀ (y1 : Int32) (y2 : Int32) (Ta : ST) (Dr : ST) (H : Heap) (locs : List Loc) (ls : Array Slot), va_P D vwCl ((kX6 cs ata (.ref (adr 0)) Ta) ++ ((kX3 cs adr  Dr))) H → va_D A ((kX6 cs ata (.ref (adr 0)) Ta) ++ ((kX3 cs adr  Dr))) → va_S A s.heap H locs → lv_has ls 4 [(0, .ref (ata 0)), (1, .int y1), (2, .int y2)] → fX6_readP_2_7 n y1 y2 Ta Dr = some (Taz, Drz) → W p l e rmX6_readP_2 s m [.ref (ata 0), .int x1].toArray below meth c H locs 0 0 Q (F0 m 7 ls []) := by
    intro n
    induction n with
    | zero => intro y1 y2 Ta Dr H locs ls hP hD hS hl hf; exact no_el hf
    | succ n ih => intro y1 y2 Ta Dr H locs ls hP hD hS hl hf; exact hs7 _ ih y1 y2 Ta Dr _ _ _ hP hD hS hl hf
  have hl : lv_has ls0 4 [(0, .ref (ata 0)), (1, .int x1)] := hl0
  have hP := hP0
  have hD := hD0
  have hS := hS0
  unfold fX6_readP_2 at hf
  refine lv_aload_n hx hb dX6_readP_0 rfl (lv_at hl 0 rfl) ?_
  refine lv_iload_n hx hb dX6_readP_1 rfl (lv_at hl 1 rfl) ?_
  obtain ⟨Ta_1, Dr_2, hg3, hf⟩ := b2_el hf
  refine cc_V1 (w' := ((kX6 cs ata (.ref (adr 0)) Ta_1) ++ ((kX3 cs adr  Dr_2)))) (st1 := []) [.int x1] hx hb hml hown hu (tX6_readQ_2 l D cs ata adr x1 Ta Dr Ta_1 Dr_2 hg3) q713 q60 q710 q712 q14 pdX6_readQ ⟨rfl, rfl, Nat.le_of_ble_eq_true rfl, Nat.le_of_ble_eq_true rfl⟩ hK hZ hP hD hS hA rfl rfl rfl rfl hl.1 rfl (Nat.le_of_ble_eq_true rfl) dX6_readP_2 rfl (fun H locs hP hD hS => ?_)
  refine lv_iconst (v := 0) hx hb dX6_readP_5 (by decide) ?_
  refine lv_istore_n (lv' := [(2, .int 0), (0, .ref (ata 0)), (1, .int x1)]) hx hb dX6_readP_6 rfl hl (by decide) rfl (fun ls hl => ?_)
  exact h7 400 x1 0 Ta_1 Dr_2 _ _ _ hP hD hS (lv_sub hl [1, 2, 0] rfl) hf

def fX6_readS_2_31 (k7 : Int32 → Int32 → ST → ST → Option (ST × ST)) (y1 : Int32) (y2 : Int32) (Ta : ST) (Dr : ST) : Option (ST × ST) :=
  dc_ck (Ta 0 3) 80 (dc_lt (Ta 1 (Int32.toNatClampNeg (Ta 0 3))) (fun v9 => dc_lt (sti Ta 0 3 ((Ta 0 3) + 1)) (fun Ta_10 => dc_b2 (fX6_readP_2 y1 Ta_10 Dr) (fun Ta_11 Dr_12 => dc_b1 (fX3_putSign v9 Dr_12) (fun Dr_14 => dc_lt (y2 + 1) (fun v16 => k7 y1 v16 Ta_11 Dr_14))))))
def fX6_readS_2_7_s (k7 : Int32 → Int32 → ST → ST → Option (ST × ST)) (y1 : Int32) (y2 : Int32) (Ta : ST) (Dr : ST) : Option (ST × ST) :=
  (if 80 ≤ y2 then some (Ta, Dr) else dc_b1 (fX6_sees 43 Ta) (fun r5 => (if r5 = 0 then dc_b1 (fX6_sees 45 Ta) (fun r17 => (if r17 = 0 then some (Ta, Dr) else fX6_readS_2_31 k7 y1 y2 Ta Dr)) else fX6_readS_2_31 k7 y1 y2 Ta Dr)))
def fX6_readS_2_7 : Nat → Int32 → Int32 → ST → ST → Option (ST × ST)
  | 0 => fun _ _ _ _ => none
  | n + 1 => fX6_readS_2_7_s (fX6_readS_2_7 n)
def fX6_readS_2 (x1 : Int32) (Ta : ST) (Dr : ST) : Option (ST × ST) :=
  dc_b2 (fX6_readP_2 x1 Ta Dr) (fun Ta_1 Dr_2 => fX6_readS_2_7 400 x1 0 Ta_1 Dr_2)
abbrev rmX6_readS_2 : Room := { frames := 24, cells := 0, slots := 0, locals := 549 }
set_option maxRecDepth 100000 in
set_option maxHeartbeats 4000000 in
theorem tX6_readS_2 (l : Launch) (D : va_G) (cs : Nat → ClassId) (ata : Nat → Nat) (adr : Nat → Nat) (x1 : Int32) (Ta : ST) (Dr : ST) (Taz : ST) (Drz : ST) (hf : fX6_readS_2 x1 Ta Dr = some (Taz, Drz)) : CG l yX6_readS (wsm yX6_readS cX6_readS 4 none) rmX6_readS_2 D cs [.ref (ata 0), .int x1] none ((kX6 cs ata (.ref (adr 0)) Ta) ++ ((kX3 cs adr  Dr))) ((kX6 cs ata (.ref (adr 0)) Taz) ++ ((kX3 cs adr  Drz))) := by
  refine CG.intro (by decide) (Nat.le_of_ble_eq_true rfl) ?_
  intro p e s m below meth c A Q hx hb hml hown hu hK hZ hP0 hD0 hS0 hA hri hrz hrl hrv hra ls0 hl0
  have h31 : ∀ (k7 : Int32 → Int32 → ST → ST → Option (ST × ST)), (∀ (y1 : Int32) (y2 : Int32) (Ta : ST) (Dr : ST) (H : Heap) (locs : List Loc) (ls : Array Slot), va_P D vwCl ((kX6 cs ata (.ref (adr 0)) Ta) ++ ((kX3 cs adr  Dr))) H → va_D A ((kX6 cs ata (.ref (adr 0)) Ta) ++ ((kX3 cs adr  Dr))) → va_S A s.heap H locs → lv_has ls 4 [(0, .ref (ata 0)), (1, .int y1), (2, .int y2)] → k7 y1 y2 Ta Dr = some (Taz, Drz) → W p l e rmX6_readS_2 s m [.ref (ata 0), .int x1].toArray below meth c H locs 0 0 Q (F0 m 7 ls [])) → ∀ (y1 : Int32) (y2 : Int32) (Ta : ST) (Dr : ST) (H : Heap) (locs : List Loc) (ls : Array Slot), va_P D vwCl ((kX6 cs ata (.ref (adr 0)) Ta) ++ ((kX3 cs adr  Dr))) H → va_D A ((kX6 cs ata (.ref (adr 0)) Ta) ++ ((kX3 cs adr  Dr))) → va_S A s.heap H locs → lv_has ls 4 [(0, .ref (ata 0)), (1, .int y1), (2, .int y2)] → fX6_readS_2_31 k7 y1 y2 Ta Dr = some (Taz, Drz) → W p l e rmX6_readS_2 s m [.ref (ata 0), .int x1].toArray below meth c H locs 0 0 Q (F0 m 31 ls []) := by
    intro k7 hk7 y1 y2 Ta Dr H locs ls hP hD hS hl hf
    unfold fX6_readS_2_31 at hf
    refine lv_aload_n hx hb dX6_readS_31 rfl (lv_at hl 0 rfl) ?_
    refine va_get (D := D) (ci := 6) (v := .ref (ata 1)) (C := RX6) (T := TX6) (N := 5) hx hb hu inX6 hown hK.1 hP 0 rfl rfl 0 (by decide) (hu _ q259) (fun _ h9 => h9) rfl dX6_readS_32 ?_
    refine lv_aload_n hx hb dX6_readS_35 rfl (lv_at hl 0 rfl) ?_
    refine va_get (D := D) (ci := 6) (v := .int (Ta 0 3)) (C := RX6) (T := TX6) (N := 5) hx hb hu inX6 hown hK.1 hP 0 rfl rfl 3 (by decide) (hu _ q264) (fun _ h9 => h9) rfl dX6_readS_36 ?_
    obtain ⟨hi8, hf⟩ := ck_el hf
    refine va_cald hx hb hK.1 hP 1 2 rfl rfl hi8 dX6_readS_39 ?_
    obtain ⟨v9, hv9, hf⟩ := lt_el hf
    refine lv_tope hv9 ?_
    refine lv_istore_n (lv' := [(3, .int v9), (0, .ref (ata 0)), (1, .int y1), (2, .int y2)]) hx hb dX6_readS_40 rfl hl (by decide) rfl (fun ls hl => ?_)
    refine lv_aload_n hx hb dX6_readS_41 rfl (lv_at hl 1 rfl) ?_
    refine lv_dup hx hb dX6_readS_42 rfl ?_
    refine va_get (D := D) (ci := 6) (v := .int (Ta 0 3)) (C := RX6) (T := TX6) (N := 5) hx hb hu inX6 hown hK.1 hP 0 rfl rfl 3 (by decide) (hu _ q264) (fun _ h9 => h9) rfl dX6_readS_43 ?_
    refine lv_iconst (v := 1) hx hb dX6_readS_46 (by decide) ?_
    refine lv_iadd hx hb dX6_readS_47 ?_
    obtain ⟨Ta_10, hTa_10, hf⟩ := lt_el hf
    refine va_put (D := D) (ci := 6) (v := .int ((Ta 0 3) + 1)) (ty := .int) (C := RX6) (T := TX6) (N := 5) hx hb hu inX6 tyX6 tyX6_ok nmX6 hown hK.1 hP hD hS 0 rfl rfl 3 (by decide) (hu _ q264) (fun _ h9 => h9) rfl (by decide +kernel) rfl rfl (Nat.le_of_ble_eq_true rfl) dX6_readS_48 (fun H locs hP hD hS => ?_)
    have hP : va_P D vwCl ((kX6 cs ata (.ref (adr 0)) Ta_10) ++ ((kX3 cs adr  Dr))) H := by rw [hTa_10]; exact hP
    have hD : va_D A ((kX6 cs ata (.ref (adr 0)) Ta_10) ++ ((kX3 cs adr  Dr))) := by rw [hTa_10]; exact hD
    refine lv_aload_n hx hb dX6_readS_51 rfl (lv_at hl 1 rfl) ?_
    refine lv_iload_n hx hb dX6_readS_52 rfl (lv_at hl 2 rfl) ?_
    obtain ⟨Ta_11, Dr_12, hg13, hf⟩ := b2_el hf
    refine cc_V1 (w' := ((kX6 cs ata (.ref (adr 0)) Ta_11) ++ ((kX3 cs adr  Dr_12)))) (st1 := []) [.int y1] hx hb hml hown hu (tX6_readP_2 l D cs ata adr y1 Ta_10 Dr Ta_11 Dr_12 hg13) q709 q60 q706 q708 q13 pdX6_readP ⟨rfl, rfl, Nat.le_of_ble_eq_true rfl, Nat.le_of_ble_eq_true rfl⟩ hK hZ hP hD hS hA rfl rfl rfl rfl hl.1 rfl (Nat.le_of_ble_eq_true rfl) dX6_readS_53 rfl (fun H locs hP hD hS => ?_)
    refine lv_aload_n hx hb dX6_readS_56 rfl (lv_at hl 1 rfl) ?_
    refine va_get (D := D) (ci := 6) (v := .ref (adr 0)) (C := RX6) (T := TX6) (N := 5) hx hb hu inX6 hown hK.1 hP 0 rfl rfl 1 (by decide) (hu _ q260) (fun _ h9 => h9) rfl dX6_readS_57 ?_
    refine lv_iload_n hx hb dX6_readS_60 rfl (lv_at hl 0 rfl) ?_
    obtain ⟨Dr_14, hg15, hf⟩ := b1_el hf
    refine cc_V (w' := ((kX6 cs ata (.ref (adr 0)) Ta_11) ++ ((kX3 cs adr  Dr_14)))) (wr := (kX6 cs ata (.ref (adr 0)) Ta_11)) (st1 := []) [.int v9] hx hb hml hown hu (tX3_putSign l D cs adr v9 Dr_12 Dr_14 hg15) q816 q57 q813 q814 q815 pdX3_putSign ⟨rfl, rfl, Nat.le_of_ble_eq_true rfl, Nat.le_of_ble_eq_true rfl⟩ hK hZ hP hD hS hA [2, 3, 4] [0, 1] [0, 1, 2, 3, 4] rfl rfl rfl rfl rfl rfl rfl rfl rfl rfl hl.1 rfl (Nat.le_of_ble_eq_true rfl) dX6_readS_61 rfl (fun H locs hP hD hS => ?_)
    obtain ⟨v16, hv16, hf⟩ := lt_el hf
    refine lv_iinc (v := v16) (lv' := [(2, .int v16), (3, .int v9), (0, .ref (ata 0)), (1, .int y1)]) hx hb dX6_readS_64 hl (k := 3) rfl (by rw [hv16]; rfl) (by decide) rfl (fun ls hl => ?_)
    refine lv_goto (tgt := 7) hx hb dX6_readS_67 (by decide) ?_
    exact hk7 y1 v16 Ta_11 Dr_14 _ _ _ hP hD hS (lv_sub hl [2, 3, 0] rfl) hf
  have hs7 : ∀ (k7 : Int32 → Int32 → ST → ST → Option (ST × ST)), (∀ (y1 : Int32) (y2 : Int32) (Ta : ST) (Dr : ST) (H : Heap) (locs : List Loc) (ls : Array Slot), va_P D vwCl ((kX6 cs ata (.ref (adr 0)) Ta) ++ ((kX3 cs adr  Dr))) H → va_D A ((kX6 cs ata (.ref (adr 0)) Ta) ++ ((kX3 cs adr  Dr))) → va_S A s.heap H locs → lv_has ls 4 [(0, .ref (ata 0)), (1, .int y1), (2, .int y2)] → k7 y1 y2 Ta Dr = some (Taz, Drz) → W p l e rmX6_readS_2 s m [.ref (ata 0), .int x1].toArray below meth c H locs 0 0 Q (F0 m 7 ls [])) → ∀ (y1 : Int32) (y2 : Int32) (Ta : ST) (Dr : ST) (H : Heap) (locs : List Loc) (ls : Array Slot), va_P D vwCl ((kX6 cs ata (.ref (adr 0)) Ta) ++ ((kX3 cs adr  Dr))) H → va_D A ((kX6 cs ata (.ref (adr 0)) Ta) ++ ((kX3 cs adr  Dr))) → va_S A s.heap H locs → lv_has ls 4 [(0, .ref (ata 0)), (1, .int y1), (2, .int y2)] → fX6_readS_2_7_s k7 y1 y2 Ta Dr = some (Taz, Drz) → W p l e rmX6_readS_2 s m [.ref (ata 0), .int x1].toArray below meth c H locs 0 0 Q (F0 m 7 ls []) := by
    intro k7 hk7 y1 y2 Ta Dr H locs ls hP hD hS hl hf
    unfold fX6_readS_2_7_s at hf
    refine lv_iload_n hx hb dX6_readS_7 rfl (lv_at hl 2 rfl) ?_
    refine lv_bipush (v := 80) hx hb dX6_readS_8 (by decide) ?_
    refine lv_icmp_ge (tgt := 70) hx hb dX6_readS_10 (by decide) (fun hc4 => ?_) (fun hc4 => ?_)
    · have hf := ip_el hc4 hf
      have he := Option.some.inj hf
      obtain ⟨e0, e1⟩ := Prod.mk.inj he
      exact hrv _ _ rfl rfl dX6_readS_70 _ _ _ (by rw [e0, e1]) hP hD hS
    · have hf := in_el hc4 hf
      refine lv_aload_n hx hb dX6_readS_13 rfl (lv_at hl 0 rfl) ?_
      refine lv_bipush (v := 43) hx hb dX6_readS_14 (by decide) ?_
      obtain ⟨r5, hg6, hf⟩ := b1_el hf
      refine cc_V (w' := ((kX6 cs ata (.ref (adr 0)) Ta) ++ ((kX3 cs adr  Dr)))) (wr := (kX3 cs adr  Dr)) (st1 := [.int r5]) [.int 43] hx hb hml hown hu (tX6_sees l D cs ata adr 43 Ta r5 hg6) q825 q60 q822 q824 q18 pdX6_sees ⟨rfl, rfl, Nat.le_of_ble_eq_true rfl, Nat.le_of_ble_eq_true rfl⟩ hK hZ hP hD hS hA [0, 1] [2, 3, 4] [3, 4, 0, 1, 2] rfl rfl rfl rfl rfl rfl rfl rfl rfl rfl hl.1 rfl (Nat.le_of_ble_eq_true rfl) dX6_readS_16 rfl (fun H locs hP hD hS => ?_)
      refine lv_if_ne (tgt := 31) hx hb dX6_readS_19 (by decide) (fun hc7 => ?_) (fun hc7 => ?_)
      · have hf := in_el hc7 hf
        exact h31 k7 hk7 y1 y2 Ta Dr _ _ _ hP hD hS (lv_sub hl [0, 1, 2] rfl) hf
      · have hf := ip_el hc7 hf
        refine lv_aload_n hx hb dX6_readS_22 rfl (lv_at hl 0 rfl) ?_
        refine lv_bipush (v := 45) hx hb dX6_readS_23 (by decide) ?_
        obtain ⟨r17, hg18, hf⟩ := b1_el hf
        refine cc_V (w' := ((kX6 cs ata (.ref (adr 0)) Ta) ++ ((kX3 cs adr  Dr)))) (wr := (kX3 cs adr  Dr)) (st1 := [.int r17]) [.int 45] hx hb hml hown hu (tX6_sees l D cs ata adr 45 Ta r17 hg18) q825 q60 q822 q824 q18 pdX6_sees ⟨rfl, rfl, Nat.le_of_ble_eq_true rfl, Nat.le_of_ble_eq_true rfl⟩ hK hZ hP hD hS hA [0, 1] [2, 3, 4] [3, 4, 0, 1, 2] rfl rfl rfl rfl rfl rfl rfl rfl rfl rfl hl.1 rfl (Nat.le_of_ble_eq_true rfl) dX6_readS_25 rfl (fun H locs hP hD hS => ?_)
        refine lv_if_eq (tgt := 70) hx hb dX6_readS_28 (by decide) (fun hc19 => ?_) (fun hc19 => ?_)
        · have hf := ip_el hc19 hf
          have he := Option.some.inj hf
          obtain ⟨e0, e1⟩ := Prod.mk.inj he
          exact hrv _ _ rfl rfl dX6_readS_70 _ _ _ (by rw [e0, e1]) hP hD hS
        · have hf := in_el hc19 hf
          exact h31 k7 hk7 y1 y2 Ta Dr _ _ _ hP hD hS (lv_sub hl [0, 1, 2] rfl) hf
  have h7 : ∀ (n : Nat), ∀ (y1 : Int32) (y2 : Int32) (Ta : ST) (Dr : ST) (H : Heap) (locs : List Loc) (ls : Array Slot), va_P D vwCl ((kX6 cs ata (.ref (adr 0)) Ta) ++ ((kX3 cs adr  Dr))) H → va_D A ((kX6 cs ata (.ref (adr 0)) Ta) ++ ((kX3 cs adr  Dr))) → va_S A s.heap H locs → lv_has ls 4 [(0, .ref (ata 0)), (1, .int y1), (2, .int y2)] → fX6_readS_2_7 n y1 y2 Ta Dr = some (Taz, Drz) → W p l e rmX6_readS_2 s m [.ref (ata 0), .int x1].toArray below meth c H locs 0 0 Q (F0 m 7 ls []) := by
    intro n
    induction n with
    | zero => intro y1 y2 Ta Dr H locs ls hP hD hS hl hf; exact no_el hf
    | succ n ih => intro y1 y2 Ta Dr H locs ls hP hD hS hl hf; exact hs7 _ ih y1 y2 Ta Dr _ _ _ hP hD hS hl hf
  have hl : lv_has ls0 4 [(0, .ref (ata 0)), (1, .int x1)] := hl0
  have hP := hP0
  have hD := hD0
  have hS := hS0
  unfold fX6_readS_2 at hf
  refine lv_aload_n hx hb dX6_readS_0 rfl (lv_at hl 0 rfl) ?_
  refine lv_iload_n hx hb dX6_readS_1 rfl (lv_at hl 1 rfl) ?_
  obtain ⟨Ta_1, Dr_2, hg3, hf⟩ := b2_el hf
  refine cc_V1 (w' := ((kX6 cs ata (.ref (adr 0)) Ta_1) ++ ((kX3 cs adr  Dr_2)))) (st1 := []) [.int x1] hx hb hml hown hu (tX6_readP_2 l D cs ata adr x1 Ta Dr Ta_1 Dr_2 hg3) q709 q60 q706 q708 q13 pdX6_readP ⟨rfl, rfl, Nat.le_of_ble_eq_true rfl, Nat.le_of_ble_eq_true rfl⟩ hK hZ hP hD hS hA rfl rfl rfl rfl hl.1 rfl (Nat.le_of_ble_eq_true rfl) dX6_readS_2 rfl (fun H locs hP hD hS => ?_)
  refine lv_iconst (v := 0) hx hb dX6_readS_5 (by decide) ?_
  refine lv_istore_n (lv' := [(2, .int 0), (0, .ref (ata 0)), (1, .int x1)]) hx hb dX6_readS_6 rfl hl (by decide) rfl (fun ls hl => ?_)
  exact h7 400 x1 0 Ta_1 Dr_2 _ _ _ hP hD hS (lv_sub hl [1, 2, 0] rfl) hf

def fX6_readB_2_32 (y1 : Int32) (Ta : ST) (Dr : ST) : Option (ST × ST) :=
  dc_ck (Ta 0 3) 80 (dc_lt (Ta 1 (Int32.toNatClampNeg (Ta 0 3))) (fun v8 => dc_lt (sti Ta 0 3 ((Ta 0 3) + 1)) (fun Ta_9 => dc_b2 (fX6_readS_2 y1 Ta_9 Dr) (fun Ta_10 Dr_11 => dc_b1 (fX3_putSign v8 Dr_11) (fun Dr_13 => some (Ta_10, Dr_13))))))
def fX6_readB_2 (x1 : Int32) (Ta : ST) (Dr : ST) : Option (ST × ST) :=
  dc_b2 (fX6_readS_2 x1 Ta Dr) (fun Ta_1 Dr_2 => dc_b1 (fX6_sees 60 Ta_1) (fun r4 => (if r4 = 0 then dc_b1 (fX6_sees 61 Ta_1) (fun r15 => (if r15 = 0 then dc_b1 (fX6_sees 62 Ta_1) (fun r18 => (if r18 = 0 then some (Ta_1, Dr_2) else fX6_readB_2_32 x1 Ta_1 Dr_2)) else fX6_readB_2_32 x1 Ta_1 Dr_2)) else fX6_readB_2_32 x1 Ta_1 Dr_2)))
abbrev rmX6_readB_2 : Room := { frames := 25, cells := 0, slots := 0, locals := 572 }
set_option maxRecDepth 100000 in
set_option maxHeartbeats 4000000 in
theorem tX6_readB_2 (l : Launch) (D : va_G) (cs : Nat → ClassId) (ata : Nat → Nat) (adr : Nat → Nat) (x1 : Int32) (Ta : ST) (Dr : ST) (Taz : ST) (Drz : ST) (hf : fX6_readB_2 x1 Ta Dr = some (Taz, Drz)) : CG l yX6_readB (wsm yX6_readB cX6_readB 3 none) rmX6_readB_2 D cs [.ref (ata 0), .int x1] none ((kX6 cs ata (.ref (adr 0)) Ta) ++ ((kX3 cs adr  Dr))) ((kX6 cs ata (.ref (adr 0)) Taz) ++ ((kX3 cs adr  Drz))) := by
  refine CG.intro (by decide) (Nat.le_of_ble_eq_true rfl) ?_
  intro p e s m below meth c A Q hx hb hml hown hu hK hZ hP0 hD0 hS0 hA hri hrz hrl hrv hra ls0 hl0
  have h32 : ∀ (y1 : Int32) (Ta : ST) (Dr : ST) (H : Heap) (locs : List Loc) (ls : Array Slot), va_P D vwCl ((kX6 cs ata (.ref (adr 0)) Ta) ++ ((kX3 cs adr  Dr))) H → va_D A ((kX6 cs ata (.ref (adr 0)) Ta) ++ ((kX3 cs adr  Dr))) → va_S A s.heap H locs → lv_has ls 3 [(0, .ref (ata 0)), (1, .int y1)] → fX6_readB_2_32 y1 Ta Dr = some (Taz, Drz) → W p l e rmX6_readB_2 s m [.ref (ata 0), .int x1].toArray below meth c H locs 0 0 Q (F0 m 32 ls []) := by
    intro y1 Ta Dr H locs ls hP hD hS hl hf
    unfold fX6_readB_2_32 at hf
    refine lv_aload_n hx hb dX6_readB_32 rfl (lv_at hl 0 rfl) ?_
    refine va_get (D := D) (ci := 6) (v := .ref (ata 1)) (C := RX6) (T := TX6) (N := 5) hx hb hu inX6 hown hK.1 hP 0 rfl rfl 0 (by decide) (hu _ q259) (fun _ h9 => h9) rfl dX6_readB_33 ?_
    refine lv_aload_n hx hb dX6_readB_36 rfl (lv_at hl 0 rfl) ?_
    refine va_get (D := D) (ci := 6) (v := .int (Ta 0 3)) (C := RX6) (T := TX6) (N := 5) hx hb hu inX6 hown hK.1 hP 0 rfl rfl 3 (by decide) (hu _ q264) (fun _ h9 => h9) rfl dX6_readB_37 ?_
    obtain ⟨hi7, hf⟩ := ck_el hf
    refine va_cald hx hb hK.1 hP 1 2 rfl rfl hi7 dX6_readB_40 ?_
    obtain ⟨v8, hv8, hf⟩ := lt_el hf
    refine lv_tope hv8 ?_
    refine lv_istore_n (lv' := [(2, .int v8), (0, .ref (ata 0)), (1, .int y1)]) hx hb dX6_readB_41 rfl hl (by decide) rfl (fun ls hl => ?_)
    refine lv_aload_n hx hb dX6_readB_42 rfl (lv_at hl 1 rfl) ?_
    refine lv_dup hx hb dX6_readB_43 rfl ?_
    refine va_get (D := D) (ci := 6) (v := .int (Ta 0 3)) (C := RX6) (T := TX6) (N := 5) hx hb hu inX6 hown hK.1 hP 0 rfl rfl 3 (by decide) (hu _ q264) (fun _ h9 => h9) rfl dX6_readB_44 ?_
    refine lv_iconst (v := 1) hx hb dX6_readB_47 (by decide) ?_
    refine lv_iadd hx hb dX6_readB_48 ?_
    obtain ⟨Ta_9, hTa_9, hf⟩ := lt_el hf
    refine va_put (D := D) (ci := 6) (v := .int ((Ta 0 3) + 1)) (ty := .int) (C := RX6) (T := TX6) (N := 5) hx hb hu inX6 tyX6 tyX6_ok nmX6 hown hK.1 hP hD hS 0 rfl rfl 3 (by decide) (hu _ q264) (fun _ h9 => h9) rfl (by decide +kernel) rfl rfl (Nat.le_of_ble_eq_true rfl) dX6_readB_49 (fun H locs hP hD hS => ?_)
    have hP : va_P D vwCl ((kX6 cs ata (.ref (adr 0)) Ta_9) ++ ((kX3 cs adr  Dr))) H := by rw [hTa_9]; exact hP
    have hD : va_D A ((kX6 cs ata (.ref (adr 0)) Ta_9) ++ ((kX3 cs adr  Dr))) := by rw [hTa_9]; exact hD
    refine lv_aload_n hx hb dX6_readB_52 rfl (lv_at hl 1 rfl) ?_
    refine lv_iload_n hx hb dX6_readB_53 rfl (lv_at hl 2 rfl) ?_
    obtain ⟨Ta_10, Dr_11, hg12, hf⟩ := b2_el hf
    refine cc_V1 (w' := ((kX6 cs ata (.ref (adr 0)) Ta_10) ++ ((kX3 cs adr  Dr_11)))) (st1 := []) [.int y1] hx hb hml hown hu (tX6_readS_2 l D cs ata adr y1 Ta_9 Dr Ta_10 Dr_11 hg12) q705 q60 q702 q704 q12 pdX6_readS ⟨rfl, rfl, Nat.le_of_ble_eq_true rfl, Nat.le_of_ble_eq_true rfl⟩ hK hZ hP hD hS hA rfl rfl rfl rfl hl.1 rfl (Nat.le_of_ble_eq_true rfl) dX6_readB_54 rfl (fun H locs hP hD hS => ?_)
    refine lv_aload_n hx hb dX6_readB_57 rfl (lv_at hl 1 rfl) ?_
    refine va_get (D := D) (ci := 6) (v := .ref (adr 0)) (C := RX6) (T := TX6) (N := 5) hx hb hu inX6 hown hK.1 hP 0 rfl rfl 1 (by decide) (hu _ q260) (fun _ h9 => h9) rfl dX6_readB_58 ?_
    refine lv_iload_n hx hb dX6_readB_61 rfl (lv_at hl 0 rfl) ?_
    obtain ⟨Dr_13, hg14, hf⟩ := b1_el hf
    refine cc_V (w' := ((kX6 cs ata (.ref (adr 0)) Ta_10) ++ ((kX3 cs adr  Dr_13)))) (wr := (kX6 cs ata (.ref (adr 0)) Ta_10)) (st1 := []) [.int v8] hx hb hml hown hu (tX3_putSign l D cs adr v8 Dr_11 Dr_13 hg14) q816 q57 q813 q814 q815 pdX3_putSign ⟨rfl, rfl, Nat.le_of_ble_eq_true rfl, Nat.le_of_ble_eq_true rfl⟩ hK hZ hP hD hS hA [2, 3, 4] [0, 1] [0, 1, 2, 3, 4] rfl rfl rfl rfl rfl rfl rfl rfl rfl rfl hl.1 rfl (Nat.le_of_ble_eq_true rfl) dX6_readB_62 rfl (fun H locs hP hD hS => ?_)
    have he := Option.some.inj hf
    obtain ⟨e0, e1⟩ := Prod.mk.inj he
    exact hrv _ _ rfl rfl dX6_readB_65 _ _ _ (by rw [e0, e1]) hP hD hS
  have hl : lv_has ls0 3 [(0, .ref (ata 0)), (1, .int x1)] := hl0
  have hP := hP0
  have hD := hD0
  have hS := hS0
  unfold fX6_readB_2 at hf
  refine lv_aload_n hx hb dX6_readB_0 rfl (lv_at hl 0 rfl) ?_
  refine lv_iload_n hx hb dX6_readB_1 rfl (lv_at hl 1 rfl) ?_
  obtain ⟨Ta_1, Dr_2, hg3, hf⟩ := b2_el hf
  refine cc_V1 (w' := ((kX6 cs ata (.ref (adr 0)) Ta_1) ++ ((kX3 cs adr  Dr_2)))) (st1 := []) [.int x1] hx hb hml hown hu (tX6_readS_2 l D cs ata adr x1 Ta Dr Ta_1 Dr_2 hg3) q705 q60 q702 q704 q12 pdX6_readS ⟨rfl, rfl, Nat.le_of_ble_eq_true rfl, Nat.le_of_ble_eq_true rfl⟩ hK hZ hP hD hS hA rfl rfl rfl rfl hl.1 rfl (Nat.le_of_ble_eq_true rfl) dX6_readB_2 rfl (fun H locs hP hD hS => ?_)
  refine lv_aload_n hx hb dX6_readB_5 rfl (lv_at hl 0 rfl) ?_
  refine lv_bipush (v := 60) hx hb dX6_readB_6 (by decide) ?_
  obtain ⟨r4, hg5, hf⟩ := b1_el hf
  refine cc_V (w' := ((kX6 cs ata (.ref (adr 0)) Ta_1) ++ ((kX3 cs adr  Dr_2)))) (wr := (kX3 cs adr  Dr_2)) (st1 := [.int r4]) [.int 60] hx hb hml hown hu (tX6_sees l D cs ata adr 60 Ta_1 r4 hg5) q825 q60 q822 q824 q18 pdX6_sees ⟨rfl, rfl, Nat.le_of_ble_eq_true rfl, Nat.le_of_ble_eq_true rfl⟩ hK hZ hP hD hS hA [0, 1] [2, 3, 4] [3, 4, 0, 1, 2] rfl rfl rfl rfl rfl rfl rfl rfl rfl rfl hl.1 rfl (Nat.le_of_ble_eq_true rfl) dX6_readB_8 rfl (fun H locs hP hD hS => ?_)
  refine lv_if_ne (tgt := 32) hx hb dX6_readB_11 (by decide) (fun hc6 => ?_) (fun hc6 => ?_)
  · have hf := in_el hc6 hf
    exact h32 x1 Ta_1 Dr_2 _ _ _ hP hD hS (lv_sub hl [0, 1] rfl) hf
  · have hf := ip_el hc6 hf
    refine lv_aload_n hx hb dX6_readB_14 rfl (lv_at hl 0 rfl) ?_
    refine lv_bipush (v := 61) hx hb dX6_readB_15 (by decide) ?_
    obtain ⟨r15, hg16, hf⟩ := b1_el hf
    refine cc_V (w' := ((kX6 cs ata (.ref (adr 0)) Ta_1) ++ ((kX3 cs adr  Dr_2)))) (wr := (kX3 cs adr  Dr_2)) (st1 := [.int r15]) [.int 61] hx hb hml hown hu (tX6_sees l D cs ata adr 61 Ta_1 r15 hg16) q825 q60 q822 q824 q18 pdX6_sees ⟨rfl, rfl, Nat.le_of_ble_eq_true rfl, Nat.le_of_ble_eq_true rfl⟩ hK hZ hP hD hS hA [0, 1] [2, 3, 4] [3, 4, 0, 1, 2] rfl rfl rfl rfl rfl rfl rfl rfl rfl rfl hl.1 rfl (Nat.le_of_ble_eq_true rfl) dX6_readB_17 rfl (fun H locs hP hD hS => ?_)
    refine lv_if_ne (tgt := 32) hx hb dX6_readB_20 (by decide) (fun hc17 => ?_) (fun hc17 => ?_)
    · have hf := in_el hc17 hf
      exact h32 x1 Ta_1 Dr_2 _ _ _ hP hD hS (lv_sub hl [0, 1] rfl) hf
    · have hf := ip_el hc17 hf
      refine lv_aload_n hx hb dX6_readB_23 rfl (lv_at hl 0 rfl) ?_
      refine lv_bipush (v := 62) hx hb dX6_readB_24 (by decide) ?_
      obtain ⟨r18, hg19, hf⟩ := b1_el hf
      refine cc_V (w' := ((kX6 cs ata (.ref (adr 0)) Ta_1) ++ ((kX3 cs adr  Dr_2)))) (wr := (kX3 cs adr  Dr_2)) (st1 := [.int r18]) [.int 62] hx hb hml hown hu (tX6_sees l D cs ata adr 62 Ta_1 r18 hg19) q825 q60 q822 q824 q18 pdX6_sees ⟨rfl, rfl, Nat.le_of_ble_eq_true rfl, Nat.le_of_ble_eq_true rfl⟩ hK hZ hP hD hS hA [0, 1] [2, 3, 4] [3, 4, 0, 1, 2] rfl rfl rfl rfl rfl rfl rfl rfl rfl rfl hl.1 rfl (Nat.le_of_ble_eq_true rfl) dX6_readB_26 rfl (fun H locs hP hD hS => ?_)
      refine lv_if_eq (tgt := 65) hx hb dX6_readB_29 (by decide) (fun hc20 => ?_) (fun hc20 => ?_)
      · have hf := ip_el hc20 hf
        have he := Option.some.inj hf
        obtain ⟨e0, e1⟩ := Prod.mk.inj he
        exact hrv _ _ rfl rfl dX6_readB_65 _ _ _ (by rw [e0, e1]) hP hD hS
      · have hf := in_el hc20 hf
        exact h32 x1 Ta_1 Dr_2 _ _ _ hP hD hS (lv_sub hl [0, 1] rfl) hf

def fX6_readA_2_7_s (k7 : Int32 → Int32 → ST → ST → Option (ST × ST)) (y1 : Int32) (y2 : Int32) (Ta : ST) (Dr : ST) : Option (ST × ST) :=
  (if 80 ≤ y2 then some (Ta, Dr) else dc_b2 (fX6_takes 38 Ta) (fun r5 Ta_6 => (if r5 = 0 then some (Ta_6, Dr) else dc_b2 (fX6_readB_2 y1 Ta_6 Dr) (fun Ta_9 Dr_10 => dc_b1 (fX3_putSign 38 Dr_10) (fun Dr_12 => dc_lt (y2 + 1) (fun v14 => k7 y1 v14 Ta_9 Dr_12))))))
def fX6_readA_2_7 : Nat → Int32 → Int32 → ST → ST → Option (ST × ST)
  | 0 => fun _ _ _ _ => none
  | n + 1 => fX6_readA_2_7_s (fX6_readA_2_7 n)
def fX6_readA_2 (x1 : Int32) (Ta : ST) (Dr : ST) : Option (ST × ST) :=
  dc_b2 (fX6_readB_2 x1 Ta Dr) (fun Ta_1 Dr_2 => fX6_readA_2_7 400 x1 0 Ta_1 Dr_2)
abbrev rmX6_readA_2 : Room := { frames := 26, cells := 0, slots := 0, locals := 594 }
set_option maxRecDepth 100000 in
set_option maxHeartbeats 4000000 in
theorem tX6_readA_2 (l : Launch) (D : va_G) (cs : Nat → ClassId) (ata : Nat → Nat) (adr : Nat → Nat) (x1 : Int32) (Ta : ST) (Dr : ST) (Taz : ST) (Drz : ST) (hf : fX6_readA_2 x1 Ta Dr = some (Taz, Drz)) : CG l yX6_readA (wsm yX6_readA cX6_readA 3 none) rmX6_readA_2 D cs [.ref (ata 0), .int x1] none ((kX6 cs ata (.ref (adr 0)) Ta) ++ ((kX3 cs adr  Dr))) ((kX6 cs ata (.ref (adr 0)) Taz) ++ ((kX3 cs adr  Drz))) := by
  refine CG.intro (by decide) (Nat.le_of_ble_eq_true rfl) ?_
  intro p e s m below meth c A Q hx hb hml hown hu hK hZ hP0 hD0 hS0 hA hri hrz hrl hrv hra ls0 hl0
  have hs7 : ∀ (k7 : Int32 → Int32 → ST → ST → Option (ST × ST)), (∀ (y1 : Int32) (y2 : Int32) (Ta : ST) (Dr : ST) (H : Heap) (locs : List Loc) (ls : Array Slot), va_P D vwCl ((kX6 cs ata (.ref (adr 0)) Ta) ++ ((kX3 cs adr  Dr))) H → va_D A ((kX6 cs ata (.ref (adr 0)) Ta) ++ ((kX3 cs adr  Dr))) → va_S A s.heap H locs → lv_has ls 3 [(0, .ref (ata 0)), (1, .int y1), (2, .int y2)] → k7 y1 y2 Ta Dr = some (Taz, Drz) → W p l e rmX6_readA_2 s m [.ref (ata 0), .int x1].toArray below meth c H locs 0 0 Q (F0 m 7 ls [])) → ∀ (y1 : Int32) (y2 : Int32) (Ta : ST) (Dr : ST) (H : Heap) (locs : List Loc) (ls : Array Slot), va_P D vwCl ((kX6 cs ata (.ref (adr 0)) Ta) ++ ((kX3 cs adr  Dr))) H → va_D A ((kX6 cs ata (.ref (adr 0)) Ta) ++ ((kX3 cs adr  Dr))) → va_S A s.heap H locs → lv_has ls 3 [(0, .ref (ata 0)), (1, .int y1), (2, .int y2)] → fX6_readA_2_7_s k7 y1 y2 Ta Dr = some (Taz, Drz) → W p l e rmX6_readA_2 s m [.ref (ata 0), .int x1].toArray below meth c H locs 0 0 Q (F0 m 7 ls []) := by
    intro k7 hk7 y1 y2 Ta Dr H locs ls hP hD hS hl hf
    unfold fX6_readA_2_7_s at hf
    refine lv_iload_n hx hb dX6_readA_7 rfl (lv_at hl 2 rfl) ?_
    refine lv_bipush (v := 80) hx hb dX6_readA_8 (by decide) ?_
    refine lv_icmp_ge (tgt := 42) hx hb dX6_readA_10 (by decide) (fun hc4 => ?_) (fun hc4 => ?_)
    · have hf := ip_el hc4 hf
      have he := Option.some.inj hf
      obtain ⟨e0, e1⟩ := Prod.mk.inj he
      exact hrv _ _ rfl rfl dX6_readA_42 _ _ _ (by rw [e0, e1]) hP hD hS
    · have hf := in_el hc4 hf
      refine lv_aload_n hx hb dX6_readA_13 rfl (lv_at hl 0 rfl) ?_
      refine lv_bipush (v := 38) hx hb dX6_readA_14 (by decide) ?_
      obtain ⟨r5, Ta_6, hg7, hf⟩ := b2_el hf
      refine cc_V (w' := ((kX6 cs ata (.ref (adr 0)) Ta_6) ++ ((kX3 cs adr  Dr)))) (wr := (kX3 cs adr  Dr)) (st1 := [.int r5]) [.int 38] hx hb hml hown hu (tX6_takes l D cs ata adr 38 Ta r5 Ta_6 hg7) q821 q60 q818 q820 q17 pdX6_takes ⟨rfl, rfl, Nat.le_of_ble_eq_true rfl, Nat.le_of_ble_eq_true rfl⟩ hK hZ hP hD hS hA [0, 1] [2, 3, 4] [3, 4, 0, 1, 2] rfl rfl rfl rfl rfl rfl rfl rfl rfl rfl hl.1 rfl (Nat.le_of_ble_eq_true rfl) dX6_readA_16 rfl (fun H locs hP hD hS => ?_)
      refine lv_if_eq (tgt := 42) hx hb dX6_readA_19 (by decide) (fun hc8 => ?_) (fun hc8 => ?_)
      · have hf := ip_el hc8 hf
        have he := Option.some.inj hf
        obtain ⟨e0, e1⟩ := Prod.mk.inj he
        exact hrv _ _ rfl rfl dX6_readA_42 _ _ _ (by rw [e0, e1]) hP hD hS
      · have hf := in_el hc8 hf
        refine lv_aload_n hx hb dX6_readA_22 rfl (lv_at hl 0 rfl) ?_
        refine lv_iload_n hx hb dX6_readA_23 rfl (lv_at hl 1 rfl) ?_
        obtain ⟨Ta_9, Dr_10, hg11, hf⟩ := b2_el hf
        refine cc_V1 (w' := ((kX6 cs ata (.ref (adr 0)) Ta_9) ++ ((kX3 cs adr  Dr_10)))) (st1 := []) [.int y1] hx hb hml hown hu (tX6_readB_2 l D cs ata adr y1 Ta_6 Dr Ta_9 Dr_10 hg11) q701 q60 q698 q700 q11 pdX6_readB ⟨rfl, rfl, Nat.le_of_ble_eq_true rfl, Nat.le_of_ble_eq_true rfl⟩ hK hZ hP hD hS hA rfl rfl rfl rfl hl.1 rfl (Nat.le_of_ble_eq_true rfl) dX6_readA_24 rfl (fun H locs hP hD hS => ?_)
        refine lv_aload_n hx hb dX6_readA_27 rfl (lv_at hl 0 rfl) ?_
        refine va_get (D := D) (ci := 6) (v := .ref (adr 0)) (C := RX6) (T := TX6) (N := 5) hx hb hu inX6 hown hK.1 hP 0 rfl rfl 1 (by decide) (hu _ q260) (fun _ h9 => h9) rfl dX6_readA_28 ?_
        refine lv_bipush (v := 38) hx hb dX6_readA_31 (by decide) ?_
        obtain ⟨Dr_12, hg13, hf⟩ := b1_el hf
        refine cc_V (w' := ((kX6 cs ata (.ref (adr 0)) Ta_9) ++ ((kX3 cs adr  Dr_12)))) (wr := (kX6 cs ata (.ref (adr 0)) Ta_9)) (st1 := []) [.int 38] hx hb hml hown hu (tX3_putSign l D cs adr 38 Dr_10 Dr_12 hg13) q816 q57 q813 q814 q815 pdX3_putSign ⟨rfl, rfl, Nat.le_of_ble_eq_true rfl, Nat.le_of_ble_eq_true rfl⟩ hK hZ hP hD hS hA [2, 3, 4] [0, 1] [0, 1, 2, 3, 4] rfl rfl rfl rfl rfl rfl rfl rfl rfl rfl hl.1 rfl (Nat.le_of_ble_eq_true rfl) dX6_readA_33 rfl (fun H locs hP hD hS => ?_)
        obtain ⟨v14, hv14, hf⟩ := lt_el hf
        refine lv_iinc (v := v14) (lv' := [(2, .int v14), (0, .ref (ata 0)), (1, .int y1)]) hx hb dX6_readA_36 hl (k := 2) rfl (by rw [hv14]; rfl) (by decide) rfl (fun ls hl => ?_)
        refine lv_goto (tgt := 7) hx hb dX6_readA_39 (by decide) ?_
        exact hk7 y1 v14 Ta_9 Dr_12 _ _ _ hP hD hS (lv_sub hl [1, 2, 0] rfl) hf
  have h7 : ∀ (n : Nat), ∀ (y1 : Int32) (y2 : Int32) (Ta : ST) (Dr : ST) (H : Heap) (locs : List Loc) (ls : Array Slot), va_P D vwCl ((kX6 cs ata (.ref (adr 0)) Ta) ++ ((kX3 cs adr  Dr))) H → va_D A ((kX6 cs ata (.ref (adr 0)) Ta) ++ ((kX3 cs adr  Dr))) → va_S A s.heap H locs → lv_has ls 3 [(0, .ref (ata 0)), (1, .int y1), (2, .int y2)] → fX6_readA_2_7 n y1 y2 Ta Dr = some (Taz, Drz) → W p l e rmX6_readA_2 s m [.ref (ata 0), .int x1].toArray below meth c H locs 0 0 Q (F0 m 7 ls []) := by
    intro n
    induction n with
    | zero => intro y1 y2 Ta Dr H locs ls hP hD hS hl hf; exact no_el hf
    | succ n ih => intro y1 y2 Ta Dr H locs ls hP hD hS hl hf; exact hs7 _ ih y1 y2 Ta Dr _ _ _ hP hD hS hl hf
  have hl : lv_has ls0 3 [(0, .ref (ata 0)), (1, .int x1)] := hl0
  have hP := hP0
  have hD := hD0
  have hS := hS0
  unfold fX6_readA_2 at hf
  refine lv_aload_n hx hb dX6_readA_0 rfl (lv_at hl 0 rfl) ?_
  refine lv_iload_n hx hb dX6_readA_1 rfl (lv_at hl 1 rfl) ?_
  obtain ⟨Ta_1, Dr_2, hg3, hf⟩ := b2_el hf
  refine cc_V1 (w' := ((kX6 cs ata (.ref (adr 0)) Ta_1) ++ ((kX3 cs adr  Dr_2)))) (st1 := []) [.int x1] hx hb hml hown hu (tX6_readB_2 l D cs ata adr x1 Ta Dr Ta_1 Dr_2 hg3) q701 q60 q698 q700 q11 pdX6_readB ⟨rfl, rfl, Nat.le_of_ble_eq_true rfl, Nat.le_of_ble_eq_true rfl⟩ hK hZ hP hD hS hA rfl rfl rfl rfl hl.1 rfl (Nat.le_of_ble_eq_true rfl) dX6_readA_2 rfl (fun H locs hP hD hS => ?_)
  refine lv_iconst (v := 0) hx hb dX6_readA_5 (by decide) ?_
  refine lv_istore_n (lv' := [(2, .int 0), (0, .ref (ata 0)), (1, .int x1)]) hx hb dX6_readA_6 rfl hl (by decide) rfl (fun ls hl => ?_)
  exact h7 400 x1 0 Ta_1 Dr_2 _ _ _ hP hD hS (lv_sub hl [1, 2, 0] rfl) hf

def fX6_readT_2_7_s (k7 : Int32 → Int32 → ST → ST → Option (ST × ST)) (y1 : Int32) (y2 : Int32) (Ta : ST) (Dr : ST) : Option (ST × ST) :=
  (if 80 ≤ y2 then some (Ta, Dr) else dc_b2 (fX6_takes 124 Ta) (fun r5 Ta_6 => (if r5 = 0 then some (Ta_6, Dr) else dc_b2 (fX6_readA_2 y1 Ta_6 Dr) (fun Ta_9 Dr_10 => dc_b1 (fX3_putSign 124 Dr_10) (fun Dr_12 => dc_lt (y2 + 1) (fun v14 => k7 y1 v14 Ta_9 Dr_12))))))
def fX6_readT_2_7 : Nat → Int32 → Int32 → ST → ST → Option (ST × ST)
  | 0 => fun _ _ _ _ => none
  | n + 1 => fX6_readT_2_7_s (fX6_readT_2_7 n)
def fX6_readT_2 (x1 : Int32) (Ta : ST) (Dr : ST) : Option (ST × ST) :=
  dc_b2 (fX6_readA_2 x1 Ta Dr) (fun Ta_1 Dr_2 => fX6_readT_2_7 400 x1 0 Ta_1 Dr_2)
abbrev rmX6_readT_2 : Room := { frames := 27, cells := 0, slots := 0, locals := 616 }
set_option maxRecDepth 100000 in
set_option maxHeartbeats 4000000 in
theorem tX6_readT_2 (l : Launch) (D : va_G) (cs : Nat → ClassId) (ata : Nat → Nat) (adr : Nat → Nat) (x1 : Int32) (Ta : ST) (Dr : ST) (Taz : ST) (Drz : ST) (hf : fX6_readT_2 x1 Ta Dr = some (Taz, Drz)) : CG l yX6_readT (wsm yX6_readT cX6_readT 3 none) rmX6_readT_2 D cs [.ref (ata 0), .int x1] none ((kX6 cs ata (.ref (adr 0)) Ta) ++ ((kX3 cs adr  Dr))) ((kX6 cs ata (.ref (adr 0)) Taz) ++ ((kX3 cs adr  Drz))) := by
  refine CG.intro (by decide) (Nat.le_of_ble_eq_true rfl) ?_
  intro p e s m below meth c A Q hx hb hml hown hu hK hZ hP0 hD0 hS0 hA hri hrz hrl hrv hra ls0 hl0
  have hs7 : ∀ (k7 : Int32 → Int32 → ST → ST → Option (ST × ST)), (∀ (y1 : Int32) (y2 : Int32) (Ta : ST) (Dr : ST) (H : Heap) (locs : List Loc) (ls : Array Slot), va_P D vwCl ((kX6 cs ata (.ref (adr 0)) Ta) ++ ((kX3 cs adr  Dr))) H → va_D A ((kX6 cs ata (.ref (adr 0)) Ta) ++ ((kX3 cs adr  Dr))) → va_S A s.heap H locs → lv_has ls 3 [(0, .ref (ata 0)), (1, .int y1), (2, .int y2)] → k7 y1 y2 Ta Dr = some (Taz, Drz) → W p l e rmX6_readT_2 s m [.ref (ata 0), .int x1].toArray below meth c H locs 0 0 Q (F0 m 7 ls [])) → ∀ (y1 : Int32) (y2 : Int32) (Ta : ST) (Dr : ST) (H : Heap) (locs : List Loc) (ls : Array Slot), va_P D vwCl ((kX6 cs ata (.ref (adr 0)) Ta) ++ ((kX3 cs adr  Dr))) H → va_D A ((kX6 cs ata (.ref (adr 0)) Ta) ++ ((kX3 cs adr  Dr))) → va_S A s.heap H locs → lv_has ls 3 [(0, .ref (ata 0)), (1, .int y1), (2, .int y2)] → fX6_readT_2_7_s k7 y1 y2 Ta Dr = some (Taz, Drz) → W p l e rmX6_readT_2 s m [.ref (ata 0), .int x1].toArray below meth c H locs 0 0 Q (F0 m 7 ls []) := by
    intro k7 hk7 y1 y2 Ta Dr H locs ls hP hD hS hl hf
    unfold fX6_readT_2_7_s at hf
    refine lv_iload_n hx hb dX6_readT_7 rfl (lv_at hl 2 rfl) ?_
    refine lv_bipush (v := 80) hx hb dX6_readT_8 (by decide) ?_
    refine lv_icmp_ge (tgt := 42) hx hb dX6_readT_10 (by decide) (fun hc4 => ?_) (fun hc4 => ?_)
    · have hf := ip_el hc4 hf
      have he := Option.some.inj hf
      obtain ⟨e0, e1⟩ := Prod.mk.inj he
      exact hrv _ _ rfl rfl dX6_readT_42 _ _ _ (by rw [e0, e1]) hP hD hS
    · have hf := in_el hc4 hf
      refine lv_aload_n hx hb dX6_readT_13 rfl (lv_at hl 0 rfl) ?_
      refine lv_bipush (v := 124) hx hb dX6_readT_14 (by decide) ?_
      obtain ⟨r5, Ta_6, hg7, hf⟩ := b2_el hf
      refine cc_V (w' := ((kX6 cs ata (.ref (adr 0)) Ta_6) ++ ((kX3 cs adr  Dr)))) (wr := (kX3 cs adr  Dr)) (st1 := [.int r5]) [.int 124] hx hb hml hown hu (tX6_takes l D cs ata adr 124 Ta r5 Ta_6 hg7) q821 q60 q818 q820 q17 pdX6_takes ⟨rfl, rfl, Nat.le_of_ble_eq_true rfl, Nat.le_of_ble_eq_true rfl⟩ hK hZ hP hD hS hA [0, 1] [2, 3, 4] [3, 4, 0, 1, 2] rfl rfl rfl rfl rfl rfl rfl rfl rfl rfl hl.1 rfl (Nat.le_of_ble_eq_true rfl) dX6_readT_16 rfl (fun H locs hP hD hS => ?_)
      refine lv_if_eq (tgt := 42) hx hb dX6_readT_19 (by decide) (fun hc8 => ?_) (fun hc8 => ?_)
      · have hf := ip_el hc8 hf
        have he := Option.some.inj hf
        obtain ⟨e0, e1⟩ := Prod.mk.inj he
        exact hrv _ _ rfl rfl dX6_readT_42 _ _ _ (by rw [e0, e1]) hP hD hS
      · have hf := in_el hc8 hf
        refine lv_aload_n hx hb dX6_readT_22 rfl (lv_at hl 0 rfl) ?_
        refine lv_iload_n hx hb dX6_readT_23 rfl (lv_at hl 1 rfl) ?_
        obtain ⟨Ta_9, Dr_10, hg11, hf⟩ := b2_el hf
        refine cc_V1 (w' := ((kX6 cs ata (.ref (adr 0)) Ta_9) ++ ((kX3 cs adr  Dr_10)))) (st1 := []) [.int y1] hx hb hml hown hu (tX6_readA_2 l D cs ata adr y1 Ta_6 Dr Ta_9 Dr_10 hg11) q697 q60 q694 q696 q10 pdX6_readA ⟨rfl, rfl, Nat.le_of_ble_eq_true rfl, Nat.le_of_ble_eq_true rfl⟩ hK hZ hP hD hS hA rfl rfl rfl rfl hl.1 rfl (Nat.le_of_ble_eq_true rfl) dX6_readT_24 rfl (fun H locs hP hD hS => ?_)
        refine lv_aload_n hx hb dX6_readT_27 rfl (lv_at hl 0 rfl) ?_
        refine va_get (D := D) (ci := 6) (v := .ref (adr 0)) (C := RX6) (T := TX6) (N := 5) hx hb hu inX6 hown hK.1 hP 0 rfl rfl 1 (by decide) (hu _ q260) (fun _ h9 => h9) rfl dX6_readT_28 ?_
        refine lv_bipush (v := 124) hx hb dX6_readT_31 (by decide) ?_
        obtain ⟨Dr_12, hg13, hf⟩ := b1_el hf
        refine cc_V (w' := ((kX6 cs ata (.ref (adr 0)) Ta_9) ++ ((kX3 cs adr  Dr_12)))) (wr := (kX6 cs ata (.ref (adr 0)) Ta_9)) (st1 := []) [.int 124] hx hb hml hown hu (tX3_putSign l D cs adr 124 Dr_10 Dr_12 hg13) q816 q57 q813 q814 q815 pdX3_putSign ⟨rfl, rfl, Nat.le_of_ble_eq_true rfl, Nat.le_of_ble_eq_true rfl⟩ hK hZ hP hD hS hA [2, 3, 4] [0, 1] [0, 1, 2, 3, 4] rfl rfl rfl rfl rfl rfl rfl rfl rfl rfl hl.1 rfl (Nat.le_of_ble_eq_true rfl) dX6_readT_33 rfl (fun H locs hP hD hS => ?_)
        obtain ⟨v14, hv14, hf⟩ := lt_el hf
        refine lv_iinc (v := v14) (lv' := [(2, .int v14), (0, .ref (ata 0)), (1, .int y1)]) hx hb dX6_readT_36 hl (k := 2) rfl (by rw [hv14]; rfl) (by decide) rfl (fun ls hl => ?_)
        refine lv_goto (tgt := 7) hx hb dX6_readT_39 (by decide) ?_
        exact hk7 y1 v14 Ta_9 Dr_12 _ _ _ hP hD hS (lv_sub hl [1, 2, 0] rfl) hf
  have h7 : ∀ (n : Nat), ∀ (y1 : Int32) (y2 : Int32) (Ta : ST) (Dr : ST) (H : Heap) (locs : List Loc) (ls : Array Slot), va_P D vwCl ((kX6 cs ata (.ref (adr 0)) Ta) ++ ((kX3 cs adr  Dr))) H → va_D A ((kX6 cs ata (.ref (adr 0)) Ta) ++ ((kX3 cs adr  Dr))) → va_S A s.heap H locs → lv_has ls 3 [(0, .ref (ata 0)), (1, .int y1), (2, .int y2)] → fX6_readT_2_7 n y1 y2 Ta Dr = some (Taz, Drz) → W p l e rmX6_readT_2 s m [.ref (ata 0), .int x1].toArray below meth c H locs 0 0 Q (F0 m 7 ls []) := by
    intro n
    induction n with
    | zero => intro y1 y2 Ta Dr H locs ls hP hD hS hl hf; exact no_el hf
    | succ n ih => intro y1 y2 Ta Dr H locs ls hP hD hS hl hf; exact hs7 _ ih y1 y2 Ta Dr _ _ _ hP hD hS hl hf
  have hl : lv_has ls0 3 [(0, .ref (ata 0)), (1, .int x1)] := hl0
  have hP := hP0
  have hD := hD0
  have hS := hS0
  unfold fX6_readT_2 at hf
  refine lv_aload_n hx hb dX6_readT_0 rfl (lv_at hl 0 rfl) ?_
  refine lv_iload_n hx hb dX6_readT_1 rfl (lv_at hl 1 rfl) ?_
  obtain ⟨Ta_1, Dr_2, hg3, hf⟩ := b2_el hf
  refine cc_V1 (w' := ((kX6 cs ata (.ref (adr 0)) Ta_1) ++ ((kX3 cs adr  Dr_2)))) (st1 := []) [.int x1] hx hb hml hown hu (tX6_readA_2 l D cs ata adr x1 Ta Dr Ta_1 Dr_2 hg3) q697 q60 q694 q696 q10 pdX6_readA ⟨rfl, rfl, Nat.le_of_ble_eq_true rfl, Nat.le_of_ble_eq_true rfl⟩ hK hZ hP hD hS hA rfl rfl rfl rfl hl.1 rfl (Nat.le_of_ble_eq_true rfl) dX6_readT_2 rfl (fun H locs hP hD hS => ?_)
  refine lv_iconst (v := 0) hx hb dX6_readT_5 (by decide) ?_
  refine lv_istore_n (lv' := [(2, .int 0), (0, .ref (ata 0)), (1, .int x1)]) hx hb dX6_readT_6 rfl hl (by decide) rfl (fun ls hl => ?_)
  exact h7 400 x1 0 Ta_1 Dr_2 _ _ _ hP hD hS (lv_sub hl [1, 2, 0] rfl) hf

def fX6_readQ_1_144 (y1 : Int32) (Ta : ST) (Dr : ST) : Option (ST × ST) :=
  (if 5 ≤ y1 then dc_lt (sti Ta 0 4 1) (fun Ta_8 => some (Ta_8, Dr)) else dc_b2 (fX6_takes 40 Ta) (fun r9 Ta_10 => (if r9 = 0 then dc_lt (sti Ta_10 0 4 1) (fun Ta_13 => some (Ta_13, Dr)) else dc_b2 (fX6_readT_2 (y1 + 1) Ta_10 Dr) (fun Ta_14 Dr_15 => dc_b2 (fX6_takes 41 Ta_14) (fun r17 Ta_18 => (if r17 = 0 then dc_lt (sti Ta_18 0 4 1) (fun Ta_21 => some (Ta_21, Dr_15)) else some (Ta_18, Dr_15)))))))
def fX6_readQ_1_111 (y1 : Int32) (Ta : ST) (Dr : ST) : Option (ST × ST) :=
  (if 5 ≤ y1 then fX6_readQ_1_144 y1 Ta Dr else dc_b2 (fX6_takes 45 Ta) (fun r22 Ta_23 => (if r22 = 0 then fX6_readQ_1_144 y1 Ta_23 Dr else dc_b2 (fX6_readQ_2 (y1 + 1) Ta_23 Dr) (fun Ta_26 Dr_27 => dc_b1 (fX3_putSign 126 Dr_27) (fun Dr_29 => some (Ta_26, Dr_29))))))
def fX6_readQ_1_78 (y1 : Int32) (Ta : ST) (Dr : ST) : Option (ST × ST) :=
  (if 5 ≤ y1 then fX6_readQ_1_111 y1 Ta Dr else dc_b2 (fX6_takes 33 Ta) (fun r31 Ta_32 => (if r31 = 0 then fX6_readQ_1_111 y1 Ta_32 Dr else dc_b2 (fX6_readQ_2 (y1 + 1) Ta_32 Dr) (fun Ta_35 Dr_36 => dc_b1 (fX3_putSign 33 Dr_36) (fun Dr_38 => some (Ta_35, Dr_38))))))
def fX6_readQ_1 (x1 : Int32) (Ta : ST) (Dr : ST) : Option (ST × ST) :=
  dc_b1 (fX6_seesDigit Ta) (fun r1 => (if r1 = 0 then (if (Ta 0 4) = 0 then (if (Ta 0 2) ≤ (Ta 0 3) then fX6_readQ_1_78 x1 Ta Dr else dc_ck (Ta 0 3) 80 (dc_b1 (fJ0_indexOf_0f7a4 (Ta 1 (Int32.toNatClampNeg (Ta 0 3)))) (fun r42 => (if r42 < 0 then fX6_readQ_1_78 x1 Ta Dr else dc_ck (Ta 0 3) 80 (dc_b1 (fX3_putSign (Ta 1 (Int32.toNatClampNeg (Ta 0 3))) Dr) (fun Dr_46 => dc_lt (sti Ta 0 3 ((Ta 0 3) + 1)) (fun Ta_48 => some (Ta_48, Dr_46)))))))) else fX6_readQ_1_78 x1 Ta Dr) else dc_b2 (fX6_readNumber Ta Dr) (fun Ta_49 Dr_50 => some (Ta_49, Dr_50))))
abbrev rmX6_readQ_1 : Room := { frames := 28, cells := 0, slots := 0, locals := 638 }
set_option maxRecDepth 100000 in
set_option maxHeartbeats 4000000 in
theorem tX6_readQ_1 (l : Launch) (D : va_G) (cs : Nat → ClassId) (ata : Nat → Nat) (adr : Nat → Nat) (x1 : Int32) (Ta : ST) (Dr : ST) (Taz : ST) (Drz : ST) (hf : fX6_readQ_1 x1 Ta Dr = some (Taz, Drz)) : CG l yX6_readQ (wsm yX6_readQ cX6_readQ 2 none) rmX6_readQ_1 D cs [.ref (ata 0), .int x1] none ((kX6 cs ata (.ref (adr 0)) Ta) ++ ((kX3 cs adr  Dr))) ((kX6 cs ata (.ref (adr 0)) Taz) ++ ((kX3 cs adr  Drz))) := by
  refine CG.intro (by decide) (Nat.le_of_ble_eq_true rfl) ?_
  intro p e s m below meth c A Q hx hb hml hown hu hK hZ hP0 hD0 hS0 hA hri hrz hrl hrv hra ls0 hl0
  have h144 : ∀ (y1 : Int32) (Ta : ST) (Dr : ST) (H : Heap) (locs : List Loc) (ls : Array Slot), va_P D vwCl ((kX6 cs ata (.ref (adr 0)) Ta) ++ ((kX3 cs adr  Dr))) H → va_D A ((kX6 cs ata (.ref (adr 0)) Ta) ++ ((kX3 cs adr  Dr))) → va_S A s.heap H locs → lv_has ls 2 [(0, .ref (ata 0)), (1, .int y1)] → fX6_readQ_1_144 y1 Ta Dr = some (Taz, Drz) → W p l e rmX6_readQ_1 s m [.ref (ata 0), .int x1].toArray below meth c H locs 0 0 Q (F0 m 144 ls []) := by
    intro y1 Ta Dr H locs ls hP hD hS hl hf
    unfold fX6_readQ_1_144 at hf
    refine lv_iload_n hx hb dX6_readQ_144 rfl (lv_at hl 1 rfl) ?_
    refine lv_iconst (v := 5) hx hb dX6_readQ_145 (by decide) ?_
    refine lv_icmp_ge (tgt := 182) hx hb dX6_readQ_146 (by decide) (fun hc7 => ?_) (fun hc7 => ?_)
    · have hf := ip_el hc7 hf
      refine lv_aload_n hx hb dX6_readQ_182 rfl (lv_at hl 0 rfl) ?_
      refine lv_iconst (v := 1) hx hb dX6_readQ_183 (by decide) ?_
      obtain ⟨Ta_8, hTa_8, hf⟩ := lt_el hf
      refine va_put (D := D) (ci := 6) (v := .int 1) (ty := .boolean) (C := RX6) (T := TX6) (N := 5) hx hb hu inX6 tyX6 tyX6_ok nmX6 hown hK.1 hP hD hS 0 rfl rfl 4 (by decide) (hu _ q266) (fun _ h9 => h9) rfl (by decide +kernel) rfl rfl (Nat.le_of_ble_eq_true rfl) dX6_readQ_184 (fun H locs hP hD hS => ?_)
      have hP : va_P D vwCl ((kX6 cs ata (.ref (adr 0)) Ta_8) ++ ((kX3 cs adr  Dr))) H := by rw [hTa_8]; exact hP
      have hD : va_D A ((kX6 cs ata (.ref (adr 0)) Ta_8) ++ ((kX3 cs adr  Dr))) := by rw [hTa_8]; exact hD
      have he := Option.some.inj hf
      obtain ⟨e0, e1⟩ := Prod.mk.inj he
      exact hrv _ _ rfl rfl dX6_readQ_187 _ _ _ (by rw [e0, e1]) hP hD hS
    · have hf := in_el hc7 hf
      refine lv_aload_n hx hb dX6_readQ_149 rfl (lv_at hl 0 rfl) ?_
      refine lv_bipush (v := 40) hx hb dX6_readQ_150 (by decide) ?_
      obtain ⟨r9, Ta_10, hg11, hf⟩ := b2_el hf
      refine cc_V (w' := ((kX6 cs ata (.ref (adr 0)) Ta_10) ++ ((kX3 cs adr  Dr)))) (wr := (kX3 cs adr  Dr)) (st1 := [.int r9]) [.int 40] hx hb hml hown hu (tX6_takes l D cs ata adr 40 Ta r9 Ta_10 hg11) q821 q60 q818 q820 q17 pdX6_takes ⟨rfl, rfl, Nat.le_of_ble_eq_true rfl, Nat.le_of_ble_eq_true rfl⟩ hK hZ hP hD hS hA [0, 1] [2, 3, 4] [3, 4, 0, 1, 2] rfl rfl rfl rfl rfl rfl rfl rfl rfl rfl hl.1 rfl (Nat.le_of_ble_eq_true rfl) dX6_readQ_152 rfl (fun H locs hP hD hS => ?_)
      refine lv_if_eq (tgt := 182) hx hb dX6_readQ_155 (by decide) (fun hc12 => ?_) (fun hc12 => ?_)
      · have hf := ip_el hc12 hf
        refine lv_aload_n hx hb dX6_readQ_182 rfl (lv_at hl 0 rfl) ?_
        refine lv_iconst (v := 1) hx hb dX6_readQ_183 (by decide) ?_
        obtain ⟨Ta_13, hTa_13, hf⟩ := lt_el hf
        refine va_put (D := D) (ci := 6) (v := .int 1) (ty := .boolean) (C := RX6) (T := TX6) (N := 5) hx hb hu inX6 tyX6 tyX6_ok nmX6 hown hK.1 hP hD hS 0 rfl rfl 4 (by decide) (hu _ q266) (fun _ h9 => h9) rfl (by decide +kernel) rfl rfl (Nat.le_of_ble_eq_true rfl) dX6_readQ_184 (fun H locs hP hD hS => ?_)
        have hP : va_P D vwCl ((kX6 cs ata (.ref (adr 0)) Ta_13) ++ ((kX3 cs adr  Dr))) H := by rw [hTa_13]; exact hP
        have hD : va_D A ((kX6 cs ata (.ref (adr 0)) Ta_13) ++ ((kX3 cs adr  Dr))) := by rw [hTa_13]; exact hD
        have he := Option.some.inj hf
        obtain ⟨e0, e1⟩ := Prod.mk.inj he
        exact hrv _ _ rfl rfl dX6_readQ_187 _ _ _ (by rw [e0, e1]) hP hD hS
      · have hf := in_el hc12 hf
        refine lv_aload_n hx hb dX6_readQ_158 rfl (lv_at hl 0 rfl) ?_
        refine lv_iload_n hx hb dX6_readQ_159 rfl (lv_at hl 1 rfl) ?_
        refine lv_iconst (v := 1) hx hb dX6_readQ_160 (by decide) ?_
        refine lv_iadd hx hb dX6_readQ_161 ?_
        obtain ⟨Ta_14, Dr_15, hg16, hf⟩ := b2_el hf
        refine cc_V1 (w' := ((kX6 cs ata (.ref (adr 0)) Ta_14) ++ ((kX3 cs adr  Dr_15)))) (st1 := []) [.int (y1 + 1)] hx hb hml hown hu (tX6_readT_2 l D cs ata adr (y1 + 1) Ta_10 Dr Ta_14 Dr_15 hg16) q693 q60 q690 q692 q9 pdX6_readT ⟨rfl, rfl, Nat.le_of_ble_eq_true rfl, Nat.le_of_ble_eq_true rfl⟩ hK hZ hP hD hS hA rfl rfl rfl rfl hl.1 rfl (Nat.le_of_ble_eq_true rfl) dX6_readQ_162 rfl (fun H locs hP hD hS => ?_)
        refine lv_aload_n hx hb dX6_readQ_165 rfl (lv_at hl 0 rfl) ?_
        refine lv_bipush (v := 41) hx hb dX6_readQ_166 (by decide) ?_
        obtain ⟨r17, Ta_18, hg19, hf⟩ := b2_el hf
        refine cc_V (w' := ((kX6 cs ata (.ref (adr 0)) Ta_18) ++ ((kX3 cs adr  Dr_15)))) (wr := (kX3 cs adr  Dr_15)) (st1 := [.int r17]) [.int 41] hx hb hml hown hu (tX6_takes l D cs ata adr 41 Ta_14 r17 Ta_18 hg19) q821 q60 q818 q820 q17 pdX6_takes ⟨rfl, rfl, Nat.le_of_ble_eq_true rfl, Nat.le_of_ble_eq_true rfl⟩ hK hZ hP hD hS hA [0, 1] [2, 3, 4] [3, 4, 0, 1, 2] rfl rfl rfl rfl rfl rfl rfl rfl rfl rfl hl.1 rfl (Nat.le_of_ble_eq_true rfl) dX6_readQ_168 rfl (fun H locs hP hD hS => ?_)
        refine lv_if_ne (tgt := 187) hx hb dX6_readQ_171 (by decide) (fun hc20 => ?_) (fun hc20 => ?_)
        · have hf := in_el hc20 hf
          have he := Option.some.inj hf
          obtain ⟨e0, e1⟩ := Prod.mk.inj he
          exact hrv _ _ rfl rfl dX6_readQ_187 _ _ _ (by rw [e0, e1]) hP hD hS
        · have hf := ip_el hc20 hf
          refine lv_aload_n hx hb dX6_readQ_174 rfl (lv_at hl 0 rfl) ?_
          refine lv_iconst (v := 1) hx hb dX6_readQ_175 (by decide) ?_
          obtain ⟨Ta_21, hTa_21, hf⟩ := lt_el hf
          refine va_put (D := D) (ci := 6) (v := .int 1) (ty := .boolean) (C := RX6) (T := TX6) (N := 5) hx hb hu inX6 tyX6 tyX6_ok nmX6 hown hK.1 hP hD hS 0 rfl rfl 4 (by decide) (hu _ q266) (fun _ h9 => h9) rfl (by decide +kernel) rfl rfl (Nat.le_of_ble_eq_true rfl) dX6_readQ_176 (fun H locs hP hD hS => ?_)
          have hP : va_P D vwCl ((kX6 cs ata (.ref (adr 0)) Ta_21) ++ ((kX3 cs adr  Dr_15))) H := by rw [hTa_21]; exact hP
          have hD : va_D A ((kX6 cs ata (.ref (adr 0)) Ta_21) ++ ((kX3 cs adr  Dr_15))) := by rw [hTa_21]; exact hD
          refine lv_goto (tgt := 187) hx hb dX6_readQ_179 (by decide) ?_
          have he := Option.some.inj hf
          obtain ⟨e0, e1⟩ := Prod.mk.inj he
          exact hrv _ _ rfl rfl dX6_readQ_187 _ _ _ (by rw [e0, e1]) hP hD hS
  have h111 : ∀ (y1 : Int32) (Ta : ST) (Dr : ST) (H : Heap) (locs : List Loc) (ls : Array Slot), va_P D vwCl ((kX6 cs ata (.ref (adr 0)) Ta) ++ ((kX3 cs adr  Dr))) H → va_D A ((kX6 cs ata (.ref (adr 0)) Ta) ++ ((kX3 cs adr  Dr))) → va_S A s.heap H locs → lv_has ls 2 [(0, .ref (ata 0)), (1, .int y1)] → fX6_readQ_1_111 y1 Ta Dr = some (Taz, Drz) → W p l e rmX6_readQ_1 s m [.ref (ata 0), .int x1].toArray below meth c H locs 0 0 Q (F0 m 111 ls []) := by
    intro y1 Ta Dr H locs ls hP hD hS hl hf
    unfold fX6_readQ_1_111 at hf
    refine lv_iload_n hx hb dX6_readQ_111 rfl (lv_at hl 1 rfl) ?_
    refine lv_iconst (v := 5) hx hb dX6_readQ_112 (by decide) ?_
    refine lv_icmp_ge (tgt := 144) hx hb dX6_readQ_113 (by decide) (fun hc6 => ?_) (fun hc6 => ?_)
    · have hf := ip_el hc6 hf
      exact h144 y1 Ta Dr _ _ _ hP hD hS (lv_sub hl [0, 1] rfl) hf
    · have hf := in_el hc6 hf
      refine lv_aload_n hx hb dX6_readQ_116 rfl (lv_at hl 0 rfl) ?_
      refine lv_bipush (v := 45) hx hb dX6_readQ_117 (by decide) ?_
      obtain ⟨r22, Ta_23, hg24, hf⟩ := b2_el hf
      refine cc_V (w' := ((kX6 cs ata (.ref (adr 0)) Ta_23) ++ ((kX3 cs adr  Dr)))) (wr := (kX3 cs adr  Dr)) (st1 := [.int r22]) [.int 45] hx hb hml hown hu (tX6_takes l D cs ata adr 45 Ta r22 Ta_23 hg24) q821 q60 q818 q820 q17 pdX6_takes ⟨rfl, rfl, Nat.le_of_ble_eq_true rfl, Nat.le_of_ble_eq_true rfl⟩ hK hZ hP hD hS hA [0, 1] [2, 3, 4] [3, 4, 0, 1, 2] rfl rfl rfl rfl rfl rfl rfl rfl rfl rfl hl.1 rfl (Nat.le_of_ble_eq_true rfl) dX6_readQ_119 rfl (fun H locs hP hD hS => ?_)
      refine lv_if_eq (tgt := 144) hx hb dX6_readQ_122 (by decide) (fun hc25 => ?_) (fun hc25 => ?_)
      · have hf := ip_el hc25 hf
        exact h144 y1 Ta_23 Dr _ _ _ hP hD hS (lv_sub hl [0, 1] rfl) hf
      · have hf := in_el hc25 hf
        refine lv_aload_n hx hb dX6_readQ_125 rfl (lv_at hl 0 rfl) ?_
        refine lv_iload_n hx hb dX6_readQ_126 rfl (lv_at hl 1 rfl) ?_
        refine lv_iconst (v := 1) hx hb dX6_readQ_127 (by decide) ?_
        refine lv_iadd hx hb dX6_readQ_128 ?_
        obtain ⟨Ta_26, Dr_27, hg28, hf⟩ := b2_el hf
        refine cc_V1 (w' := ((kX6 cs ata (.ref (adr 0)) Ta_26) ++ ((kX3 cs adr  Dr_27)))) (st1 := []) [.int (y1 + 1)] hx hb hml hown hu (tX6_readQ_2 l D cs ata adr (y1 + 1) Ta_23 Dr Ta_26 Dr_27 hg28) q713 q60 q710 q712 q14 pdX6_readQ ⟨rfl, rfl, Nat.le_of_ble_eq_true rfl, Nat.le_of_ble_eq_true rfl⟩ hK hZ hP hD hS hA rfl rfl rfl rfl hl.1 rfl (Nat.le_of_ble_eq_true rfl) dX6_readQ_129 rfl (fun H locs hP hD hS => ?_)
        refine lv_aload_n hx hb dX6_readQ_132 rfl (lv_at hl 0 rfl) ?_
        refine va_get (D := D) (ci := 6) (v := .ref (adr 0)) (C := RX6) (T := TX6) (N := 5) hx hb hu inX6 hown hK.1 hP 0 rfl rfl 1 (by decide) (hu _ q260) (fun _ h9 => h9) rfl dX6_readQ_133 ?_
        refine lv_bipush (v := 126) hx hb dX6_readQ_136 (by decide) ?_
        obtain ⟨Dr_29, hg30, hf⟩ := b1_el hf
        refine cc_V (w' := ((kX6 cs ata (.ref (adr 0)) Ta_26) ++ ((kX3 cs adr  Dr_29)))) (wr := (kX6 cs ata (.ref (adr 0)) Ta_26)) (st1 := []) [.int 126] hx hb hml hown hu (tX3_putSign l D cs adr 126 Dr_27 Dr_29 hg30) q816 q57 q813 q814 q815 pdX3_putSign ⟨rfl, rfl, Nat.le_of_ble_eq_true rfl, Nat.le_of_ble_eq_true rfl⟩ hK hZ hP hD hS hA [2, 3, 4] [0, 1] [0, 1, 2, 3, 4] rfl rfl rfl rfl rfl rfl rfl rfl rfl rfl hl.1 rfl (Nat.le_of_ble_eq_true rfl) dX6_readQ_138 rfl (fun H locs hP hD hS => ?_)
        refine lv_goto (tgt := 187) hx hb dX6_readQ_141 (by decide) ?_
        have he := Option.some.inj hf
        obtain ⟨e0, e1⟩ := Prod.mk.inj he
        exact hrv _ _ rfl rfl dX6_readQ_187 _ _ _ (by rw [e0, e1]) hP hD hS
  have h78 : ∀ (y1 : Int32) (Ta : ST) (Dr : ST) (H : Heap) (locs : List Loc) (ls : Array Slot), va_P D vwCl ((kX6 cs ata (.ref (adr 0)) Ta) ++ ((kX3 cs adr  Dr))) H → va_D A ((kX6 cs ata (.ref (adr 0)) Ta) ++ ((kX3 cs adr  Dr))) → va_S A s.heap H locs → lv_has ls 2 [(0, .ref (ata 0)), (1, .int y1)] → fX6_readQ_1_78 y1 Ta Dr = some (Taz, Drz) → W p l e rmX6_readQ_1 s m [.ref (ata 0), .int x1].toArray below meth c H locs 0 0 Q (F0 m 78 ls []) := by
    intro y1 Ta Dr H locs ls hP hD hS hl hf
    unfold fX6_readQ_1_78 at hf
    refine lv_iload_n hx hb dX6_readQ_78 rfl (lv_at hl 1 rfl) ?_
    refine lv_iconst (v := 5) hx hb dX6_readQ_79 (by decide) ?_
    refine lv_icmp_ge (tgt := 111) hx hb dX6_readQ_80 (by decide) (fun hc5 => ?_) (fun hc5 => ?_)
    · have hf := ip_el hc5 hf
      exact h111 y1 Ta Dr _ _ _ hP hD hS (lv_sub hl [0, 1] rfl) hf
    · have hf := in_el hc5 hf
      refine lv_aload_n hx hb dX6_readQ_83 rfl (lv_at hl 0 rfl) ?_
      refine lv_bipush (v := 33) hx hb dX6_readQ_84 (by decide) ?_
      obtain ⟨r31, Ta_32, hg33, hf⟩ := b2_el hf
      refine cc_V (w' := ((kX6 cs ata (.ref (adr 0)) Ta_32) ++ ((kX3 cs adr  Dr)))) (wr := (kX3 cs adr  Dr)) (st1 := [.int r31]) [.int 33] hx hb hml hown hu (tX6_takes l D cs ata adr 33 Ta r31 Ta_32 hg33) q821 q60 q818 q820 q17 pdX6_takes ⟨rfl, rfl, Nat.le_of_ble_eq_true rfl, Nat.le_of_ble_eq_true rfl⟩ hK hZ hP hD hS hA [0, 1] [2, 3, 4] [3, 4, 0, 1, 2] rfl rfl rfl rfl rfl rfl rfl rfl rfl rfl hl.1 rfl (Nat.le_of_ble_eq_true rfl) dX6_readQ_86 rfl (fun H locs hP hD hS => ?_)
      refine lv_if_eq (tgt := 111) hx hb dX6_readQ_89 (by decide) (fun hc34 => ?_) (fun hc34 => ?_)
      · have hf := ip_el hc34 hf
        exact h111 y1 Ta_32 Dr _ _ _ hP hD hS (lv_sub hl [0, 1] rfl) hf
      · have hf := in_el hc34 hf
        refine lv_aload_n hx hb dX6_readQ_92 rfl (lv_at hl 0 rfl) ?_
        refine lv_iload_n hx hb dX6_readQ_93 rfl (lv_at hl 1 rfl) ?_
        refine lv_iconst (v := 1) hx hb dX6_readQ_94 (by decide) ?_
        refine lv_iadd hx hb dX6_readQ_95 ?_
        obtain ⟨Ta_35, Dr_36, hg37, hf⟩ := b2_el hf
        refine cc_V1 (w' := ((kX6 cs ata (.ref (adr 0)) Ta_35) ++ ((kX3 cs adr  Dr_36)))) (st1 := []) [.int (y1 + 1)] hx hb hml hown hu (tX6_readQ_2 l D cs ata adr (y1 + 1) Ta_32 Dr Ta_35 Dr_36 hg37) q713 q60 q710 q712 q14 pdX6_readQ ⟨rfl, rfl, Nat.le_of_ble_eq_true rfl, Nat.le_of_ble_eq_true rfl⟩ hK hZ hP hD hS hA rfl rfl rfl rfl hl.1 rfl (Nat.le_of_ble_eq_true rfl) dX6_readQ_96 rfl (fun H locs hP hD hS => ?_)
        refine lv_aload_n hx hb dX6_readQ_99 rfl (lv_at hl 0 rfl) ?_
        refine va_get (D := D) (ci := 6) (v := .ref (adr 0)) (C := RX6) (T := TX6) (N := 5) hx hb hu inX6 hown hK.1 hP 0 rfl rfl 1 (by decide) (hu _ q260) (fun _ h9 => h9) rfl dX6_readQ_100 ?_
        refine lv_bipush (v := 33) hx hb dX6_readQ_103 (by decide) ?_
        obtain ⟨Dr_38, hg39, hf⟩ := b1_el hf
        refine cc_V (w' := ((kX6 cs ata (.ref (adr 0)) Ta_35) ++ ((kX3 cs adr  Dr_38)))) (wr := (kX6 cs ata (.ref (adr 0)) Ta_35)) (st1 := []) [.int 33] hx hb hml hown hu (tX3_putSign l D cs adr 33 Dr_36 Dr_38 hg39) q816 q57 q813 q814 q815 pdX3_putSign ⟨rfl, rfl, Nat.le_of_ble_eq_true rfl, Nat.le_of_ble_eq_true rfl⟩ hK hZ hP hD hS hA [2, 3, 4] [0, 1] [0, 1, 2, 3, 4] rfl rfl rfl rfl rfl rfl rfl rfl rfl rfl hl.1 rfl (Nat.le_of_ble_eq_true rfl) dX6_readQ_105 rfl (fun H locs hP hD hS => ?_)
        refine lv_goto (tgt := 187) hx hb dX6_readQ_108 (by decide) ?_
        have he := Option.some.inj hf
        obtain ⟨e0, e1⟩ := Prod.mk.inj he
        exact hrv _ _ rfl rfl dX6_readQ_187 _ _ _ (by rw [e0, e1]) hP hD hS
  have hl : lv_has ls0 2 [(0, .ref (ata 0)), (1, .int x1)] := hl0
  have hP := hP0
  have hD := hD0
  have hS := hS0
  unfold fX6_readQ_1 at hf
  refine lv_aload_n hx hb dX6_readQ_0 rfl (lv_at hl 0 rfl) ?_
  obtain ⟨r1, hg2, hf⟩ := b1_el hf
  refine cc_V (w' := ((kX6 cs ata (.ref (adr 0)) Ta) ++ ((kX3 cs adr  Dr)))) (wr := (kX3 cs adr  Dr)) (st1 := [.int r1]) [] hx hb hml hown hu (tX6_seesDigit l D cs ata adr Ta r1 hg2) q717 q60 q714 q716 q15 pdX6_seesDigit ⟨rfl, rfl, Nat.le_of_ble_eq_true rfl, Nat.le_of_ble_eq_true rfl⟩ hK hZ hP hD hS hA [0, 1] [2, 3, 4] [3, 4, 0, 1, 2] rfl rfl rfl rfl rfl rfl rfl rfl rfl rfl hl.1 rfl (Nat.le_of_ble_eq_true rfl) dX6_readQ_1 rfl (fun H locs hP hD hS => ?_)
  refine lv_if_eq (tgt := 14) hx hb dX6_readQ_4 (by decide) (fun hc3 => ?_) (fun hc3 => ?_)
  · have hf := ip_el hc3 hf
    refine lv_aload_n hx hb dX6_readQ_14 rfl (lv_at hl 0 rfl) ?_
    refine va_get (D := D) (ci := 6) (v := .int (Ta 0 4)) (C := RX6) (T := TX6) (N := 5) hx hb hu inX6 hown hK.1 hP 0 rfl rfl 4 (by decide) (hu _ q266) (fun _ h9 => h9) rfl dX6_readQ_15 ?_
    refine lv_if_ne (tgt := 78) hx hb dX6_readQ_18 (by decide) (fun hc4 => ?_) (fun hc4 => ?_)
    · have hf := in_el hc4 hf
      exact h78 x1 Ta Dr _ _ _ hP hD hS (lv_sub hl [0, 1] rfl) hf
    · have hf := ip_el hc4 hf
      refine lv_aload_n hx hb dX6_readQ_21 rfl (lv_at hl 0 rfl) ?_
      refine va_get (D := D) (ci := 6) (v := .int (Ta 0 3)) (C := RX6) (T := TX6) (N := 5) hx hb hu inX6 hown hK.1 hP 0 rfl rfl 3 (by decide) (hu _ q264) (fun _ h9 => h9) rfl dX6_readQ_22 ?_
      refine lv_aload_n hx hb dX6_readQ_25 rfl (lv_at hl 0 rfl) ?_
      refine va_get (D := D) (ci := 6) (v := .int (Ta 0 2)) (C := RX6) (T := TX6) (N := 5) hx hb hu inX6 hown hK.1 hP 0 rfl rfl 2 (by decide) (hu _ q262) (fun _ h9 => h9) rfl dX6_readQ_26 ?_
      refine lv_icmp_ge (tgt := 78) hx hb dX6_readQ_29 (by decide) (fun hc40 => ?_) (fun hc40 => ?_)
      · have hf := ip_el hc40 hf
        exact h78 x1 Ta Dr _ _ _ hP hD hS (lv_sub hl [0, 1] rfl) hf
      · have hf := in_el hc40 hf
        refine va_ldcS hx hb hown hZ.2.2.2.2.1 dX6_readQ_32 ?_
        refine lv_aload_n hx hb dX6_readQ_34 rfl (lv_at hl 0 rfl) ?_
        refine va_get (D := D) (ci := 6) (v := .ref (ata 1)) (C := RX6) (T := TX6) (N := 5) hx hb hu inX6 hown hK.1 hP 0 rfl rfl 0 (by decide) (hu _ q259) (fun _ h9 => h9) rfl dX6_readQ_35 ?_
        refine lv_aload_n hx hb dX6_readQ_38 rfl (lv_at hl 0 rfl) ?_
        refine va_get (D := D) (ci := 6) (v := .int (Ta 0 3)) (C := RX6) (T := TX6) (N := 5) hx hb hu inX6 hown hK.1 hP 0 rfl rfl 3 (by decide) (hu _ q264) (fun _ h9 => h9) rfl dX6_readQ_39 ?_
        obtain ⟨hi41, hf⟩ := ck_el hf
        refine va_cald hx hb hK.1 hP 1 2 rfl rfl hi41 dX6_readQ_42 ?_
        obtain ⟨r42, hg43, hf⟩ := b1_el hf
        refine cc_Z0 (st1 := [.int r42]) [.int (Ta 1 (Int32.toNatClampNeg (Ta 0 3)))] hx hb hml hown hu (tJ0_indexOf_0f7a4 l D cs (Ta 1 (Int32.toNatClampNeg (Ta 0 3))) r42 hg43) q730 q66 q727 q728 q729 pdJ0_indexOf_0f7a4 ⟨rfl, rfl, Nat.le_of_ble_eq_true rfl, Nat.le_of_ble_eq_true rfl⟩ hK hZ hP hD hS hA (vk_recv hZ.2.2.2.2.2 (i := 0) (by decide) hS) rfl hl.1 rfl (Nat.le_of_ble_eq_true rfl) dX6_readQ_43 rfl (fun H locs hP hD hS => ?_)
        refine lv_if_lt (tgt := 78) hx hb dX6_readQ_46 (by decide) (fun hc44 => ?_) (fun hc44 => ?_)
        · have hf := ip_el hc44 hf
          exact h78 x1 Ta Dr _ _ _ hP hD hS (lv_sub hl [0, 1] rfl) hf
        · have hf := in_el hc44 hf
          refine lv_aload_n hx hb dX6_readQ_49 rfl (lv_at hl 0 rfl) ?_
          refine va_get (D := D) (ci := 6) (v := .ref (adr 0)) (C := RX6) (T := TX6) (N := 5) hx hb hu inX6 hown hK.1 hP 0 rfl rfl 1 (by decide) (hu _ q260) (fun _ h9 => h9) rfl dX6_readQ_50 ?_
          refine lv_aload_n hx hb dX6_readQ_53 rfl (lv_at hl 0 rfl) ?_
          refine va_get (D := D) (ci := 6) (v := .ref (ata 1)) (C := RX6) (T := TX6) (N := 5) hx hb hu inX6 hown hK.1 hP 0 rfl rfl 0 (by decide) (hu _ q259) (fun _ h9 => h9) rfl dX6_readQ_54 ?_
          refine lv_aload_n hx hb dX6_readQ_57 rfl (lv_at hl 0 rfl) ?_
          refine va_get (D := D) (ci := 6) (v := .int (Ta 0 3)) (C := RX6) (T := TX6) (N := 5) hx hb hu inX6 hown hK.1 hP 0 rfl rfl 3 (by decide) (hu _ q264) (fun _ h9 => h9) rfl dX6_readQ_58 ?_
          obtain ⟨hi45, hf⟩ := ck_el hf
          refine va_cald hx hb hK.1 hP 1 2 rfl rfl hi45 dX6_readQ_61 ?_
          obtain ⟨Dr_46, hg47, hf⟩ := b1_el hf
          refine cc_V (w' := ((kX6 cs ata (.ref (adr 0)) Ta) ++ ((kX3 cs adr  Dr_46)))) (wr := (kX6 cs ata (.ref (adr 0)) Ta)) (st1 := []) [.int (Ta 1 (Int32.toNatClampNeg (Ta 0 3)))] hx hb hml hown hu (tX3_putSign l D cs adr (Ta 1 (Int32.toNatClampNeg (Ta 0 3))) Dr Dr_46 hg47) q816 q57 q813 q814 q815 pdX3_putSign ⟨rfl, rfl, Nat.le_of_ble_eq_true rfl, Nat.le_of_ble_eq_true rfl⟩ hK hZ hP hD hS hA [2, 3, 4] [0, 1] [0, 1, 2, 3, 4] rfl rfl rfl rfl rfl rfl rfl rfl rfl rfl hl.1 rfl (Nat.le_of_ble_eq_true rfl) dX6_readQ_62 rfl (fun H locs hP hD hS => ?_)
          refine lv_aload_n hx hb dX6_readQ_65 rfl (lv_at hl 0 rfl) ?_
          refine lv_dup hx hb dX6_readQ_66 rfl ?_
          refine va_get (D := D) (ci := 6) (v := .int (Ta 0 3)) (C := RX6) (T := TX6) (N := 5) hx hb hu inX6 hown hK.1 hP 0 rfl rfl 3 (by decide) (hu _ q264) (fun _ h9 => h9) rfl dX6_readQ_67 ?_
          refine lv_iconst (v := 1) hx hb dX6_readQ_70 (by decide) ?_
          refine lv_iadd hx hb dX6_readQ_71 ?_
          obtain ⟨Ta_48, hTa_48, hf⟩ := lt_el hf
          refine va_put (D := D) (ci := 6) (v := .int ((Ta 0 3) + 1)) (ty := .int) (C := RX6) (T := TX6) (N := 5) hx hb hu inX6 tyX6 tyX6_ok nmX6 hown hK.1 hP hD hS 0 rfl rfl 3 (by decide) (hu _ q264) (fun _ h9 => h9) rfl (by decide +kernel) rfl rfl (Nat.le_of_ble_eq_true rfl) dX6_readQ_72 (fun H locs hP hD hS => ?_)
          have hP : va_P D vwCl ((kX6 cs ata (.ref (adr 0)) Ta_48) ++ ((kX3 cs adr  Dr_46))) H := by rw [hTa_48]; exact hP
          have hD : va_D A ((kX6 cs ata (.ref (adr 0)) Ta_48) ++ ((kX3 cs adr  Dr_46))) := by rw [hTa_48]; exact hD
          refine lv_goto (tgt := 187) hx hb dX6_readQ_75 (by decide) ?_
          have he := Option.some.inj hf
          obtain ⟨e0, e1⟩ := Prod.mk.inj he
          exact hrv _ _ rfl rfl dX6_readQ_187 _ _ _ (by rw [e0, e1]) hP hD hS
  · have hf := in_el hc3 hf
    refine lv_aload_n hx hb dX6_readQ_7 rfl (lv_at hl 0 rfl) ?_
    obtain ⟨Ta_49, Dr_50, hg51, hf⟩ := b2_el hf
    refine cc_V1 (w' := ((kX6 cs ata (.ref (adr 0)) Ta_49) ++ ((kX3 cs adr  Dr_50)))) (st1 := []) [] hx hb hml hown hu (tX6_readNumber l D cs ata adr Ta Dr Ta_49 Dr_50 hg51) q721 q60 q718 q720 q16 pdX6_readNumber ⟨rfl, rfl, Nat.le_of_ble_eq_true rfl, Nat.le_of_ble_eq_true rfl⟩ hK hZ hP hD hS hA rfl rfl rfl rfl hl.1 rfl (Nat.le_of_ble_eq_true rfl) dX6_readQ_8 rfl (fun H locs hP hD hS => ?_)
    refine lv_goto (tgt := 187) hx hb dX6_readQ_11 (by decide) ?_
    have he := Option.some.inj hf
    obtain ⟨e0, e1⟩ := Prod.mk.inj he
    exact hrv _ _ rfl rfl dX6_readQ_187 _ _ _ (by rw [e0, e1]) hP hD hS

def fX6_readP_1_40 (k7 : Int32 → Int32 → ST → ST → Option (ST × ST)) (y1 : Int32) (y2 : Int32) (Ta : ST) (Dr : ST) : Option (ST × ST) :=
  dc_ck (Ta 0 3) 80 (dc_lt (Ta 1 (Int32.toNatClampNeg (Ta 0 3))) (fun v9 => dc_lt (sti Ta 0 3 ((Ta 0 3) + 1)) (fun Ta_10 => dc_b2 (fX6_readQ_1 y1 Ta_10 Dr) (fun Ta_11 Dr_12 => dc_b1 (fX3_putSign v9 Dr_12) (fun Dr_14 => dc_lt (y2 + 1) (fun v16 => k7 y1 v16 Ta_11 Dr_14))))))
def fX6_readP_1_7_s (k7 : Int32 → Int32 → ST → ST → Option (ST × ST)) (y1 : Int32) (y2 : Int32) (Ta : ST) (Dr : ST) : Option (ST × ST) :=
  (if 80 ≤ y2 then some (Ta, Dr) else dc_b1 (fX6_sees 42 Ta) (fun r5 => (if r5 = 0 then dc_b1 (fX6_sees 47 Ta) (fun r17 => (if r17 = 0 then dc_b1 (fX6_sees 37 Ta) (fun r20 => (if r20 = 0 then some (Ta, Dr) else fX6_readP_1_40 k7 y1 y2 Ta Dr)) else fX6_readP_1_40 k7 y1 y2 Ta Dr)) else fX6_readP_1_40 k7 y1 y2 Ta Dr)))
def fX6_readP_1_7 : Nat → Int32 → Int32 → ST → ST → Option (ST × ST)
  | 0 => fun _ _ _ _ => none
  | n + 1 => fX6_readP_1_7_s (fX6_readP_1_7 n)
def fX6_readP_1 (x1 : Int32) (Ta : ST) (Dr : ST) : Option (ST × ST) :=
  dc_b2 (fX6_readQ_1 x1 Ta Dr) (fun Ta_1 Dr_2 => fX6_readP_1_7 400 x1 0 Ta_1 Dr_2)
abbrev rmX6_readP_1 : Room := { frames := 29, cells := 0, slots := 0, locals := 659 }
set_option maxRecDepth 100000 in
set_option maxHeartbeats 4000000 in
theorem tX6_readP_1 (l : Launch) (D : va_G) (cs : Nat → ClassId) (ata : Nat → Nat) (adr : Nat → Nat) (x1 : Int32) (Ta : ST) (Dr : ST) (Taz : ST) (Drz : ST) (hf : fX6_readP_1 x1 Ta Dr = some (Taz, Drz)) : CG l yX6_readP (wsm yX6_readP cX6_readP 4 none) rmX6_readP_1 D cs [.ref (ata 0), .int x1] none ((kX6 cs ata (.ref (adr 0)) Ta) ++ ((kX3 cs adr  Dr))) ((kX6 cs ata (.ref (adr 0)) Taz) ++ ((kX3 cs adr  Drz))) := by
  refine CG.intro (by decide) (Nat.le_of_ble_eq_true rfl) ?_
  intro p e s m below meth c A Q hx hb hml hown hu hK hZ hP0 hD0 hS0 hA hri hrz hrl hrv hra ls0 hl0
  have h40 : ∀ (k7 : Int32 → Int32 → ST → ST → Option (ST × ST)), (∀ (y1 : Int32) (y2 : Int32) (Ta : ST) (Dr : ST) (H : Heap) (locs : List Loc) (ls : Array Slot), va_P D vwCl ((kX6 cs ata (.ref (adr 0)) Ta) ++ ((kX3 cs adr  Dr))) H → va_D A ((kX6 cs ata (.ref (adr 0)) Ta) ++ ((kX3 cs adr  Dr))) → va_S A s.heap H locs → lv_has ls 4 [(0, .ref (ata 0)), (1, .int y1), (2, .int y2)] → k7 y1 y2 Ta Dr = some (Taz, Drz) → W p l e rmX6_readP_1 s m [.ref (ata 0), .int x1].toArray below meth c H locs 0 0 Q (F0 m 7 ls [])) → ∀ (y1 : Int32) (y2 : Int32) (Ta : ST) (Dr : ST) (H : Heap) (locs : List Loc) (ls : Array Slot), va_P D vwCl ((kX6 cs ata (.ref (adr 0)) Ta) ++ ((kX3 cs adr  Dr))) H → va_D A ((kX6 cs ata (.ref (adr 0)) Ta) ++ ((kX3 cs adr  Dr))) → va_S A s.heap H locs → lv_has ls 4 [(0, .ref (ata 0)), (1, .int y1), (2, .int y2)] → fX6_readP_1_40 k7 y1 y2 Ta Dr = some (Taz, Drz) → W p l e rmX6_readP_1 s m [.ref (ata 0), .int x1].toArray below meth c H locs 0 0 Q (F0 m 40 ls []) := by
    intro k7 hk7 y1 y2 Ta Dr H locs ls hP hD hS hl hf
    unfold fX6_readP_1_40 at hf
    refine lv_aload_n hx hb dX6_readP_40 rfl (lv_at hl 0 rfl) ?_
    refine va_get (D := D) (ci := 6) (v := .ref (ata 1)) (C := RX6) (T := TX6) (N := 5) hx hb hu inX6 hown hK.1 hP 0 rfl rfl 0 (by decide) (hu _ q259) (fun _ h9 => h9) rfl dX6_readP_41 ?_
    refine lv_aload_n hx hb dX6_readP_44 rfl (lv_at hl 0 rfl) ?_
    refine va_get (D := D) (ci := 6) (v := .int (Ta 0 3)) (C := RX6) (T := TX6) (N := 5) hx hb hu inX6 hown hK.1 hP 0 rfl rfl 3 (by decide) (hu _ q264) (fun _ h9 => h9) rfl dX6_readP_45 ?_
    obtain ⟨hi8, hf⟩ := ck_el hf
    refine va_cald hx hb hK.1 hP 1 2 rfl rfl hi8 dX6_readP_48 ?_
    obtain ⟨v9, hv9, hf⟩ := lt_el hf
    refine lv_tope hv9 ?_
    refine lv_istore_n (lv' := [(3, .int v9), (0, .ref (ata 0)), (1, .int y1), (2, .int y2)]) hx hb dX6_readP_49 rfl hl (by decide) rfl (fun ls hl => ?_)
    refine lv_aload_n hx hb dX6_readP_50 rfl (lv_at hl 1 rfl) ?_
    refine lv_dup hx hb dX6_readP_51 rfl ?_
    refine va_get (D := D) (ci := 6) (v := .int (Ta 0 3)) (C := RX6) (T := TX6) (N := 5) hx hb hu inX6 hown hK.1 hP 0 rfl rfl 3 (by decide) (hu _ q264) (fun _ h9 => h9) rfl dX6_readP_52 ?_
    refine lv_iconst (v := 1) hx hb dX6_readP_55 (by decide) ?_
    refine lv_iadd hx hb dX6_readP_56 ?_
    obtain ⟨Ta_10, hTa_10, hf⟩ := lt_el hf
    refine va_put (D := D) (ci := 6) (v := .int ((Ta 0 3) + 1)) (ty := .int) (C := RX6) (T := TX6) (N := 5) hx hb hu inX6 tyX6 tyX6_ok nmX6 hown hK.1 hP hD hS 0 rfl rfl 3 (by decide) (hu _ q264) (fun _ h9 => h9) rfl (by decide +kernel) rfl rfl (Nat.le_of_ble_eq_true rfl) dX6_readP_57 (fun H locs hP hD hS => ?_)
    have hP : va_P D vwCl ((kX6 cs ata (.ref (adr 0)) Ta_10) ++ ((kX3 cs adr  Dr))) H := by rw [hTa_10]; exact hP
    have hD : va_D A ((kX6 cs ata (.ref (adr 0)) Ta_10) ++ ((kX3 cs adr  Dr))) := by rw [hTa_10]; exact hD
    refine lv_aload_n hx hb dX6_readP_60 rfl (lv_at hl 1 rfl) ?_
    refine lv_iload_n hx hb dX6_readP_61 rfl (lv_at hl 2 rfl) ?_
    obtain ⟨Ta_11, Dr_12, hg13, hf⟩ := b2_el hf
    refine cc_V1 (w' := ((kX6 cs ata (.ref (adr 0)) Ta_11) ++ ((kX3 cs adr  Dr_12)))) (st1 := []) [.int y1] hx hb hml hown hu (tX6_readQ_1 l D cs ata adr y1 Ta_10 Dr Ta_11 Dr_12 hg13) q713 q60 q710 q712 q14 pdX6_readQ ⟨rfl, rfl, Nat.le_of_ble_eq_true rfl, Nat.le_of_ble_eq_true rfl⟩ hK hZ hP hD hS hA rfl rfl rfl rfl hl.1 rfl (Nat.le_of_ble_eq_true rfl) dX6_readP_62 rfl (fun H locs hP hD hS => ?_)
    refine lv_aload_n hx hb dX6_readP_65 rfl (lv_at hl 1 rfl) ?_
    refine va_get (D := D) (ci := 6) (v := .ref (adr 0)) (C := RX6) (T := TX6) (N := 5) hx hb hu inX6 hown hK.1 hP 0 rfl rfl 1 (by decide) (hu _ q260) (fun _ h9 => h9) rfl dX6_readP_66 ?_
    refine lv_iload_n hx hb dX6_readP_69 rfl (lv_at hl 0 rfl) ?_
    obtain ⟨Dr_14, hg15, hf⟩ := b1_el hf
    refine cc_V (w' := ((kX6 cs ata (.ref (adr 0)) Ta_11) ++ ((kX3 cs adr  Dr_14)))) (wr := (kX6 cs ata (.ref (adr 0)) Ta_11)) (st1 := []) [.int v9] hx hb hml hown hu (tX3_putSign l D cs adr v9 Dr_12 Dr_14 hg15) q816 q57 q813 q814 q815 pdX3_putSign ⟨rfl, rfl, Nat.le_of_ble_eq_true rfl, Nat.le_of_ble_eq_true rfl⟩ hK hZ hP hD hS hA [2, 3, 4] [0, 1] [0, 1, 2, 3, 4] rfl rfl rfl rfl rfl rfl rfl rfl rfl rfl hl.1 rfl (Nat.le_of_ble_eq_true rfl) dX6_readP_70 rfl (fun H locs hP hD hS => ?_)
    obtain ⟨v16, hv16, hf⟩ := lt_el hf
    refine lv_iinc (v := v16) (lv' := [(2, .int v16), (3, .int v9), (0, .ref (ata 0)), (1, .int y1)]) hx hb dX6_readP_73 hl (k := 3) rfl (by rw [hv16]; rfl) (by decide) rfl (fun ls hl => ?_)
    refine lv_goto (tgt := 7) hx hb dX6_readP_76 (by decide) ?_
    exact hk7 y1 v16 Ta_11 Dr_14 _ _ _ hP hD hS (lv_sub hl [2, 3, 0] rfl) hf
  have hs7 : ∀ (k7 : Int32 → Int32 → ST → ST → Option (ST × ST)), (∀ (y1 : Int32) (y2 : Int32) (Ta : ST) (Dr : ST) (H : Heap) (locs : List Loc) (ls : Array Slot), va_P D vwCl ((kX6 cs ata (.ref (adr 0)) Ta) ++ ((kX3 cs adr  Dr))) H → va_D A ((kX6 cs ata (.ref (adr 0)) Ta) ++ ((kX3 cs adr  Dr))) → va_S A s.heap H locs → lv_has ls 4 [(0, .ref (ata 0)), (1, .int y1), (2, .int y2)] → k7 y1 y2 Ta Dr = some (Taz, Drz) → W p l e rmX6_readP_1 s m [.ref (ata 0), .int x1].toArray below meth c H locs 0 0 Q (F0 m 7 ls [])) → ∀ (y1 : Int32) (y2 : Int32) (Ta : ST) (Dr : ST) (H : Heap) (locs : List Loc) (ls : Array Slot), va_P D vwCl ((kX6 cs ata (.ref (adr 0)) Ta) ++ ((kX3 cs adr  Dr))) H → va_D A ((kX6 cs ata (.ref (adr 0)) Ta) ++ ((kX3 cs adr  Dr))) → va_S A s.heap H locs → lv_has ls 4 [(0, .ref (ata 0)), (1, .int y1), (2, .int y2)] → fX6_readP_1_7_s k7 y1 y2 Ta Dr = some (Taz, Drz) → W p l e rmX6_readP_1 s m [.ref (ata 0), .int x1].toArray below meth c H locs 0 0 Q (F0 m 7 ls []) := by
    intro k7 hk7 y1 y2 Ta Dr H locs ls hP hD hS hl hf
    unfold fX6_readP_1_7_s at hf
    refine lv_iload_n hx hb dX6_readP_7 rfl (lv_at hl 2 rfl) ?_
    refine lv_bipush (v := 80) hx hb dX6_readP_8 (by decide) ?_
    refine lv_icmp_ge (tgt := 79) hx hb dX6_readP_10 (by decide) (fun hc4 => ?_) (fun hc4 => ?_)
    · have hf := ip_el hc4 hf
      have he := Option.some.inj hf
      obtain ⟨e0, e1⟩ := Prod.mk.inj he
      exact hrv _ _ rfl rfl dX6_readP_79 _ _ _ (by rw [e0, e1]) hP hD hS
    · have hf := in_el hc4 hf
      refine lv_aload_n hx hb dX6_readP_13 rfl (lv_at hl 0 rfl) ?_
      refine lv_bipush (v := 42) hx hb dX6_readP_14 (by decide) ?_
      obtain ⟨r5, hg6, hf⟩ := b1_el hf
      refine cc_V (w' := ((kX6 cs ata (.ref (adr 0)) Ta) ++ ((kX3 cs adr  Dr)))) (wr := (kX3 cs adr  Dr)) (st1 := [.int r5]) [.int 42] hx hb hml hown hu (tX6_sees l D cs ata adr 42 Ta r5 hg6) q825 q60 q822 q824 q18 pdX6_sees ⟨rfl, rfl, Nat.le_of_ble_eq_true rfl, Nat.le_of_ble_eq_true rfl⟩ hK hZ hP hD hS hA [0, 1] [2, 3, 4] [3, 4, 0, 1, 2] rfl rfl rfl rfl rfl rfl rfl rfl rfl rfl hl.1 rfl (Nat.le_of_ble_eq_true rfl) dX6_readP_16 rfl (fun H locs hP hD hS => ?_)
      refine lv_if_ne (tgt := 40) hx hb dX6_readP_19 (by decide) (fun hc7 => ?_) (fun hc7 => ?_)
      · have hf := in_el hc7 hf
        exact h40 k7 hk7 y1 y2 Ta Dr _ _ _ hP hD hS (lv_sub hl [0, 1, 2] rfl) hf
      · have hf := ip_el hc7 hf
        refine lv_aload_n hx hb dX6_readP_22 rfl (lv_at hl 0 rfl) ?_
        refine lv_bipush (v := 47) hx hb dX6_readP_23 (by decide) ?_
        obtain ⟨r17, hg18, hf⟩ := b1_el hf
        refine cc_V (w' := ((kX6 cs ata (.ref (adr 0)) Ta) ++ ((kX3 cs adr  Dr)))) (wr := (kX3 cs adr  Dr)) (st1 := [.int r17]) [.int 47] hx hb hml hown hu (tX6_sees l D cs ata adr 47 Ta r17 hg18) q825 q60 q822 q824 q18 pdX6_sees ⟨rfl, rfl, Nat.le_of_ble_eq_true rfl, Nat.le_of_ble_eq_true rfl⟩ hK hZ hP hD hS hA [0, 1] [2, 3, 4] [3, 4, 0, 1, 2] rfl rfl rfl rfl rfl rfl rfl rfl rfl rfl hl.1 rfl (Nat.le_of_ble_eq_true rfl) dX6_readP_25 rfl (fun H locs hP hD hS => ?_)
        refine lv_if_ne (tgt := 40) hx hb dX6_readP_28 (by decide) (fun hc19 => ?_) (fun hc19 => ?_)
        · have hf := in_el hc19 hf
          exact h40 k7 hk7 y1 y2 Ta Dr _ _ _ hP hD hS (lv_sub hl [0, 1, 2] rfl) hf
        · have hf := ip_el hc19 hf
          refine lv_aload_n hx hb dX6_readP_31 rfl (lv_at hl 0 rfl) ?_
          refine lv_bipush (v := 37) hx hb dX6_readP_32 (by decide) ?_
          obtain ⟨r20, hg21, hf⟩ := b1_el hf
          refine cc_V (w' := ((kX6 cs ata (.ref (adr 0)) Ta) ++ ((kX3 cs adr  Dr)))) (wr := (kX3 cs adr  Dr)) (st1 := [.int r20]) [.int 37] hx hb hml hown hu (tX6_sees l D cs ata adr 37 Ta r20 hg21) q825 q60 q822 q824 q18 pdX6_sees ⟨rfl, rfl, Nat.le_of_ble_eq_true rfl, Nat.le_of_ble_eq_true rfl⟩ hK hZ hP hD hS hA [0, 1] [2, 3, 4] [3, 4, 0, 1, 2] rfl rfl rfl rfl rfl rfl rfl rfl rfl rfl hl.1 rfl (Nat.le_of_ble_eq_true rfl) dX6_readP_34 rfl (fun H locs hP hD hS => ?_)
          refine lv_if_eq (tgt := 79) hx hb dX6_readP_37 (by decide) (fun hc22 => ?_) (fun hc22 => ?_)
          · have hf := ip_el hc22 hf
            have he := Option.some.inj hf
            obtain ⟨e0, e1⟩ := Prod.mk.inj he
            exact hrv _ _ rfl rfl dX6_readP_79 _ _ _ (by rw [e0, e1]) hP hD hS
          · have hf := in_el hc22 hf
            exact h40 k7 hk7 y1 y2 Ta Dr _ _ _ hP hD hS (lv_sub hl [0, 1, 2] rfl) hf
  have h7 : ∀ (n : Nat), ∀ (y1 : Int32) (y2 : Int32) (Ta : ST) (Dr : ST) (H : Heap) (locs : List Loc) (ls : Array Slot), va_P D vwCl ((kX6 cs ata (.ref (adr 0)) Ta) ++ ((kX3 cs adr  Dr))) H → va_D A ((kX6 cs ata (.ref (adr 0)) Ta) ++ ((kX3 cs adr  Dr))) → va_S A s.heap H locs → lv_has ls 4 [(0, .ref (ata 0)), (1, .int y1), (2, .int y2)] → fX6_readP_1_7 n y1 y2 Ta Dr = some (Taz, Drz) → W p l e rmX6_readP_1 s m [.ref (ata 0), .int x1].toArray below meth c H locs 0 0 Q (F0 m 7 ls []) := by
    intro n
    induction n with
    | zero => intro y1 y2 Ta Dr H locs ls hP hD hS hl hf; exact no_el hf
    | succ n ih => intro y1 y2 Ta Dr H locs ls hP hD hS hl hf; exact hs7 _ ih y1 y2 Ta Dr _ _ _ hP hD hS hl hf
  have hl : lv_has ls0 4 [(0, .ref (ata 0)), (1, .int x1)] := hl0
  have hP := hP0
  have hD := hD0
  have hS := hS0
  unfold fX6_readP_1 at hf
  refine lv_aload_n hx hb dX6_readP_0 rfl (lv_at hl 0 rfl) ?_
  refine lv_iload_n hx hb dX6_readP_1 rfl (lv_at hl 1 rfl) ?_
  obtain ⟨Ta_1, Dr_2, hg3, hf⟩ := b2_el hf
  refine cc_V1 (w' := ((kX6 cs ata (.ref (adr 0)) Ta_1) ++ ((kX3 cs adr  Dr_2)))) (st1 := []) [.int x1] hx hb hml hown hu (tX6_readQ_1 l D cs ata adr x1 Ta Dr Ta_1 Dr_2 hg3) q713 q60 q710 q712 q14 pdX6_readQ ⟨rfl, rfl, Nat.le_of_ble_eq_true rfl, Nat.le_of_ble_eq_true rfl⟩ hK hZ hP hD hS hA rfl rfl rfl rfl hl.1 rfl (Nat.le_of_ble_eq_true rfl) dX6_readP_2 rfl (fun H locs hP hD hS => ?_)
  refine lv_iconst (v := 0) hx hb dX6_readP_5 (by decide) ?_
  refine lv_istore_n (lv' := [(2, .int 0), (0, .ref (ata 0)), (1, .int x1)]) hx hb dX6_readP_6 rfl hl (by decide) rfl (fun ls hl => ?_)
  exact h7 400 x1 0 Ta_1 Dr_2 _ _ _ hP hD hS (lv_sub hl [1, 2, 0] rfl) hf

def fX6_readS_1_31 (k7 : Int32 → Int32 → ST → ST → Option (ST × ST)) (y1 : Int32) (y2 : Int32) (Ta : ST) (Dr : ST) : Option (ST × ST) :=
  dc_ck (Ta 0 3) 80 (dc_lt (Ta 1 (Int32.toNatClampNeg (Ta 0 3))) (fun v9 => dc_lt (sti Ta 0 3 ((Ta 0 3) + 1)) (fun Ta_10 => dc_b2 (fX6_readP_1 y1 Ta_10 Dr) (fun Ta_11 Dr_12 => dc_b1 (fX3_putSign v9 Dr_12) (fun Dr_14 => dc_lt (y2 + 1) (fun v16 => k7 y1 v16 Ta_11 Dr_14))))))
def fX6_readS_1_7_s (k7 : Int32 → Int32 → ST → ST → Option (ST × ST)) (y1 : Int32) (y2 : Int32) (Ta : ST) (Dr : ST) : Option (ST × ST) :=
  (if 80 ≤ y2 then some (Ta, Dr) else dc_b1 (fX6_sees 43 Ta) (fun r5 => (if r5 = 0 then dc_b1 (fX6_sees 45 Ta) (fun r17 => (if r17 = 0 then some (Ta, Dr) else fX6_readS_1_31 k7 y1 y2 Ta Dr)) else fX6_readS_1_31 k7 y1 y2 Ta Dr)))
def fX6_readS_1_7 : Nat → Int32 → Int32 → ST → ST → Option (ST × ST)
  | 0 => fun _ _ _ _ => none
  | n + 1 => fX6_readS_1_7_s (fX6_readS_1_7 n)
def fX6_readS_1 (x1 : Int32) (Ta : ST) (Dr : ST) : Option (ST × ST) :=
  dc_b2 (fX6_readP_1 x1 Ta Dr) (fun Ta_1 Dr_2 => fX6_readS_1_7 400 x1 0 Ta_1 Dr_2)
abbrev rmX6_readS_1 : Room := { frames := 30, cells := 0, slots := 0, locals := 682 }
set_option maxRecDepth 100000 in
set_option maxHeartbeats 4000000 in
theorem tX6_readS_1 (l : Launch) (D : va_G) (cs : Nat → ClassId) (ata : Nat → Nat) (adr : Nat → Nat) (x1 : Int32) (Ta : ST) (Dr : ST) (Taz : ST) (Drz : ST) (hf : fX6_readS_1 x1 Ta Dr = some (Taz, Drz)) : CG l yX6_readS (wsm yX6_readS cX6_readS 4 none) rmX6_readS_1 D cs [.ref (ata 0), .int x1] none ((kX6 cs ata (.ref (adr 0)) Ta) ++ ((kX3 cs adr  Dr))) ((kX6 cs ata (.ref (adr 0)) Taz) ++ ((kX3 cs adr  Drz))) := by
  refine CG.intro (by decide) (Nat.le_of_ble_eq_true rfl) ?_
  intro p e s m below meth c A Q hx hb hml hown hu hK hZ hP0 hD0 hS0 hA hri hrz hrl hrv hra ls0 hl0
  have h31 : ∀ (k7 : Int32 → Int32 → ST → ST → Option (ST × ST)), (∀ (y1 : Int32) (y2 : Int32) (Ta : ST) (Dr : ST) (H : Heap) (locs : List Loc) (ls : Array Slot), va_P D vwCl ((kX6 cs ata (.ref (adr 0)) Ta) ++ ((kX3 cs adr  Dr))) H → va_D A ((kX6 cs ata (.ref (adr 0)) Ta) ++ ((kX3 cs adr  Dr))) → va_S A s.heap H locs → lv_has ls 4 [(0, .ref (ata 0)), (1, .int y1), (2, .int y2)] → k7 y1 y2 Ta Dr = some (Taz, Drz) → W p l e rmX6_readS_1 s m [.ref (ata 0), .int x1].toArray below meth c H locs 0 0 Q (F0 m 7 ls [])) → ∀ (y1 : Int32) (y2 : Int32) (Ta : ST) (Dr : ST) (H : Heap) (locs : List Loc) (ls : Array Slot), va_P D vwCl ((kX6 cs ata (.ref (adr 0)) Ta) ++ ((kX3 cs adr  Dr))) H → va_D A ((kX6 cs ata (.ref (adr 0)) Ta) ++ ((kX3 cs adr  Dr))) → va_S A s.heap H locs → lv_has ls 4 [(0, .ref (ata 0)), (1, .int y1), (2, .int y2)] → fX6_readS_1_31 k7 y1 y2 Ta Dr = some (Taz, Drz) → W p l e rmX6_readS_1 s m [.ref (ata 0), .int x1].toArray below meth c H locs 0 0 Q (F0 m 31 ls []) := by
    intro k7 hk7 y1 y2 Ta Dr H locs ls hP hD hS hl hf
    unfold fX6_readS_1_31 at hf
    refine lv_aload_n hx hb dX6_readS_31 rfl (lv_at hl 0 rfl) ?_
    refine va_get (D := D) (ci := 6) (v := .ref (ata 1)) (C := RX6) (T := TX6) (N := 5) hx hb hu inX6 hown hK.1 hP 0 rfl rfl 0 (by decide) (hu _ q259) (fun _ h9 => h9) rfl dX6_readS_32 ?_
    refine lv_aload_n hx hb dX6_readS_35 rfl (lv_at hl 0 rfl) ?_
    refine va_get (D := D) (ci := 6) (v := .int (Ta 0 3)) (C := RX6) (T := TX6) (N := 5) hx hb hu inX6 hown hK.1 hP 0 rfl rfl 3 (by decide) (hu _ q264) (fun _ h9 => h9) rfl dX6_readS_36 ?_
    obtain ⟨hi8, hf⟩ := ck_el hf
    refine va_cald hx hb hK.1 hP 1 2 rfl rfl hi8 dX6_readS_39 ?_
    obtain ⟨v9, hv9, hf⟩ := lt_el hf
    refine lv_tope hv9 ?_
    refine lv_istore_n (lv' := [(3, .int v9), (0, .ref (ata 0)), (1, .int y1), (2, .int y2)]) hx hb dX6_readS_40 rfl hl (by decide) rfl (fun ls hl => ?_)
    refine lv_aload_n hx hb dX6_readS_41 rfl (lv_at hl 1 rfl) ?_
    refine lv_dup hx hb dX6_readS_42 rfl ?_
    refine va_get (D := D) (ci := 6) (v := .int (Ta 0 3)) (C := RX6) (T := TX6) (N := 5) hx hb hu inX6 hown hK.1 hP 0 rfl rfl 3 (by decide) (hu _ q264) (fun _ h9 => h9) rfl dX6_readS_43 ?_
    refine lv_iconst (v := 1) hx hb dX6_readS_46 (by decide) ?_
    refine lv_iadd hx hb dX6_readS_47 ?_
    obtain ⟨Ta_10, hTa_10, hf⟩ := lt_el hf
    refine va_put (D := D) (ci := 6) (v := .int ((Ta 0 3) + 1)) (ty := .int) (C := RX6) (T := TX6) (N := 5) hx hb hu inX6 tyX6 tyX6_ok nmX6 hown hK.1 hP hD hS 0 rfl rfl 3 (by decide) (hu _ q264) (fun _ h9 => h9) rfl (by decide +kernel) rfl rfl (Nat.le_of_ble_eq_true rfl) dX6_readS_48 (fun H locs hP hD hS => ?_)
    have hP : va_P D vwCl ((kX6 cs ata (.ref (adr 0)) Ta_10) ++ ((kX3 cs adr  Dr))) H := by rw [hTa_10]; exact hP
    have hD : va_D A ((kX6 cs ata (.ref (adr 0)) Ta_10) ++ ((kX3 cs adr  Dr))) := by rw [hTa_10]; exact hD
    refine lv_aload_n hx hb dX6_readS_51 rfl (lv_at hl 1 rfl) ?_
    refine lv_iload_n hx hb dX6_readS_52 rfl (lv_at hl 2 rfl) ?_
    obtain ⟨Ta_11, Dr_12, hg13, hf⟩ := b2_el hf
    refine cc_V1 (w' := ((kX6 cs ata (.ref (adr 0)) Ta_11) ++ ((kX3 cs adr  Dr_12)))) (st1 := []) [.int y1] hx hb hml hown hu (tX6_readP_1 l D cs ata adr y1 Ta_10 Dr Ta_11 Dr_12 hg13) q709 q60 q706 q708 q13 pdX6_readP ⟨rfl, rfl, Nat.le_of_ble_eq_true rfl, Nat.le_of_ble_eq_true rfl⟩ hK hZ hP hD hS hA rfl rfl rfl rfl hl.1 rfl (Nat.le_of_ble_eq_true rfl) dX6_readS_53 rfl (fun H locs hP hD hS => ?_)
    refine lv_aload_n hx hb dX6_readS_56 rfl (lv_at hl 1 rfl) ?_
    refine va_get (D := D) (ci := 6) (v := .ref (adr 0)) (C := RX6) (T := TX6) (N := 5) hx hb hu inX6 hown hK.1 hP 0 rfl rfl 1 (by decide) (hu _ q260) (fun _ h9 => h9) rfl dX6_readS_57 ?_
    refine lv_iload_n hx hb dX6_readS_60 rfl (lv_at hl 0 rfl) ?_
    obtain ⟨Dr_14, hg15, hf⟩ := b1_el hf
    refine cc_V (w' := ((kX6 cs ata (.ref (adr 0)) Ta_11) ++ ((kX3 cs adr  Dr_14)))) (wr := (kX6 cs ata (.ref (adr 0)) Ta_11)) (st1 := []) [.int v9] hx hb hml hown hu (tX3_putSign l D cs adr v9 Dr_12 Dr_14 hg15) q816 q57 q813 q814 q815 pdX3_putSign ⟨rfl, rfl, Nat.le_of_ble_eq_true rfl, Nat.le_of_ble_eq_true rfl⟩ hK hZ hP hD hS hA [2, 3, 4] [0, 1] [0, 1, 2, 3, 4] rfl rfl rfl rfl rfl rfl rfl rfl rfl rfl hl.1 rfl (Nat.le_of_ble_eq_true rfl) dX6_readS_61 rfl (fun H locs hP hD hS => ?_)
    obtain ⟨v16, hv16, hf⟩ := lt_el hf
    refine lv_iinc (v := v16) (lv' := [(2, .int v16), (3, .int v9), (0, .ref (ata 0)), (1, .int y1)]) hx hb dX6_readS_64 hl (k := 3) rfl (by rw [hv16]; rfl) (by decide) rfl (fun ls hl => ?_)
    refine lv_goto (tgt := 7) hx hb dX6_readS_67 (by decide) ?_
    exact hk7 y1 v16 Ta_11 Dr_14 _ _ _ hP hD hS (lv_sub hl [2, 3, 0] rfl) hf
  have hs7 : ∀ (k7 : Int32 → Int32 → ST → ST → Option (ST × ST)), (∀ (y1 : Int32) (y2 : Int32) (Ta : ST) (Dr : ST) (H : Heap) (locs : List Loc) (ls : Array Slot), va_P D vwCl ((kX6 cs ata (.ref (adr 0)) Ta) ++ ((kX3 cs adr  Dr))) H → va_D A ((kX6 cs ata (.ref (adr 0)) Ta) ++ ((kX3 cs adr  Dr))) → va_S A s.heap H locs → lv_has ls 4 [(0, .ref (ata 0)), (1, .int y1), (2, .int y2)] → k7 y1 y2 Ta Dr = some (Taz, Drz) → W p l e rmX6_readS_1 s m [.ref (ata 0), .int x1].toArray below meth c H locs 0 0 Q (F0 m 7 ls [])) → ∀ (y1 : Int32) (y2 : Int32) (Ta : ST) (Dr : ST) (H : Heap) (locs : List Loc) (ls : Array Slot), va_P D vwCl ((kX6 cs ata (.ref (adr 0)) Ta) ++ ((kX3 cs adr  Dr))) H → va_D A ((kX6 cs ata (.ref (adr 0)) Ta) ++ ((kX3 cs adr  Dr))) → va_S A s.heap H locs → lv_has ls 4 [(0, .ref (ata 0)), (1, .int y1), (2, .int y2)] → fX6_readS_1_7_s k7 y1 y2 Ta Dr = some (Taz, Drz) → W p l e rmX6_readS_1 s m [.ref (ata 0), .int x1].toArray below meth c H locs 0 0 Q (F0 m 7 ls []) := by
    intro k7 hk7 y1 y2 Ta Dr H locs ls hP hD hS hl hf
    unfold fX6_readS_1_7_s at hf
    refine lv_iload_n hx hb dX6_readS_7 rfl (lv_at hl 2 rfl) ?_
    refine lv_bipush (v := 80) hx hb dX6_readS_8 (by decide) ?_
    refine lv_icmp_ge (tgt := 70) hx hb dX6_readS_10 (by decide) (fun hc4 => ?_) (fun hc4 => ?_)
    · have hf := ip_el hc4 hf
      have he := Option.some.inj hf
      obtain ⟨e0, e1⟩ := Prod.mk.inj he
      exact hrv _ _ rfl rfl dX6_readS_70 _ _ _ (by rw [e0, e1]) hP hD hS
    · have hf := in_el hc4 hf
      refine lv_aload_n hx hb dX6_readS_13 rfl (lv_at hl 0 rfl) ?_
      refine lv_bipush (v := 43) hx hb dX6_readS_14 (by decide) ?_
      obtain ⟨r5, hg6, hf⟩ := b1_el hf
      refine cc_V (w' := ((kX6 cs ata (.ref (adr 0)) Ta) ++ ((kX3 cs adr  Dr)))) (wr := (kX3 cs adr  Dr)) (st1 := [.int r5]) [.int 43] hx hb hml hown hu (tX6_sees l D cs ata adr 43 Ta r5 hg6) q825 q60 q822 q824 q18 pdX6_sees ⟨rfl, rfl, Nat.le_of_ble_eq_true rfl, Nat.le_of_ble_eq_true rfl⟩ hK hZ hP hD hS hA [0, 1] [2, 3, 4] [3, 4, 0, 1, 2] rfl rfl rfl rfl rfl rfl rfl rfl rfl rfl hl.1 rfl (Nat.le_of_ble_eq_true rfl) dX6_readS_16 rfl (fun H locs hP hD hS => ?_)
      refine lv_if_ne (tgt := 31) hx hb dX6_readS_19 (by decide) (fun hc7 => ?_) (fun hc7 => ?_)
      · have hf := in_el hc7 hf
        exact h31 k7 hk7 y1 y2 Ta Dr _ _ _ hP hD hS (lv_sub hl [0, 1, 2] rfl) hf
      · have hf := ip_el hc7 hf
        refine lv_aload_n hx hb dX6_readS_22 rfl (lv_at hl 0 rfl) ?_
        refine lv_bipush (v := 45) hx hb dX6_readS_23 (by decide) ?_
        obtain ⟨r17, hg18, hf⟩ := b1_el hf
        refine cc_V (w' := ((kX6 cs ata (.ref (adr 0)) Ta) ++ ((kX3 cs adr  Dr)))) (wr := (kX3 cs adr  Dr)) (st1 := [.int r17]) [.int 45] hx hb hml hown hu (tX6_sees l D cs ata adr 45 Ta r17 hg18) q825 q60 q822 q824 q18 pdX6_sees ⟨rfl, rfl, Nat.le_of_ble_eq_true rfl, Nat.le_of_ble_eq_true rfl⟩ hK hZ hP hD hS hA [0, 1] [2, 3, 4] [3, 4, 0, 1, 2] rfl rfl rfl rfl rfl rfl rfl rfl rfl rfl hl.1 rfl (Nat.le_of_ble_eq_true rfl) dX6_readS_25 rfl (fun H locs hP hD hS => ?_)
        refine lv_if_eq (tgt := 70) hx hb dX6_readS_28 (by decide) (fun hc19 => ?_) (fun hc19 => ?_)
        · have hf := ip_el hc19 hf
          have he := Option.some.inj hf
          obtain ⟨e0, e1⟩ := Prod.mk.inj he
          exact hrv _ _ rfl rfl dX6_readS_70 _ _ _ (by rw [e0, e1]) hP hD hS
        · have hf := in_el hc19 hf
          exact h31 k7 hk7 y1 y2 Ta Dr _ _ _ hP hD hS (lv_sub hl [0, 1, 2] rfl) hf
  have h7 : ∀ (n : Nat), ∀ (y1 : Int32) (y2 : Int32) (Ta : ST) (Dr : ST) (H : Heap) (locs : List Loc) (ls : Array Slot), va_P D vwCl ((kX6 cs ata (.ref (adr 0)) Ta) ++ ((kX3 cs adr  Dr))) H → va_D A ((kX6 cs ata (.ref (adr 0)) Ta) ++ ((kX3 cs adr  Dr))) → va_S A s.heap H locs → lv_has ls 4 [(0, .ref (ata 0)), (1, .int y1), (2, .int y2)] → fX6_readS_1_7 n y1 y2 Ta Dr = some (Taz, Drz) → W p l e rmX6_readS_1 s m [.ref (ata 0), .int x1].toArray below meth c H locs 0 0 Q (F0 m 7 ls []) := by
    intro n
    induction n with
    | zero => intro y1 y2 Ta Dr H locs ls hP hD hS hl hf; exact no_el hf
    | succ n ih => intro y1 y2 Ta Dr H locs ls hP hD hS hl hf; exact hs7 _ ih y1 y2 Ta Dr _ _ _ hP hD hS hl hf
  have hl : lv_has ls0 4 [(0, .ref (ata 0)), (1, .int x1)] := hl0
  have hP := hP0
  have hD := hD0
  have hS := hS0
  unfold fX6_readS_1 at hf
  refine lv_aload_n hx hb dX6_readS_0 rfl (lv_at hl 0 rfl) ?_
  refine lv_iload_n hx hb dX6_readS_1 rfl (lv_at hl 1 rfl) ?_
  obtain ⟨Ta_1, Dr_2, hg3, hf⟩ := b2_el hf
  refine cc_V1 (w' := ((kX6 cs ata (.ref (adr 0)) Ta_1) ++ ((kX3 cs adr  Dr_2)))) (st1 := []) [.int x1] hx hb hml hown hu (tX6_readP_1 l D cs ata adr x1 Ta Dr Ta_1 Dr_2 hg3) q709 q60 q706 q708 q13 pdX6_readP ⟨rfl, rfl, Nat.le_of_ble_eq_true rfl, Nat.le_of_ble_eq_true rfl⟩ hK hZ hP hD hS hA rfl rfl rfl rfl hl.1 rfl (Nat.le_of_ble_eq_true rfl) dX6_readS_2 rfl (fun H locs hP hD hS => ?_)
  refine lv_iconst (v := 0) hx hb dX6_readS_5 (by decide) ?_
  refine lv_istore_n (lv' := [(2, .int 0), (0, .ref (ata 0)), (1, .int x1)]) hx hb dX6_readS_6 rfl hl (by decide) rfl (fun ls hl => ?_)
  exact h7 400 x1 0 Ta_1 Dr_2 _ _ _ hP hD hS (lv_sub hl [1, 2, 0] rfl) hf

def fX6_readB_1_32 (y1 : Int32) (Ta : ST) (Dr : ST) : Option (ST × ST) :=
  dc_ck (Ta 0 3) 80 (dc_lt (Ta 1 (Int32.toNatClampNeg (Ta 0 3))) (fun v8 => dc_lt (sti Ta 0 3 ((Ta 0 3) + 1)) (fun Ta_9 => dc_b2 (fX6_readS_1 y1 Ta_9 Dr) (fun Ta_10 Dr_11 => dc_b1 (fX3_putSign v8 Dr_11) (fun Dr_13 => some (Ta_10, Dr_13))))))
def fX6_readB_1 (x1 : Int32) (Ta : ST) (Dr : ST) : Option (ST × ST) :=
  dc_b2 (fX6_readS_1 x1 Ta Dr) (fun Ta_1 Dr_2 => dc_b1 (fX6_sees 60 Ta_1) (fun r4 => (if r4 = 0 then dc_b1 (fX6_sees 61 Ta_1) (fun r15 => (if r15 = 0 then dc_b1 (fX6_sees 62 Ta_1) (fun r18 => (if r18 = 0 then some (Ta_1, Dr_2) else fX6_readB_1_32 x1 Ta_1 Dr_2)) else fX6_readB_1_32 x1 Ta_1 Dr_2)) else fX6_readB_1_32 x1 Ta_1 Dr_2)))
abbrev rmX6_readB_1 : Room := { frames := 31, cells := 0, slots := 0, locals := 705 }
set_option maxRecDepth 100000 in
set_option maxHeartbeats 4000000 in
theorem tX6_readB_1 (l : Launch) (D : va_G) (cs : Nat → ClassId) (ata : Nat → Nat) (adr : Nat → Nat) (x1 : Int32) (Ta : ST) (Dr : ST) (Taz : ST) (Drz : ST) (hf : fX6_readB_1 x1 Ta Dr = some (Taz, Drz)) : CG l yX6_readB (wsm yX6_readB cX6_readB 3 none) rmX6_readB_1 D cs [.ref (ata 0), .int x1] none ((kX6 cs ata (.ref (adr 0)) Ta) ++ ((kX3 cs adr  Dr))) ((kX6 cs ata (.ref (adr 0)) Taz) ++ ((kX3 cs adr  Drz))) := by
  refine CG.intro (by decide) (Nat.le_of_ble_eq_true rfl) ?_
  intro p e s m below meth c A Q hx hb hml hown hu hK hZ hP0 hD0 hS0 hA hri hrz hrl hrv hra ls0 hl0
  have h32 : ∀ (y1 : Int32) (Ta : ST) (Dr : ST) (H : Heap) (locs : List Loc) (ls : Array Slot), va_P D vwCl ((kX6 cs ata (.ref (adr 0)) Ta) ++ ((kX3 cs adr  Dr))) H → va_D A ((kX6 cs ata (.ref (adr 0)) Ta) ++ ((kX3 cs adr  Dr))) → va_S A s.heap H locs → lv_has ls 3 [(0, .ref (ata 0)), (1, .int y1)] → fX6_readB_1_32 y1 Ta Dr = some (Taz, Drz) → W p l e rmX6_readB_1 s m [.ref (ata 0), .int x1].toArray below meth c H locs 0 0 Q (F0 m 32 ls []) := by
    intro y1 Ta Dr H locs ls hP hD hS hl hf
    unfold fX6_readB_1_32 at hf
    refine lv_aload_n hx hb dX6_readB_32 rfl (lv_at hl 0 rfl) ?_
    refine va_get (D := D) (ci := 6) (v := .ref (ata 1)) (C := RX6) (T := TX6) (N := 5) hx hb hu inX6 hown hK.1 hP 0 rfl rfl 0 (by decide) (hu _ q259) (fun _ h9 => h9) rfl dX6_readB_33 ?_
    refine lv_aload_n hx hb dX6_readB_36 rfl (lv_at hl 0 rfl) ?_
    refine va_get (D := D) (ci := 6) (v := .int (Ta 0 3)) (C := RX6) (T := TX6) (N := 5) hx hb hu inX6 hown hK.1 hP 0 rfl rfl 3 (by decide) (hu _ q264) (fun _ h9 => h9) rfl dX6_readB_37 ?_
    obtain ⟨hi7, hf⟩ := ck_el hf
    refine va_cald hx hb hK.1 hP 1 2 rfl rfl hi7 dX6_readB_40 ?_
    obtain ⟨v8, hv8, hf⟩ := lt_el hf
    refine lv_tope hv8 ?_
    refine lv_istore_n (lv' := [(2, .int v8), (0, .ref (ata 0)), (1, .int y1)]) hx hb dX6_readB_41 rfl hl (by decide) rfl (fun ls hl => ?_)
    refine lv_aload_n hx hb dX6_readB_42 rfl (lv_at hl 1 rfl) ?_
    refine lv_dup hx hb dX6_readB_43 rfl ?_
    refine va_get (D := D) (ci := 6) (v := .int (Ta 0 3)) (C := RX6) (T := TX6) (N := 5) hx hb hu inX6 hown hK.1 hP 0 rfl rfl 3 (by decide) (hu _ q264) (fun _ h9 => h9) rfl dX6_readB_44 ?_
    refine lv_iconst (v := 1) hx hb dX6_readB_47 (by decide) ?_
    refine lv_iadd hx hb dX6_readB_48 ?_
    obtain ⟨Ta_9, hTa_9, hf⟩ := lt_el hf
    refine va_put (D := D) (ci := 6) (v := .int ((Ta 0 3) + 1)) (ty := .int) (C := RX6) (T := TX6) (N := 5) hx hb hu inX6 tyX6 tyX6_ok nmX6 hown hK.1 hP hD hS 0 rfl rfl 3 (by decide) (hu _ q264) (fun _ h9 => h9) rfl (by decide +kernel) rfl rfl (Nat.le_of_ble_eq_true rfl) dX6_readB_49 (fun H locs hP hD hS => ?_)
    have hP : va_P D vwCl ((kX6 cs ata (.ref (adr 0)) Ta_9) ++ ((kX3 cs adr  Dr))) H := by rw [hTa_9]; exact hP
    have hD : va_D A ((kX6 cs ata (.ref (adr 0)) Ta_9) ++ ((kX3 cs adr  Dr))) := by rw [hTa_9]; exact hD
    refine lv_aload_n hx hb dX6_readB_52 rfl (lv_at hl 1 rfl) ?_
    refine lv_iload_n hx hb dX6_readB_53 rfl (lv_at hl 2 rfl) ?_
    obtain ⟨Ta_10, Dr_11, hg12, hf⟩ := b2_el hf
    refine cc_V1 (w' := ((kX6 cs ata (.ref (adr 0)) Ta_10) ++ ((kX3 cs adr  Dr_11)))) (st1 := []) [.int y1] hx hb hml hown hu (tX6_readS_1 l D cs ata adr y1 Ta_9 Dr Ta_10 Dr_11 hg12) q705 q60 q702 q704 q12 pdX6_readS ⟨rfl, rfl, Nat.le_of_ble_eq_true rfl, Nat.le_of_ble_eq_true rfl⟩ hK hZ hP hD hS hA rfl rfl rfl rfl hl.1 rfl (Nat.le_of_ble_eq_true rfl) dX6_readB_54 rfl (fun H locs hP hD hS => ?_)
    refine lv_aload_n hx hb dX6_readB_57 rfl (lv_at hl 1 rfl) ?_
    refine va_get (D := D) (ci := 6) (v := .ref (adr 0)) (C := RX6) (T := TX6) (N := 5) hx hb hu inX6 hown hK.1 hP 0 rfl rfl 1 (by decide) (hu _ q260) (fun _ h9 => h9) rfl dX6_readB_58 ?_
    refine lv_iload_n hx hb dX6_readB_61 rfl (lv_at hl 0 rfl) ?_
    obtain ⟨Dr_13, hg14, hf⟩ := b1_el hf
    refine cc_V (w' := ((kX6 cs ata (.ref (adr 0)) Ta_10) ++ ((kX3 cs adr  Dr_13)))) (wr := (kX6 cs ata (.ref (adr 0)) Ta_10)) (st1 := []) [.int v8] hx hb hml hown hu (tX3_putSign l D cs adr v8 Dr_11 Dr_13 hg14) q816 q57 q813 q814 q815 pdX3_putSign ⟨rfl, rfl, Nat.le_of_ble_eq_true rfl, Nat.le_of_ble_eq_true rfl⟩ hK hZ hP hD hS hA [2, 3, 4] [0, 1] [0, 1, 2, 3, 4] rfl rfl rfl rfl rfl rfl rfl rfl rfl rfl hl.1 rfl (Nat.le_of_ble_eq_true rfl) dX6_readB_62 rfl (fun H locs hP hD hS => ?_)
    have he := Option.some.inj hf
    obtain ⟨e0, e1⟩ := Prod.mk.inj he
    exact hrv _ _ rfl rfl dX6_readB_65 _ _ _ (by rw [e0, e1]) hP hD hS
  have hl : lv_has ls0 3 [(0, .ref (ata 0)), (1, .int x1)] := hl0
  have hP := hP0
  have hD := hD0
  have hS := hS0
  unfold fX6_readB_1 at hf
  refine lv_aload_n hx hb dX6_readB_0 rfl (lv_at hl 0 rfl) ?_
  refine lv_iload_n hx hb dX6_readB_1 rfl (lv_at hl 1 rfl) ?_
  obtain ⟨Ta_1, Dr_2, hg3, hf⟩ := b2_el hf
  refine cc_V1 (w' := ((kX6 cs ata (.ref (adr 0)) Ta_1) ++ ((kX3 cs adr  Dr_2)))) (st1 := []) [.int x1] hx hb hml hown hu (tX6_readS_1 l D cs ata adr x1 Ta Dr Ta_1 Dr_2 hg3) q705 q60 q702 q704 q12 pdX6_readS ⟨rfl, rfl, Nat.le_of_ble_eq_true rfl, Nat.le_of_ble_eq_true rfl⟩ hK hZ hP hD hS hA rfl rfl rfl rfl hl.1 rfl (Nat.le_of_ble_eq_true rfl) dX6_readB_2 rfl (fun H locs hP hD hS => ?_)
  refine lv_aload_n hx hb dX6_readB_5 rfl (lv_at hl 0 rfl) ?_
  refine lv_bipush (v := 60) hx hb dX6_readB_6 (by decide) ?_
  obtain ⟨r4, hg5, hf⟩ := b1_el hf
  refine cc_V (w' := ((kX6 cs ata (.ref (adr 0)) Ta_1) ++ ((kX3 cs adr  Dr_2)))) (wr := (kX3 cs adr  Dr_2)) (st1 := [.int r4]) [.int 60] hx hb hml hown hu (tX6_sees l D cs ata adr 60 Ta_1 r4 hg5) q825 q60 q822 q824 q18 pdX6_sees ⟨rfl, rfl, Nat.le_of_ble_eq_true rfl, Nat.le_of_ble_eq_true rfl⟩ hK hZ hP hD hS hA [0, 1] [2, 3, 4] [3, 4, 0, 1, 2] rfl rfl rfl rfl rfl rfl rfl rfl rfl rfl hl.1 rfl (Nat.le_of_ble_eq_true rfl) dX6_readB_8 rfl (fun H locs hP hD hS => ?_)
  refine lv_if_ne (tgt := 32) hx hb dX6_readB_11 (by decide) (fun hc6 => ?_) (fun hc6 => ?_)
  · have hf := in_el hc6 hf
    exact h32 x1 Ta_1 Dr_2 _ _ _ hP hD hS (lv_sub hl [0, 1] rfl) hf
  · have hf := ip_el hc6 hf
    refine lv_aload_n hx hb dX6_readB_14 rfl (lv_at hl 0 rfl) ?_
    refine lv_bipush (v := 61) hx hb dX6_readB_15 (by decide) ?_
    obtain ⟨r15, hg16, hf⟩ := b1_el hf
    refine cc_V (w' := ((kX6 cs ata (.ref (adr 0)) Ta_1) ++ ((kX3 cs adr  Dr_2)))) (wr := (kX3 cs adr  Dr_2)) (st1 := [.int r15]) [.int 61] hx hb hml hown hu (tX6_sees l D cs ata adr 61 Ta_1 r15 hg16) q825 q60 q822 q824 q18 pdX6_sees ⟨rfl, rfl, Nat.le_of_ble_eq_true rfl, Nat.le_of_ble_eq_true rfl⟩ hK hZ hP hD hS hA [0, 1] [2, 3, 4] [3, 4, 0, 1, 2] rfl rfl rfl rfl rfl rfl rfl rfl rfl rfl hl.1 rfl (Nat.le_of_ble_eq_true rfl) dX6_readB_17 rfl (fun H locs hP hD hS => ?_)
    refine lv_if_ne (tgt := 32) hx hb dX6_readB_20 (by decide) (fun hc17 => ?_) (fun hc17 => ?_)
    · have hf := in_el hc17 hf
      exact h32 x1 Ta_1 Dr_2 _ _ _ hP hD hS (lv_sub hl [0, 1] rfl) hf
    · have hf := ip_el hc17 hf
      refine lv_aload_n hx hb dX6_readB_23 rfl (lv_at hl 0 rfl) ?_
      refine lv_bipush (v := 62) hx hb dX6_readB_24 (by decide) ?_
      obtain ⟨r18, hg19, hf⟩ := b1_el hf
      refine cc_V (w' := ((kX6 cs ata (.ref (adr 0)) Ta_1) ++ ((kX3 cs adr  Dr_2)))) (wr := (kX3 cs adr  Dr_2)) (st1 := [.int r18]) [.int 62] hx hb hml hown hu (tX6_sees l D cs ata adr 62 Ta_1 r18 hg19) q825 q60 q822 q824 q18 pdX6_sees ⟨rfl, rfl, Nat.le_of_ble_eq_true rfl, Nat.le_of_ble_eq_true rfl⟩ hK hZ hP hD hS hA [0, 1] [2, 3, 4] [3, 4, 0, 1, 2] rfl rfl rfl rfl rfl rfl rfl rfl rfl rfl hl.1 rfl (Nat.le_of_ble_eq_true rfl) dX6_readB_26 rfl (fun H locs hP hD hS => ?_)
      refine lv_if_eq (tgt := 65) hx hb dX6_readB_29 (by decide) (fun hc20 => ?_) (fun hc20 => ?_)
      · have hf := ip_el hc20 hf
        have he := Option.some.inj hf
        obtain ⟨e0, e1⟩ := Prod.mk.inj he
        exact hrv _ _ rfl rfl dX6_readB_65 _ _ _ (by rw [e0, e1]) hP hD hS
      · have hf := in_el hc20 hf
        exact h32 x1 Ta_1 Dr_2 _ _ _ hP hD hS (lv_sub hl [0, 1] rfl) hf

def fX6_readA_1_7_s (k7 : Int32 → Int32 → ST → ST → Option (ST × ST)) (y1 : Int32) (y2 : Int32) (Ta : ST) (Dr : ST) : Option (ST × ST) :=
  (if 80 ≤ y2 then some (Ta, Dr) else dc_b2 (fX6_takes 38 Ta) (fun r5 Ta_6 => (if r5 = 0 then some (Ta_6, Dr) else dc_b2 (fX6_readB_1 y1 Ta_6 Dr) (fun Ta_9 Dr_10 => dc_b1 (fX3_putSign 38 Dr_10) (fun Dr_12 => dc_lt (y2 + 1) (fun v14 => k7 y1 v14 Ta_9 Dr_12))))))
def fX6_readA_1_7 : Nat → Int32 → Int32 → ST → ST → Option (ST × ST)
  | 0 => fun _ _ _ _ => none
  | n + 1 => fX6_readA_1_7_s (fX6_readA_1_7 n)
def fX6_readA_1 (x1 : Int32) (Ta : ST) (Dr : ST) : Option (ST × ST) :=
  dc_b2 (fX6_readB_1 x1 Ta Dr) (fun Ta_1 Dr_2 => fX6_readA_1_7 400 x1 0 Ta_1 Dr_2)
abbrev rmX6_readA_1 : Room := { frames := 32, cells := 0, slots := 0, locals := 727 }
set_option maxRecDepth 100000 in
set_option maxHeartbeats 4000000 in
theorem tX6_readA_1 (l : Launch) (D : va_G) (cs : Nat → ClassId) (ata : Nat → Nat) (adr : Nat → Nat) (x1 : Int32) (Ta : ST) (Dr : ST) (Taz : ST) (Drz : ST) (hf : fX6_readA_1 x1 Ta Dr = some (Taz, Drz)) : CG l yX6_readA (wsm yX6_readA cX6_readA 3 none) rmX6_readA_1 D cs [.ref (ata 0), .int x1] none ((kX6 cs ata (.ref (adr 0)) Ta) ++ ((kX3 cs adr  Dr))) ((kX6 cs ata (.ref (adr 0)) Taz) ++ ((kX3 cs adr  Drz))) := by
  refine CG.intro (by decide) (Nat.le_of_ble_eq_true rfl) ?_
  intro p e s m below meth c A Q hx hb hml hown hu hK hZ hP0 hD0 hS0 hA hri hrz hrl hrv hra ls0 hl0
  have hs7 : ∀ (k7 : Int32 → Int32 → ST → ST → Option (ST × ST)), (∀ (y1 : Int32) (y2 : Int32) (Ta : ST) (Dr : ST) (H : Heap) (locs : List Loc) (ls : Array Slot), va_P D vwCl ((kX6 cs ata (.ref (adr 0)) Ta) ++ ((kX3 cs adr  Dr))) H → va_D A ((kX6 cs ata (.ref (adr 0)) Ta) ++ ((kX3 cs adr  Dr))) → va_S A s.heap H locs → lv_has ls 3 [(0, .ref (ata 0)), (1, .int y1), (2, .int y2)] → k7 y1 y2 Ta Dr = some (Taz, Drz) → W p l e rmX6_readA_1 s m [.ref (ata 0), .int x1].toArray below meth c H locs 0 0 Q (F0 m 7 ls [])) → ∀ (y1 : Int32) (y2 : Int32) (Ta : ST) (Dr : ST) (H : Heap) (locs : List Loc) (ls : Array Slot), va_P D vwCl ((kX6 cs ata (.ref (adr 0)) Ta) ++ ((kX3 cs adr  Dr))) H → va_D A ((kX6 cs ata (.ref (adr 0)) Ta) ++ ((kX3 cs adr  Dr))) → va_S A s.heap H locs → lv_has ls 3 [(0, .ref (ata 0)), (1, .int y1), (2, .int y2)] → fX6_readA_1_7_s k7 y1 y2 Ta Dr = some (Taz, Drz) → W p l e rmX6_readA_1 s m [.ref (ata 0), .int x1].toArray below meth c H locs 0 0 Q (F0 m 7 ls []) := by
    intro k7 hk7 y1 y2 Ta Dr H locs ls hP hD hS hl hf
    unfold fX6_readA_1_7_s at hf
    refine lv_iload_n hx hb dX6_readA_7 rfl (lv_at hl 2 rfl) ?_
    refine lv_bipush (v := 80) hx hb dX6_readA_8 (by decide) ?_
    refine lv_icmp_ge (tgt := 42) hx hb dX6_readA_10 (by decide) (fun hc4 => ?_) (fun hc4 => ?_)
    · have hf := ip_el hc4 hf
      have he := Option.some.inj hf
      obtain ⟨e0, e1⟩ := Prod.mk.inj he
      exact hrv _ _ rfl rfl dX6_readA_42 _ _ _ (by rw [e0, e1]) hP hD hS
    · have hf := in_el hc4 hf
      refine lv_aload_n hx hb dX6_readA_13 rfl (lv_at hl 0 rfl) ?_
      refine lv_bipush (v := 38) hx hb dX6_readA_14 (by decide) ?_
      obtain ⟨r5, Ta_6, hg7, hf⟩ := b2_el hf
      refine cc_V (w' := ((kX6 cs ata (.ref (adr 0)) Ta_6) ++ ((kX3 cs adr  Dr)))) (wr := (kX3 cs adr  Dr)) (st1 := [.int r5]) [.int 38] hx hb hml hown hu (tX6_takes l D cs ata adr 38 Ta r5 Ta_6 hg7) q821 q60 q818 q820 q17 pdX6_takes ⟨rfl, rfl, Nat.le_of_ble_eq_true rfl, Nat.le_of_ble_eq_true rfl⟩ hK hZ hP hD hS hA [0, 1] [2, 3, 4] [3, 4, 0, 1, 2] rfl rfl rfl rfl rfl rfl rfl rfl rfl rfl hl.1 rfl (Nat.le_of_ble_eq_true rfl) dX6_readA_16 rfl (fun H locs hP hD hS => ?_)
      refine lv_if_eq (tgt := 42) hx hb dX6_readA_19 (by decide) (fun hc8 => ?_) (fun hc8 => ?_)
      · have hf := ip_el hc8 hf
        have he := Option.some.inj hf
        obtain ⟨e0, e1⟩ := Prod.mk.inj he
        exact hrv _ _ rfl rfl dX6_readA_42 _ _ _ (by rw [e0, e1]) hP hD hS
      · have hf := in_el hc8 hf
        refine lv_aload_n hx hb dX6_readA_22 rfl (lv_at hl 0 rfl) ?_
        refine lv_iload_n hx hb dX6_readA_23 rfl (lv_at hl 1 rfl) ?_
        obtain ⟨Ta_9, Dr_10, hg11, hf⟩ := b2_el hf
        refine cc_V1 (w' := ((kX6 cs ata (.ref (adr 0)) Ta_9) ++ ((kX3 cs adr  Dr_10)))) (st1 := []) [.int y1] hx hb hml hown hu (tX6_readB_1 l D cs ata adr y1 Ta_6 Dr Ta_9 Dr_10 hg11) q701 q60 q698 q700 q11 pdX6_readB ⟨rfl, rfl, Nat.le_of_ble_eq_true rfl, Nat.le_of_ble_eq_true rfl⟩ hK hZ hP hD hS hA rfl rfl rfl rfl hl.1 rfl (Nat.le_of_ble_eq_true rfl) dX6_readA_24 rfl (fun H locs hP hD hS => ?_)
        refine lv_aload_n hx hb dX6_readA_27 rfl (lv_at hl 0 rfl) ?_
        refine va_get (D := D) (ci := 6) (v := .ref (adr 0)) (C := RX6) (T := TX6) (N := 5) hx hb hu inX6 hown hK.1 hP 0 rfl rfl 1 (by decide) (hu _ q260) (fun _ h9 => h9) rfl dX6_readA_28 ?_
        refine lv_bipush (v := 38) hx hb dX6_readA_31 (by decide) ?_
        obtain ⟨Dr_12, hg13, hf⟩ := b1_el hf
        refine cc_V (w' := ((kX6 cs ata (.ref (adr 0)) Ta_9) ++ ((kX3 cs adr  Dr_12)))) (wr := (kX6 cs ata (.ref (adr 0)) Ta_9)) (st1 := []) [.int 38] hx hb hml hown hu (tX3_putSign l D cs adr 38 Dr_10 Dr_12 hg13) q816 q57 q813 q814 q815 pdX3_putSign ⟨rfl, rfl, Nat.le_of_ble_eq_true rfl, Nat.le_of_ble_eq_true rfl⟩ hK hZ hP hD hS hA [2, 3, 4] [0, 1] [0, 1, 2, 3, 4] rfl rfl rfl rfl rfl rfl rfl rfl rfl rfl hl.1 rfl (Nat.le_of_ble_eq_true rfl) dX6_readA_33 rfl (fun H locs hP hD hS => ?_)
        obtain ⟨v14, hv14, hf⟩ := lt_el hf
        refine lv_iinc (v := v14) (lv' := [(2, .int v14), (0, .ref (ata 0)), (1, .int y1)]) hx hb dX6_readA_36 hl (k := 2) rfl (by rw [hv14]; rfl) (by decide) rfl (fun ls hl => ?_)
        refine lv_goto (tgt := 7) hx hb dX6_readA_39 (by decide) ?_
        exact hk7 y1 v14 Ta_9 Dr_12 _ _ _ hP hD hS (lv_sub hl [1, 2, 0] rfl) hf
  have h7 : ∀ (n : Nat), ∀ (y1 : Int32) (y2 : Int32) (Ta : ST) (Dr : ST) (H : Heap) (locs : List Loc) (ls : Array Slot), va_P D vwCl ((kX6 cs ata (.ref (adr 0)) Ta) ++ ((kX3 cs adr  Dr))) H → va_D A ((kX6 cs ata (.ref (adr 0)) Ta) ++ ((kX3 cs adr  Dr))) → va_S A s.heap H locs → lv_has ls 3 [(0, .ref (ata 0)), (1, .int y1), (2, .int y2)] → fX6_readA_1_7 n y1 y2 Ta Dr = some (Taz, Drz) → W p l e rmX6_readA_1 s m [.ref (ata 0), .int x1].toArray below meth c H locs 0 0 Q (F0 m 7 ls []) := by
    intro n
    induction n with
    | zero => intro y1 y2 Ta Dr H locs ls hP hD hS hl hf; exact no_el hf
    | succ n ih => intro y1 y2 Ta Dr H locs ls hP hD hS hl hf; exact hs7 _ ih y1 y2 Ta Dr _ _ _ hP hD hS hl hf
  have hl : lv_has ls0 3 [(0, .ref (ata 0)), (1, .int x1)] := hl0
  have hP := hP0
  have hD := hD0
  have hS := hS0
  unfold fX6_readA_1 at hf
  refine lv_aload_n hx hb dX6_readA_0 rfl (lv_at hl 0 rfl) ?_
  refine lv_iload_n hx hb dX6_readA_1 rfl (lv_at hl 1 rfl) ?_
  obtain ⟨Ta_1, Dr_2, hg3, hf⟩ := b2_el hf
  refine cc_V1 (w' := ((kX6 cs ata (.ref (adr 0)) Ta_1) ++ ((kX3 cs adr  Dr_2)))) (st1 := []) [.int x1] hx hb hml hown hu (tX6_readB_1 l D cs ata adr x1 Ta Dr Ta_1 Dr_2 hg3) q701 q60 q698 q700 q11 pdX6_readB ⟨rfl, rfl, Nat.le_of_ble_eq_true rfl, Nat.le_of_ble_eq_true rfl⟩ hK hZ hP hD hS hA rfl rfl rfl rfl hl.1 rfl (Nat.le_of_ble_eq_true rfl) dX6_readA_2 rfl (fun H locs hP hD hS => ?_)
  refine lv_iconst (v := 0) hx hb dX6_readA_5 (by decide) ?_
  refine lv_istore_n (lv' := [(2, .int 0), (0, .ref (ata 0)), (1, .int x1)]) hx hb dX6_readA_6 rfl hl (by decide) rfl (fun ls hl => ?_)
  exact h7 400 x1 0 Ta_1 Dr_2 _ _ _ hP hD hS (lv_sub hl [1, 2, 0] rfl) hf

def fX6_readT_1_7_s (k7 : Int32 → Int32 → ST → ST → Option (ST × ST)) (y1 : Int32) (y2 : Int32) (Ta : ST) (Dr : ST) : Option (ST × ST) :=
  (if 80 ≤ y2 then some (Ta, Dr) else dc_b2 (fX6_takes 124 Ta) (fun r5 Ta_6 => (if r5 = 0 then some (Ta_6, Dr) else dc_b2 (fX6_readA_1 y1 Ta_6 Dr) (fun Ta_9 Dr_10 => dc_b1 (fX3_putSign 124 Dr_10) (fun Dr_12 => dc_lt (y2 + 1) (fun v14 => k7 y1 v14 Ta_9 Dr_12))))))
def fX6_readT_1_7 : Nat → Int32 → Int32 → ST → ST → Option (ST × ST)
  | 0 => fun _ _ _ _ => none
  | n + 1 => fX6_readT_1_7_s (fX6_readT_1_7 n)
def fX6_readT_1 (x1 : Int32) (Ta : ST) (Dr : ST) : Option (ST × ST) :=
  dc_b2 (fX6_readA_1 x1 Ta Dr) (fun Ta_1 Dr_2 => fX6_readT_1_7 400 x1 0 Ta_1 Dr_2)
abbrev rmX6_readT_1 : Room := { frames := 33, cells := 0, slots := 0, locals := 749 }
set_option maxRecDepth 100000 in
set_option maxHeartbeats 4000000 in
theorem tX6_readT_1 (l : Launch) (D : va_G) (cs : Nat → ClassId) (ata : Nat → Nat) (adr : Nat → Nat) (x1 : Int32) (Ta : ST) (Dr : ST) (Taz : ST) (Drz : ST) (hf : fX6_readT_1 x1 Ta Dr = some (Taz, Drz)) : CG l yX6_readT (wsm yX6_readT cX6_readT 3 none) rmX6_readT_1 D cs [.ref (ata 0), .int x1] none ((kX6 cs ata (.ref (adr 0)) Ta) ++ ((kX3 cs adr  Dr))) ((kX6 cs ata (.ref (adr 0)) Taz) ++ ((kX3 cs adr  Drz))) := by
  refine CG.intro (by decide) (Nat.le_of_ble_eq_true rfl) ?_
  intro p e s m below meth c A Q hx hb hml hown hu hK hZ hP0 hD0 hS0 hA hri hrz hrl hrv hra ls0 hl0
  have hs7 : ∀ (k7 : Int32 → Int32 → ST → ST → Option (ST × ST)), (∀ (y1 : Int32) (y2 : Int32) (Ta : ST) (Dr : ST) (H : Heap) (locs : List Loc) (ls : Array Slot), va_P D vwCl ((kX6 cs ata (.ref (adr 0)) Ta) ++ ((kX3 cs adr  Dr))) H → va_D A ((kX6 cs ata (.ref (adr 0)) Ta) ++ ((kX3 cs adr  Dr))) → va_S A s.heap H locs → lv_has ls 3 [(0, .ref (ata 0)), (1, .int y1), (2, .int y2)] → k7 y1 y2 Ta Dr = some (Taz, Drz) → W p l e rmX6_readT_1 s m [.ref (ata 0), .int x1].toArray below meth c H locs 0 0 Q (F0 m 7 ls [])) → ∀ (y1 : Int32) (y2 : Int32) (Ta : ST) (Dr : ST) (H : Heap) (locs : List Loc) (ls : Array Slot), va_P D vwCl ((kX6 cs ata (.ref (adr 0)) Ta) ++ ((kX3 cs adr  Dr))) H → va_D A ((kX6 cs ata (.ref (adr 0)) Ta) ++ ((kX3 cs adr  Dr))) → va_S A s.heap H locs → lv_has ls 3 [(0, .ref (ata 0)), (1, .int y1), (2, .int y2)] → fX6_readT_1_7_s k7 y1 y2 Ta Dr = some (Taz, Drz) → W p l e rmX6_readT_1 s m [.ref (ata 0), .int x1].toArray below meth c H locs 0 0 Q (F0 m 7 ls []) := by
    intro k7 hk7 y1 y2 Ta Dr H locs ls hP hD hS hl hf
    unfold fX6_readT_1_7_s at hf
    refine lv_iload_n hx hb dX6_readT_7 rfl (lv_at hl 2 rfl) ?_
    refine lv_bipush (v := 80) hx hb dX6_readT_8 (by decide) ?_
    refine lv_icmp_ge (tgt := 42) hx hb dX6_readT_10 (by decide) (fun hc4 => ?_) (fun hc4 => ?_)
    · have hf := ip_el hc4 hf
      have he := Option.some.inj hf
      obtain ⟨e0, e1⟩ := Prod.mk.inj he
      exact hrv _ _ rfl rfl dX6_readT_42 _ _ _ (by rw [e0, e1]) hP hD hS
    · have hf := in_el hc4 hf
      refine lv_aload_n hx hb dX6_readT_13 rfl (lv_at hl 0 rfl) ?_
      refine lv_bipush (v := 124) hx hb dX6_readT_14 (by decide) ?_
      obtain ⟨r5, Ta_6, hg7, hf⟩ := b2_el hf
      refine cc_V (w' := ((kX6 cs ata (.ref (adr 0)) Ta_6) ++ ((kX3 cs adr  Dr)))) (wr := (kX3 cs adr  Dr)) (st1 := [.int r5]) [.int 124] hx hb hml hown hu (tX6_takes l D cs ata adr 124 Ta r5 Ta_6 hg7) q821 q60 q818 q820 q17 pdX6_takes ⟨rfl, rfl, Nat.le_of_ble_eq_true rfl, Nat.le_of_ble_eq_true rfl⟩ hK hZ hP hD hS hA [0, 1] [2, 3, 4] [3, 4, 0, 1, 2] rfl rfl rfl rfl rfl rfl rfl rfl rfl rfl hl.1 rfl (Nat.le_of_ble_eq_true rfl) dX6_readT_16 rfl (fun H locs hP hD hS => ?_)
      refine lv_if_eq (tgt := 42) hx hb dX6_readT_19 (by decide) (fun hc8 => ?_) (fun hc8 => ?_)
      · have hf := ip_el hc8 hf
        have he := Option.some.inj hf
        obtain ⟨e0, e1⟩ := Prod.mk.inj he
        exact hrv _ _ rfl rfl dX6_readT_42 _ _ _ (by rw [e0, e1]) hP hD hS
      · have hf := in_el hc8 hf
        refine lv_aload_n hx hb dX6_readT_22 rfl (lv_at hl 0 rfl) ?_
        refine lv_iload_n hx hb dX6_readT_23 rfl (lv_at hl 1 rfl) ?_
        obtain ⟨Ta_9, Dr_10, hg11, hf⟩ := b2_el hf
        refine cc_V1 (w' := ((kX6 cs ata (.ref (adr 0)) Ta_9) ++ ((kX3 cs adr  Dr_10)))) (st1 := []) [.int y1] hx hb hml hown hu (tX6_readA_1 l D cs ata adr y1 Ta_6 Dr Ta_9 Dr_10 hg11) q697 q60 q694 q696 q10 pdX6_readA ⟨rfl, rfl, Nat.le_of_ble_eq_true rfl, Nat.le_of_ble_eq_true rfl⟩ hK hZ hP hD hS hA rfl rfl rfl rfl hl.1 rfl (Nat.le_of_ble_eq_true rfl) dX6_readT_24 rfl (fun H locs hP hD hS => ?_)
        refine lv_aload_n hx hb dX6_readT_27 rfl (lv_at hl 0 rfl) ?_
        refine va_get (D := D) (ci := 6) (v := .ref (adr 0)) (C := RX6) (T := TX6) (N := 5) hx hb hu inX6 hown hK.1 hP 0 rfl rfl 1 (by decide) (hu _ q260) (fun _ h9 => h9) rfl dX6_readT_28 ?_
        refine lv_bipush (v := 124) hx hb dX6_readT_31 (by decide) ?_
        obtain ⟨Dr_12, hg13, hf⟩ := b1_el hf
        refine cc_V (w' := ((kX6 cs ata (.ref (adr 0)) Ta_9) ++ ((kX3 cs adr  Dr_12)))) (wr := (kX6 cs ata (.ref (adr 0)) Ta_9)) (st1 := []) [.int 124] hx hb hml hown hu (tX3_putSign l D cs adr 124 Dr_10 Dr_12 hg13) q816 q57 q813 q814 q815 pdX3_putSign ⟨rfl, rfl, Nat.le_of_ble_eq_true rfl, Nat.le_of_ble_eq_true rfl⟩ hK hZ hP hD hS hA [2, 3, 4] [0, 1] [0, 1, 2, 3, 4] rfl rfl rfl rfl rfl rfl rfl rfl rfl rfl hl.1 rfl (Nat.le_of_ble_eq_true rfl) dX6_readT_33 rfl (fun H locs hP hD hS => ?_)
        obtain ⟨v14, hv14, hf⟩ := lt_el hf
        refine lv_iinc (v := v14) (lv' := [(2, .int v14), (0, .ref (ata 0)), (1, .int y1)]) hx hb dX6_readT_36 hl (k := 2) rfl (by rw [hv14]; rfl) (by decide) rfl (fun ls hl => ?_)
        refine lv_goto (tgt := 7) hx hb dX6_readT_39 (by decide) ?_
        exact hk7 y1 v14 Ta_9 Dr_12 _ _ _ hP hD hS (lv_sub hl [1, 2, 0] rfl) hf
  have h7 : ∀ (n : Nat), ∀ (y1 : Int32) (y2 : Int32) (Ta : ST) (Dr : ST) (H : Heap) (locs : List Loc) (ls : Array Slot), va_P D vwCl ((kX6 cs ata (.ref (adr 0)) Ta) ++ ((kX3 cs adr  Dr))) H → va_D A ((kX6 cs ata (.ref (adr 0)) Ta) ++ ((kX3 cs adr  Dr))) → va_S A s.heap H locs → lv_has ls 3 [(0, .ref (ata 0)), (1, .int y1), (2, .int y2)] → fX6_readT_1_7 n y1 y2 Ta Dr = some (Taz, Drz) → W p l e rmX6_readT_1 s m [.ref (ata 0), .int x1].toArray below meth c H locs 0 0 Q (F0 m 7 ls []) := by
    intro n
    induction n with
    | zero => intro y1 y2 Ta Dr H locs ls hP hD hS hl hf; exact no_el hf
    | succ n ih => intro y1 y2 Ta Dr H locs ls hP hD hS hl hf; exact hs7 _ ih y1 y2 Ta Dr _ _ _ hP hD hS hl hf
  have hl : lv_has ls0 3 [(0, .ref (ata 0)), (1, .int x1)] := hl0
  have hP := hP0
  have hD := hD0
  have hS := hS0
  unfold fX6_readT_1 at hf
  refine lv_aload_n hx hb dX6_readT_0 rfl (lv_at hl 0 rfl) ?_
  refine lv_iload_n hx hb dX6_readT_1 rfl (lv_at hl 1 rfl) ?_
  obtain ⟨Ta_1, Dr_2, hg3, hf⟩ := b2_el hf
  refine cc_V1 (w' := ((kX6 cs ata (.ref (adr 0)) Ta_1) ++ ((kX3 cs adr  Dr_2)))) (st1 := []) [.int x1] hx hb hml hown hu (tX6_readA_1 l D cs ata adr x1 Ta Dr Ta_1 Dr_2 hg3) q697 q60 q694 q696 q10 pdX6_readA ⟨rfl, rfl, Nat.le_of_ble_eq_true rfl, Nat.le_of_ble_eq_true rfl⟩ hK hZ hP hD hS hA rfl rfl rfl rfl hl.1 rfl (Nat.le_of_ble_eq_true rfl) dX6_readT_2 rfl (fun H locs hP hD hS => ?_)
  refine lv_iconst (v := 0) hx hb dX6_readT_5 (by decide) ?_
  refine lv_istore_n (lv' := [(2, .int 0), (0, .ref (ata 0)), (1, .int x1)]) hx hb dX6_readT_6 rfl hl (by decide) rfl (fun ls hl => ?_)
  exact h7 400 x1 0 Ta_1 Dr_2 _ _ _ hP hD hS (lv_sub hl [1, 2, 0] rfl) hf

def fX6_readQ_0_144 (y1 : Int32) (Ta : ST) (Dr : ST) : Option (ST × ST) :=
  (if 5 ≤ y1 then dc_lt (sti Ta 0 4 1) (fun Ta_8 => some (Ta_8, Dr)) else dc_b2 (fX6_takes 40 Ta) (fun r9 Ta_10 => (if r9 = 0 then dc_lt (sti Ta_10 0 4 1) (fun Ta_13 => some (Ta_13, Dr)) else dc_b2 (fX6_readT_1 (y1 + 1) Ta_10 Dr) (fun Ta_14 Dr_15 => dc_b2 (fX6_takes 41 Ta_14) (fun r17 Ta_18 => (if r17 = 0 then dc_lt (sti Ta_18 0 4 1) (fun Ta_21 => some (Ta_21, Dr_15)) else some (Ta_18, Dr_15)))))))
def fX6_readQ_0_111 (y1 : Int32) (Ta : ST) (Dr : ST) : Option (ST × ST) :=
  (if 5 ≤ y1 then fX6_readQ_0_144 y1 Ta Dr else dc_b2 (fX6_takes 45 Ta) (fun r22 Ta_23 => (if r22 = 0 then fX6_readQ_0_144 y1 Ta_23 Dr else dc_b2 (fX6_readQ_1 (y1 + 1) Ta_23 Dr) (fun Ta_26 Dr_27 => dc_b1 (fX3_putSign 126 Dr_27) (fun Dr_29 => some (Ta_26, Dr_29))))))
def fX6_readQ_0_78 (y1 : Int32) (Ta : ST) (Dr : ST) : Option (ST × ST) :=
  (if 5 ≤ y1 then fX6_readQ_0_111 y1 Ta Dr else dc_b2 (fX6_takes 33 Ta) (fun r31 Ta_32 => (if r31 = 0 then fX6_readQ_0_111 y1 Ta_32 Dr else dc_b2 (fX6_readQ_1 (y1 + 1) Ta_32 Dr) (fun Ta_35 Dr_36 => dc_b1 (fX3_putSign 33 Dr_36) (fun Dr_38 => some (Ta_35, Dr_38))))))
def fX6_readQ_0 (x1 : Int32) (Ta : ST) (Dr : ST) : Option (ST × ST) :=
  dc_b1 (fX6_seesDigit Ta) (fun r1 => (if r1 = 0 then (if (Ta 0 4) = 0 then (if (Ta 0 2) ≤ (Ta 0 3) then fX6_readQ_0_78 x1 Ta Dr else dc_ck (Ta 0 3) 80 (dc_b1 (fJ0_indexOf_0f7a4 (Ta 1 (Int32.toNatClampNeg (Ta 0 3)))) (fun r42 => (if r42 < 0 then fX6_readQ_0_78 x1 Ta Dr else dc_ck (Ta 0 3) 80 (dc_b1 (fX3_putSign (Ta 1 (Int32.toNatClampNeg (Ta 0 3))) Dr) (fun Dr_46 => dc_lt (sti Ta 0 3 ((Ta 0 3) + 1)) (fun Ta_48 => some (Ta_48, Dr_46)))))))) else fX6_readQ_0_78 x1 Ta Dr) else dc_b2 (fX6_readNumber Ta Dr) (fun Ta_49 Dr_50 => some (Ta_49, Dr_50))))
abbrev rmX6_readQ_0 : Room := { frames := 34, cells := 0, slots := 0, locals := 771 }
set_option maxRecDepth 100000 in
set_option maxHeartbeats 4000000 in
theorem tX6_readQ_0 (l : Launch) (D : va_G) (cs : Nat → ClassId) (ata : Nat → Nat) (adr : Nat → Nat) (x1 : Int32) (Ta : ST) (Dr : ST) (Taz : ST) (Drz : ST) (hf : fX6_readQ_0 x1 Ta Dr = some (Taz, Drz)) : CG l yX6_readQ (wsm yX6_readQ cX6_readQ 2 none) rmX6_readQ_0 D cs [.ref (ata 0), .int x1] none ((kX6 cs ata (.ref (adr 0)) Ta) ++ ((kX3 cs adr  Dr))) ((kX6 cs ata (.ref (adr 0)) Taz) ++ ((kX3 cs adr  Drz))) := by
  refine CG.intro (by decide) (Nat.le_of_ble_eq_true rfl) ?_
  intro p e s m below meth c A Q hx hb hml hown hu hK hZ hP0 hD0 hS0 hA hri hrz hrl hrv hra ls0 hl0
  have h144 : ∀ (y1 : Int32) (Ta : ST) (Dr : ST) (H : Heap) (locs : List Loc) (ls : Array Slot), va_P D vwCl ((kX6 cs ata (.ref (adr 0)) Ta) ++ ((kX3 cs adr  Dr))) H → va_D A ((kX6 cs ata (.ref (adr 0)) Ta) ++ ((kX3 cs adr  Dr))) → va_S A s.heap H locs → lv_has ls 2 [(0, .ref (ata 0)), (1, .int y1)] → fX6_readQ_0_144 y1 Ta Dr = some (Taz, Drz) → W p l e rmX6_readQ_0 s m [.ref (ata 0), .int x1].toArray below meth c H locs 0 0 Q (F0 m 144 ls []) := by
    intro y1 Ta Dr H locs ls hP hD hS hl hf
    unfold fX6_readQ_0_144 at hf
    refine lv_iload_n hx hb dX6_readQ_144 rfl (lv_at hl 1 rfl) ?_
    refine lv_iconst (v := 5) hx hb dX6_readQ_145 (by decide) ?_
    refine lv_icmp_ge (tgt := 182) hx hb dX6_readQ_146 (by decide) (fun hc7 => ?_) (fun hc7 => ?_)
    · have hf := ip_el hc7 hf
      refine lv_aload_n hx hb dX6_readQ_182 rfl (lv_at hl 0 rfl) ?_
      refine lv_iconst (v := 1) hx hb dX6_readQ_183 (by decide) ?_
      obtain ⟨Ta_8, hTa_8, hf⟩ := lt_el hf
      refine va_put (D := D) (ci := 6) (v := .int 1) (ty := .boolean) (C := RX6) (T := TX6) (N := 5) hx hb hu inX6 tyX6 tyX6_ok nmX6 hown hK.1 hP hD hS 0 rfl rfl 4 (by decide) (hu _ q266) (fun _ h9 => h9) rfl (by decide +kernel) rfl rfl (Nat.le_of_ble_eq_true rfl) dX6_readQ_184 (fun H locs hP hD hS => ?_)
      have hP : va_P D vwCl ((kX6 cs ata (.ref (adr 0)) Ta_8) ++ ((kX3 cs adr  Dr))) H := by rw [hTa_8]; exact hP
      have hD : va_D A ((kX6 cs ata (.ref (adr 0)) Ta_8) ++ ((kX3 cs adr  Dr))) := by rw [hTa_8]; exact hD
      have he := Option.some.inj hf
      obtain ⟨e0, e1⟩ := Prod.mk.inj he
      exact hrv _ _ rfl rfl dX6_readQ_187 _ _ _ (by rw [e0, e1]) hP hD hS
    · have hf := in_el hc7 hf
      refine lv_aload_n hx hb dX6_readQ_149 rfl (lv_at hl 0 rfl) ?_
      refine lv_bipush (v := 40) hx hb dX6_readQ_150 (by decide) ?_
      obtain ⟨r9, Ta_10, hg11, hf⟩ := b2_el hf
      refine cc_V (w' := ((kX6 cs ata (.ref (adr 0)) Ta_10) ++ ((kX3 cs adr  Dr)))) (wr := (kX3 cs adr  Dr)) (st1 := [.int r9]) [.int 40] hx hb hml hown hu (tX6_takes l D cs ata adr 40 Ta r9 Ta_10 hg11) q821 q60 q818 q820 q17 pdX6_takes ⟨rfl, rfl, Nat.le_of_ble_eq_true rfl, Nat.le_of_ble_eq_true rfl⟩ hK hZ hP hD hS hA [0, 1] [2, 3, 4] [3, 4, 0, 1, 2] rfl rfl rfl rfl rfl rfl rfl rfl rfl rfl hl.1 rfl (Nat.le_of_ble_eq_true rfl) dX6_readQ_152 rfl (fun H locs hP hD hS => ?_)
      refine lv_if_eq (tgt := 182) hx hb dX6_readQ_155 (by decide) (fun hc12 => ?_) (fun hc12 => ?_)
      · have hf := ip_el hc12 hf
        refine lv_aload_n hx hb dX6_readQ_182 rfl (lv_at hl 0 rfl) ?_
        refine lv_iconst (v := 1) hx hb dX6_readQ_183 (by decide) ?_
        obtain ⟨Ta_13, hTa_13, hf⟩ := lt_el hf
        refine va_put (D := D) (ci := 6) (v := .int 1) (ty := .boolean) (C := RX6) (T := TX6) (N := 5) hx hb hu inX6 tyX6 tyX6_ok nmX6 hown hK.1 hP hD hS 0 rfl rfl 4 (by decide) (hu _ q266) (fun _ h9 => h9) rfl (by decide +kernel) rfl rfl (Nat.le_of_ble_eq_true rfl) dX6_readQ_184 (fun H locs hP hD hS => ?_)
        have hP : va_P D vwCl ((kX6 cs ata (.ref (adr 0)) Ta_13) ++ ((kX3 cs adr  Dr))) H := by rw [hTa_13]; exact hP
        have hD : va_D A ((kX6 cs ata (.ref (adr 0)) Ta_13) ++ ((kX3 cs adr  Dr))) := by rw [hTa_13]; exact hD
        have he := Option.some.inj hf
        obtain ⟨e0, e1⟩ := Prod.mk.inj he
        exact hrv _ _ rfl rfl dX6_readQ_187 _ _ _ (by rw [e0, e1]) hP hD hS
      · have hf := in_el hc12 hf
        refine lv_aload_n hx hb dX6_readQ_158 rfl (lv_at hl 0 rfl) ?_
        refine lv_iload_n hx hb dX6_readQ_159 rfl (lv_at hl 1 rfl) ?_
        refine lv_iconst (v := 1) hx hb dX6_readQ_160 (by decide) ?_
        refine lv_iadd hx hb dX6_readQ_161 ?_
        obtain ⟨Ta_14, Dr_15, hg16, hf⟩ := b2_el hf
        refine cc_V1 (w' := ((kX6 cs ata (.ref (adr 0)) Ta_14) ++ ((kX3 cs adr  Dr_15)))) (st1 := []) [.int (y1 + 1)] hx hb hml hown hu (tX6_readT_1 l D cs ata adr (y1 + 1) Ta_10 Dr Ta_14 Dr_15 hg16) q693 q60 q690 q692 q9 pdX6_readT ⟨rfl, rfl, Nat.le_of_ble_eq_true rfl, Nat.le_of_ble_eq_true rfl⟩ hK hZ hP hD hS hA rfl rfl rfl rfl hl.1 rfl (Nat.le_of_ble_eq_true rfl) dX6_readQ_162 rfl (fun H locs hP hD hS => ?_)
        refine lv_aload_n hx hb dX6_readQ_165 rfl (lv_at hl 0 rfl) ?_
        refine lv_bipush (v := 41) hx hb dX6_readQ_166 (by decide) ?_
        obtain ⟨r17, Ta_18, hg19, hf⟩ := b2_el hf
        refine cc_V (w' := ((kX6 cs ata (.ref (adr 0)) Ta_18) ++ ((kX3 cs adr  Dr_15)))) (wr := (kX3 cs adr  Dr_15)) (st1 := [.int r17]) [.int 41] hx hb hml hown hu (tX6_takes l D cs ata adr 41 Ta_14 r17 Ta_18 hg19) q821 q60 q818 q820 q17 pdX6_takes ⟨rfl, rfl, Nat.le_of_ble_eq_true rfl, Nat.le_of_ble_eq_true rfl⟩ hK hZ hP hD hS hA [0, 1] [2, 3, 4] [3, 4, 0, 1, 2] rfl rfl rfl rfl rfl rfl rfl rfl rfl rfl hl.1 rfl (Nat.le_of_ble_eq_true rfl) dX6_readQ_168 rfl (fun H locs hP hD hS => ?_)
        refine lv_if_ne (tgt := 187) hx hb dX6_readQ_171 (by decide) (fun hc20 => ?_) (fun hc20 => ?_)
        · have hf := in_el hc20 hf
          have he := Option.some.inj hf
          obtain ⟨e0, e1⟩ := Prod.mk.inj he
          exact hrv _ _ rfl rfl dX6_readQ_187 _ _ _ (by rw [e0, e1]) hP hD hS
        · have hf := ip_el hc20 hf
          refine lv_aload_n hx hb dX6_readQ_174 rfl (lv_at hl 0 rfl) ?_
          refine lv_iconst (v := 1) hx hb dX6_readQ_175 (by decide) ?_
          obtain ⟨Ta_21, hTa_21, hf⟩ := lt_el hf
          refine va_put (D := D) (ci := 6) (v := .int 1) (ty := .boolean) (C := RX6) (T := TX6) (N := 5) hx hb hu inX6 tyX6 tyX6_ok nmX6 hown hK.1 hP hD hS 0 rfl rfl 4 (by decide) (hu _ q266) (fun _ h9 => h9) rfl (by decide +kernel) rfl rfl (Nat.le_of_ble_eq_true rfl) dX6_readQ_176 (fun H locs hP hD hS => ?_)
          have hP : va_P D vwCl ((kX6 cs ata (.ref (adr 0)) Ta_21) ++ ((kX3 cs adr  Dr_15))) H := by rw [hTa_21]; exact hP
          have hD : va_D A ((kX6 cs ata (.ref (adr 0)) Ta_21) ++ ((kX3 cs adr  Dr_15))) := by rw [hTa_21]; exact hD
          refine lv_goto (tgt := 187) hx hb dX6_readQ_179 (by decide) ?_
          have he := Option.some.inj hf
          obtain ⟨e0, e1⟩ := Prod.mk.inj he
          exact hrv _ _ rfl rfl dX6_readQ_187 _ _ _ (by rw [e0, e1]) hP hD hS
  have h111 : ∀ (y1 : Int32) (Ta : ST) (Dr : ST) (H : Heap) (locs : List Loc) (ls : Array Slot), va_P D vwCl ((kX6 cs ata (.ref (adr 0)) Ta) ++ ((kX3 cs adr  Dr))) H → va_D A ((kX6 cs ata (.ref (adr 0)) Ta) ++ ((kX3 cs adr  Dr))) → va_S A s.heap H locs → lv_has ls 2 [(0, .ref (ata 0)), (1, .int y1)] → fX6_readQ_0_111 y1 Ta Dr = some (Taz, Drz) → W p l e rmX6_readQ_0 s m [.ref (ata 0), .int x1].toArray below meth c H locs 0 0 Q (F0 m 111 ls []) := by
    intro y1 Ta Dr H locs ls hP hD hS hl hf
    unfold fX6_readQ_0_111 at hf
    refine lv_iload_n hx hb dX6_readQ_111 rfl (lv_at hl 1 rfl) ?_
    refine lv_iconst (v := 5) hx hb dX6_readQ_112 (by decide) ?_
    refine lv_icmp_ge (tgt := 144) hx hb dX6_readQ_113 (by decide) (fun hc6 => ?_) (fun hc6 => ?_)
    · have hf := ip_el hc6 hf
      exact h144 y1 Ta Dr _ _ _ hP hD hS (lv_sub hl [0, 1] rfl) hf
    · have hf := in_el hc6 hf
      refine lv_aload_n hx hb dX6_readQ_116 rfl (lv_at hl 0 rfl) ?_
      refine lv_bipush (v := 45) hx hb dX6_readQ_117 (by decide) ?_
      obtain ⟨r22, Ta_23, hg24, hf⟩ := b2_el hf
      refine cc_V (w' := ((kX6 cs ata (.ref (adr 0)) Ta_23) ++ ((kX3 cs adr  Dr)))) (wr := (kX3 cs adr  Dr)) (st1 := [.int r22]) [.int 45] hx hb hml hown hu (tX6_takes l D cs ata adr 45 Ta r22 Ta_23 hg24) q821 q60 q818 q820 q17 pdX6_takes ⟨rfl, rfl, Nat.le_of_ble_eq_true rfl, Nat.le_of_ble_eq_true rfl⟩ hK hZ hP hD hS hA [0, 1] [2, 3, 4] [3, 4, 0, 1, 2] rfl rfl rfl rfl rfl rfl rfl rfl rfl rfl hl.1 rfl (Nat.le_of_ble_eq_true rfl) dX6_readQ_119 rfl (fun H locs hP hD hS => ?_)
      refine lv_if_eq (tgt := 144) hx hb dX6_readQ_122 (by decide) (fun hc25 => ?_) (fun hc25 => ?_)
      · have hf := ip_el hc25 hf
        exact h144 y1 Ta_23 Dr _ _ _ hP hD hS (lv_sub hl [0, 1] rfl) hf
      · have hf := in_el hc25 hf
        refine lv_aload_n hx hb dX6_readQ_125 rfl (lv_at hl 0 rfl) ?_
        refine lv_iload_n hx hb dX6_readQ_126 rfl (lv_at hl 1 rfl) ?_
        refine lv_iconst (v := 1) hx hb dX6_readQ_127 (by decide) ?_
        refine lv_iadd hx hb dX6_readQ_128 ?_
        obtain ⟨Ta_26, Dr_27, hg28, hf⟩ := b2_el hf
        refine cc_V1 (w' := ((kX6 cs ata (.ref (adr 0)) Ta_26) ++ ((kX3 cs adr  Dr_27)))) (st1 := []) [.int (y1 + 1)] hx hb hml hown hu (tX6_readQ_1 l D cs ata adr (y1 + 1) Ta_23 Dr Ta_26 Dr_27 hg28) q713 q60 q710 q712 q14 pdX6_readQ ⟨rfl, rfl, Nat.le_of_ble_eq_true rfl, Nat.le_of_ble_eq_true rfl⟩ hK hZ hP hD hS hA rfl rfl rfl rfl hl.1 rfl (Nat.le_of_ble_eq_true rfl) dX6_readQ_129 rfl (fun H locs hP hD hS => ?_)
        refine lv_aload_n hx hb dX6_readQ_132 rfl (lv_at hl 0 rfl) ?_
        refine va_get (D := D) (ci := 6) (v := .ref (adr 0)) (C := RX6) (T := TX6) (N := 5) hx hb hu inX6 hown hK.1 hP 0 rfl rfl 1 (by decide) (hu _ q260) (fun _ h9 => h9) rfl dX6_readQ_133 ?_
        refine lv_bipush (v := 126) hx hb dX6_readQ_136 (by decide) ?_
        obtain ⟨Dr_29, hg30, hf⟩ := b1_el hf
        refine cc_V (w' := ((kX6 cs ata (.ref (adr 0)) Ta_26) ++ ((kX3 cs adr  Dr_29)))) (wr := (kX6 cs ata (.ref (adr 0)) Ta_26)) (st1 := []) [.int 126] hx hb hml hown hu (tX3_putSign l D cs adr 126 Dr_27 Dr_29 hg30) q816 q57 q813 q814 q815 pdX3_putSign ⟨rfl, rfl, Nat.le_of_ble_eq_true rfl, Nat.le_of_ble_eq_true rfl⟩ hK hZ hP hD hS hA [2, 3, 4] [0, 1] [0, 1, 2, 3, 4] rfl rfl rfl rfl rfl rfl rfl rfl rfl rfl hl.1 rfl (Nat.le_of_ble_eq_true rfl) dX6_readQ_138 rfl (fun H locs hP hD hS => ?_)
        refine lv_goto (tgt := 187) hx hb dX6_readQ_141 (by decide) ?_
        have he := Option.some.inj hf
        obtain ⟨e0, e1⟩ := Prod.mk.inj he
        exact hrv _ _ rfl rfl dX6_readQ_187 _ _ _ (by rw [e0, e1]) hP hD hS
  have h78 : ∀ (y1 : Int32) (Ta : ST) (Dr : ST) (H : Heap) (locs : List Loc) (ls : Array Slot), va_P D vwCl ((kX6 cs ata (.ref (adr 0)) Ta) ++ ((kX3 cs adr  Dr))) H → va_D A ((kX6 cs ata (.ref (adr 0)) Ta) ++ ((kX3 cs adr  Dr))) → va_S A s.heap H locs → lv_has ls 2 [(0, .ref (ata 0)), (1, .int y1)] → fX6_readQ_0_78 y1 Ta Dr = some (Taz, Drz) → W p l e rmX6_readQ_0 s m [.ref (ata 0), .int x1].toArray below meth c H locs 0 0 Q (F0 m 78 ls []) := by
    intro y1 Ta Dr H locs ls hP hD hS hl hf
    unfold fX6_readQ_0_78 at hf
    refine lv_iload_n hx hb dX6_readQ_78 rfl (lv_at hl 1 rfl) ?_
    refine lv_iconst (v := 5) hx hb dX6_readQ_79 (by decide) ?_
    refine lv_icmp_ge (tgt := 111) hx hb dX6_readQ_80 (by decide) (fun hc5 => ?_) (fun hc5 => ?_)
    · have hf := ip_el hc5 hf
      exact h111 y1 Ta Dr _ _ _ hP hD hS (lv_sub hl [0, 1] rfl) hf
    · have hf := in_el hc5 hf
      refine lv_aload_n hx hb dX6_readQ_83 rfl (lv_at hl 0 rfl) ?_
      refine lv_bipush (v := 33) hx hb dX6_readQ_84 (by decide) ?_
      obtain ⟨r31, Ta_32, hg33, hf⟩ := b2_el hf
      refine cc_V (w' := ((kX6 cs ata (.ref (adr 0)) Ta_32) ++ ((kX3 cs adr  Dr)))) (wr := (kX3 cs adr  Dr)) (st1 := [.int r31]) [.int 33] hx hb hml hown hu (tX6_takes l D cs ata adr 33 Ta r31 Ta_32 hg33) q821 q60 q818 q820 q17 pdX6_takes ⟨rfl, rfl, Nat.le_of_ble_eq_true rfl, Nat.le_of_ble_eq_true rfl⟩ hK hZ hP hD hS hA [0, 1] [2, 3, 4] [3, 4, 0, 1, 2] rfl rfl rfl rfl rfl rfl rfl rfl rfl rfl hl.1 rfl (Nat.le_of_ble_eq_true rfl) dX6_readQ_86 rfl (fun H locs hP hD hS => ?_)
      refine lv_if_eq (tgt := 111) hx hb dX6_readQ_89 (by decide) (fun hc34 => ?_) (fun hc34 => ?_)
      · have hf := ip_el hc34 hf
        exact h111 y1 Ta_32 Dr _ _ _ hP hD hS (lv_sub hl [0, 1] rfl) hf
      · have hf := in_el hc34 hf
        refine lv_aload_n hx hb dX6_readQ_92 rfl (lv_at hl 0 rfl) ?_
        refine lv_iload_n hx hb dX6_readQ_93 rfl (lv_at hl 1 rfl) ?_
        refine lv_iconst (v := 1) hx hb dX6_readQ_94 (by decide) ?_
        refine lv_iadd hx hb dX6_readQ_95 ?_
        obtain ⟨Ta_35, Dr_36, hg37, hf⟩ := b2_el hf
        refine cc_V1 (w' := ((kX6 cs ata (.ref (adr 0)) Ta_35) ++ ((kX3 cs adr  Dr_36)))) (st1 := []) [.int (y1 + 1)] hx hb hml hown hu (tX6_readQ_1 l D cs ata adr (y1 + 1) Ta_32 Dr Ta_35 Dr_36 hg37) q713 q60 q710 q712 q14 pdX6_readQ ⟨rfl, rfl, Nat.le_of_ble_eq_true rfl, Nat.le_of_ble_eq_true rfl⟩ hK hZ hP hD hS hA rfl rfl rfl rfl hl.1 rfl (Nat.le_of_ble_eq_true rfl) dX6_readQ_96 rfl (fun H locs hP hD hS => ?_)
        refine lv_aload_n hx hb dX6_readQ_99 rfl (lv_at hl 0 rfl) ?_
        refine va_get (D := D) (ci := 6) (v := .ref (adr 0)) (C := RX6) (T := TX6) (N := 5) hx hb hu inX6 hown hK.1 hP 0 rfl rfl 1 (by decide) (hu _ q260) (fun _ h9 => h9) rfl dX6_readQ_100 ?_
        refine lv_bipush (v := 33) hx hb dX6_readQ_103 (by decide) ?_
        obtain ⟨Dr_38, hg39, hf⟩ := b1_el hf
        refine cc_V (w' := ((kX6 cs ata (.ref (adr 0)) Ta_35) ++ ((kX3 cs adr  Dr_38)))) (wr := (kX6 cs ata (.ref (adr 0)) Ta_35)) (st1 := []) [.int 33] hx hb hml hown hu (tX3_putSign l D cs adr 33 Dr_36 Dr_38 hg39) q816 q57 q813 q814 q815 pdX3_putSign ⟨rfl, rfl, Nat.le_of_ble_eq_true rfl, Nat.le_of_ble_eq_true rfl⟩ hK hZ hP hD hS hA [2, 3, 4] [0, 1] [0, 1, 2, 3, 4] rfl rfl rfl rfl rfl rfl rfl rfl rfl rfl hl.1 rfl (Nat.le_of_ble_eq_true rfl) dX6_readQ_105 rfl (fun H locs hP hD hS => ?_)
        refine lv_goto (tgt := 187) hx hb dX6_readQ_108 (by decide) ?_
        have he := Option.some.inj hf
        obtain ⟨e0, e1⟩ := Prod.mk.inj he
        exact hrv _ _ rfl rfl dX6_readQ_187 _ _ _ (by rw [e0, e1]) hP hD hS
  have hl : lv_has ls0 2 [(0, .ref (ata 0)), (1, .int x1)] := hl0
  have hP := hP0
  have hD := hD0
  have hS := hS0
  unfold fX6_readQ_0 at hf
  refine lv_aload_n hx hb dX6_readQ_0 rfl (lv_at hl 0 rfl) ?_
  obtain ⟨r1, hg2, hf⟩ := b1_el hf
  refine cc_V (w' := ((kX6 cs ata (.ref (adr 0)) Ta) ++ ((kX3 cs adr  Dr)))) (wr := (kX3 cs adr  Dr)) (st1 := [.int r1]) [] hx hb hml hown hu (tX6_seesDigit l D cs ata adr Ta r1 hg2) q717 q60 q714 q716 q15 pdX6_seesDigit ⟨rfl, rfl, Nat.le_of_ble_eq_true rfl, Nat.le_of_ble_eq_true rfl⟩ hK hZ hP hD hS hA [0, 1] [2, 3, 4] [3, 4, 0, 1, 2] rfl rfl rfl rfl rfl rfl rfl rfl rfl rfl hl.1 rfl (Nat.le_of_ble_eq_true rfl) dX6_readQ_1 rfl (fun H locs hP hD hS => ?_)
  refine lv_if_eq (tgt := 14) hx hb dX6_readQ_4 (by decide) (fun hc3 => ?_) (fun hc3 => ?_)
  · have hf := ip_el hc3 hf
    refine lv_aload_n hx hb dX6_readQ_14 rfl (lv_at hl 0 rfl) ?_
    refine va_get (D := D) (ci := 6) (v := .int (Ta 0 4)) (C := RX6) (T := TX6) (N := 5) hx hb hu inX6 hown hK.1 hP 0 rfl rfl 4 (by decide) (hu _ q266) (fun _ h9 => h9) rfl dX6_readQ_15 ?_
    refine lv_if_ne (tgt := 78) hx hb dX6_readQ_18 (by decide) (fun hc4 => ?_) (fun hc4 => ?_)
    · have hf := in_el hc4 hf
      exact h78 x1 Ta Dr _ _ _ hP hD hS (lv_sub hl [0, 1] rfl) hf
    · have hf := ip_el hc4 hf
      refine lv_aload_n hx hb dX6_readQ_21 rfl (lv_at hl 0 rfl) ?_
      refine va_get (D := D) (ci := 6) (v := .int (Ta 0 3)) (C := RX6) (T := TX6) (N := 5) hx hb hu inX6 hown hK.1 hP 0 rfl rfl 3 (by decide) (hu _ q264) (fun _ h9 => h9) rfl dX6_readQ_22 ?_
      refine lv_aload_n hx hb dX6_readQ_25 rfl (lv_at hl 0 rfl) ?_
      refine va_get (D := D) (ci := 6) (v := .int (Ta 0 2)) (C := RX6) (T := TX6) (N := 5) hx hb hu inX6 hown hK.1 hP 0 rfl rfl 2 (by decide) (hu _ q262) (fun _ h9 => h9) rfl dX6_readQ_26 ?_
      refine lv_icmp_ge (tgt := 78) hx hb dX6_readQ_29 (by decide) (fun hc40 => ?_) (fun hc40 => ?_)
      · have hf := ip_el hc40 hf
        exact h78 x1 Ta Dr _ _ _ hP hD hS (lv_sub hl [0, 1] rfl) hf
      · have hf := in_el hc40 hf
        refine va_ldcS hx hb hown hZ.2.2.2.2.1 dX6_readQ_32 ?_
        refine lv_aload_n hx hb dX6_readQ_34 rfl (lv_at hl 0 rfl) ?_
        refine va_get (D := D) (ci := 6) (v := .ref (ata 1)) (C := RX6) (T := TX6) (N := 5) hx hb hu inX6 hown hK.1 hP 0 rfl rfl 0 (by decide) (hu _ q259) (fun _ h9 => h9) rfl dX6_readQ_35 ?_
        refine lv_aload_n hx hb dX6_readQ_38 rfl (lv_at hl 0 rfl) ?_
        refine va_get (D := D) (ci := 6) (v := .int (Ta 0 3)) (C := RX6) (T := TX6) (N := 5) hx hb hu inX6 hown hK.1 hP 0 rfl rfl 3 (by decide) (hu _ q264) (fun _ h9 => h9) rfl dX6_readQ_39 ?_
        obtain ⟨hi41, hf⟩ := ck_el hf
        refine va_cald hx hb hK.1 hP 1 2 rfl rfl hi41 dX6_readQ_42 ?_
        obtain ⟨r42, hg43, hf⟩ := b1_el hf
        refine cc_Z0 (st1 := [.int r42]) [.int (Ta 1 (Int32.toNatClampNeg (Ta 0 3)))] hx hb hml hown hu (tJ0_indexOf_0f7a4 l D cs (Ta 1 (Int32.toNatClampNeg (Ta 0 3))) r42 hg43) q730 q66 q727 q728 q729 pdJ0_indexOf_0f7a4 ⟨rfl, rfl, Nat.le_of_ble_eq_true rfl, Nat.le_of_ble_eq_true rfl⟩ hK hZ hP hD hS hA (vk_recv hZ.2.2.2.2.2 (i := 0) (by decide) hS) rfl hl.1 rfl (Nat.le_of_ble_eq_true rfl) dX6_readQ_43 rfl (fun H locs hP hD hS => ?_)
        refine lv_if_lt (tgt := 78) hx hb dX6_readQ_46 (by decide) (fun hc44 => ?_) (fun hc44 => ?_)
        · have hf := ip_el hc44 hf
          exact h78 x1 Ta Dr _ _ _ hP hD hS (lv_sub hl [0, 1] rfl) hf
        · have hf := in_el hc44 hf
          refine lv_aload_n hx hb dX6_readQ_49 rfl (lv_at hl 0 rfl) ?_
          refine va_get (D := D) (ci := 6) (v := .ref (adr 0)) (C := RX6) (T := TX6) (N := 5) hx hb hu inX6 hown hK.1 hP 0 rfl rfl 1 (by decide) (hu _ q260) (fun _ h9 => h9) rfl dX6_readQ_50 ?_
          refine lv_aload_n hx hb dX6_readQ_53 rfl (lv_at hl 0 rfl) ?_
          refine va_get (D := D) (ci := 6) (v := .ref (ata 1)) (C := RX6) (T := TX6) (N := 5) hx hb hu inX6 hown hK.1 hP 0 rfl rfl 0 (by decide) (hu _ q259) (fun _ h9 => h9) rfl dX6_readQ_54 ?_
          refine lv_aload_n hx hb dX6_readQ_57 rfl (lv_at hl 0 rfl) ?_
          refine va_get (D := D) (ci := 6) (v := .int (Ta 0 3)) (C := RX6) (T := TX6) (N := 5) hx hb hu inX6 hown hK.1 hP 0 rfl rfl 3 (by decide) (hu _ q264) (fun _ h9 => h9) rfl dX6_readQ_58 ?_
          obtain ⟨hi45, hf⟩ := ck_el hf
          refine va_cald hx hb hK.1 hP 1 2 rfl rfl hi45 dX6_readQ_61 ?_
          obtain ⟨Dr_46, hg47, hf⟩ := b1_el hf
          refine cc_V (w' := ((kX6 cs ata (.ref (adr 0)) Ta) ++ ((kX3 cs adr  Dr_46)))) (wr := (kX6 cs ata (.ref (adr 0)) Ta)) (st1 := []) [.int (Ta 1 (Int32.toNatClampNeg (Ta 0 3)))] hx hb hml hown hu (tX3_putSign l D cs adr (Ta 1 (Int32.toNatClampNeg (Ta 0 3))) Dr Dr_46 hg47) q816 q57 q813 q814 q815 pdX3_putSign ⟨rfl, rfl, Nat.le_of_ble_eq_true rfl, Nat.le_of_ble_eq_true rfl⟩ hK hZ hP hD hS hA [2, 3, 4] [0, 1] [0, 1, 2, 3, 4] rfl rfl rfl rfl rfl rfl rfl rfl rfl rfl hl.1 rfl (Nat.le_of_ble_eq_true rfl) dX6_readQ_62 rfl (fun H locs hP hD hS => ?_)
          refine lv_aload_n hx hb dX6_readQ_65 rfl (lv_at hl 0 rfl) ?_
          refine lv_dup hx hb dX6_readQ_66 rfl ?_
          refine va_get (D := D) (ci := 6) (v := .int (Ta 0 3)) (C := RX6) (T := TX6) (N := 5) hx hb hu inX6 hown hK.1 hP 0 rfl rfl 3 (by decide) (hu _ q264) (fun _ h9 => h9) rfl dX6_readQ_67 ?_
          refine lv_iconst (v := 1) hx hb dX6_readQ_70 (by decide) ?_
          refine lv_iadd hx hb dX6_readQ_71 ?_
          obtain ⟨Ta_48, hTa_48, hf⟩ := lt_el hf
          refine va_put (D := D) (ci := 6) (v := .int ((Ta 0 3) + 1)) (ty := .int) (C := RX6) (T := TX6) (N := 5) hx hb hu inX6 tyX6 tyX6_ok nmX6 hown hK.1 hP hD hS 0 rfl rfl 3 (by decide) (hu _ q264) (fun _ h9 => h9) rfl (by decide +kernel) rfl rfl (Nat.le_of_ble_eq_true rfl) dX6_readQ_72 (fun H locs hP hD hS => ?_)
          have hP : va_P D vwCl ((kX6 cs ata (.ref (adr 0)) Ta_48) ++ ((kX3 cs adr  Dr_46))) H := by rw [hTa_48]; exact hP
          have hD : va_D A ((kX6 cs ata (.ref (adr 0)) Ta_48) ++ ((kX3 cs adr  Dr_46))) := by rw [hTa_48]; exact hD
          refine lv_goto (tgt := 187) hx hb dX6_readQ_75 (by decide) ?_
          have he := Option.some.inj hf
          obtain ⟨e0, e1⟩ := Prod.mk.inj he
          exact hrv _ _ rfl rfl dX6_readQ_187 _ _ _ (by rw [e0, e1]) hP hD hS
  · have hf := in_el hc3 hf
    refine lv_aload_n hx hb dX6_readQ_7 rfl (lv_at hl 0 rfl) ?_
    obtain ⟨Ta_49, Dr_50, hg51, hf⟩ := b2_el hf
    refine cc_V1 (w' := ((kX6 cs ata (.ref (adr 0)) Ta_49) ++ ((kX3 cs adr  Dr_50)))) (st1 := []) [] hx hb hml hown hu (tX6_readNumber l D cs ata adr Ta Dr Ta_49 Dr_50 hg51) q721 q60 q718 q720 q16 pdX6_readNumber ⟨rfl, rfl, Nat.le_of_ble_eq_true rfl, Nat.le_of_ble_eq_true rfl⟩ hK hZ hP hD hS hA rfl rfl rfl rfl hl.1 rfl (Nat.le_of_ble_eq_true rfl) dX6_readQ_8 rfl (fun H locs hP hD hS => ?_)
    refine lv_goto (tgt := 187) hx hb dX6_readQ_11 (by decide) ?_
    have he := Option.some.inj hf
    obtain ⟨e0, e1⟩ := Prod.mk.inj he
    exact hrv _ _ rfl rfl dX6_readQ_187 _ _ _ (by rw [e0, e1]) hP hD hS

def fX6_readP_0_40 (k7 : Int32 → Int32 → ST → ST → Option (ST × ST)) (y1 : Int32) (y2 : Int32) (Ta : ST) (Dr : ST) : Option (ST × ST) :=
  dc_ck (Ta 0 3) 80 (dc_lt (Ta 1 (Int32.toNatClampNeg (Ta 0 3))) (fun v9 => dc_lt (sti Ta 0 3 ((Ta 0 3) + 1)) (fun Ta_10 => dc_b2 (fX6_readQ_0 y1 Ta_10 Dr) (fun Ta_11 Dr_12 => dc_b1 (fX3_putSign v9 Dr_12) (fun Dr_14 => dc_lt (y2 + 1) (fun v16 => k7 y1 v16 Ta_11 Dr_14))))))
def fX6_readP_0_7_s (k7 : Int32 → Int32 → ST → ST → Option (ST × ST)) (y1 : Int32) (y2 : Int32) (Ta : ST) (Dr : ST) : Option (ST × ST) :=
  (if 80 ≤ y2 then some (Ta, Dr) else dc_b1 (fX6_sees 42 Ta) (fun r5 => (if r5 = 0 then dc_b1 (fX6_sees 47 Ta) (fun r17 => (if r17 = 0 then dc_b1 (fX6_sees 37 Ta) (fun r20 => (if r20 = 0 then some (Ta, Dr) else fX6_readP_0_40 k7 y1 y2 Ta Dr)) else fX6_readP_0_40 k7 y1 y2 Ta Dr)) else fX6_readP_0_40 k7 y1 y2 Ta Dr)))
def fX6_readP_0_7 : Nat → Int32 → Int32 → ST → ST → Option (ST × ST)
  | 0 => fun _ _ _ _ => none
  | n + 1 => fX6_readP_0_7_s (fX6_readP_0_7 n)
def fX6_readP_0 (x1 : Int32) (Ta : ST) (Dr : ST) : Option (ST × ST) :=
  dc_b2 (fX6_readQ_0 x1 Ta Dr) (fun Ta_1 Dr_2 => fX6_readP_0_7 400 x1 0 Ta_1 Dr_2)
abbrev rmX6_readP_0 : Room := { frames := 35, cells := 0, slots := 0, locals := 792 }
set_option maxRecDepth 100000 in
set_option maxHeartbeats 4000000 in
theorem tX6_readP_0 (l : Launch) (D : va_G) (cs : Nat → ClassId) (ata : Nat → Nat) (adr : Nat → Nat) (x1 : Int32) (Ta : ST) (Dr : ST) (Taz : ST) (Drz : ST) (hf : fX6_readP_0 x1 Ta Dr = some (Taz, Drz)) : CG l yX6_readP (wsm yX6_readP cX6_readP 4 none) rmX6_readP_0 D cs [.ref (ata 0), .int x1] none ((kX6 cs ata (.ref (adr 0)) Ta) ++ ((kX3 cs adr  Dr))) ((kX6 cs ata (.ref (adr 0)) Taz) ++ ((kX3 cs adr  Drz))) := by
  refine CG.intro (by decide) (Nat.le_of_ble_eq_true rfl) ?_
  intro p e s m below meth c A Q hx hb hml hown hu hK hZ hP0 hD0 hS0 hA hri hrz hrl hrv hra ls0 hl0
  have h40 : ∀ (k7 : Int32 → Int32 → ST → ST → Option (ST × ST)), (∀ (y1 : Int32) (y2 : Int32) (Ta : ST) (Dr : ST) (H : Heap) (locs : List Loc) (ls : Array Slot), va_P D vwCl ((kX6 cs ata (.ref (adr 0)) Ta) ++ ((kX3 cs adr  Dr))) H → va_D A ((kX6 cs ata (.ref (adr 0)) Ta) ++ ((kX3 cs adr  Dr))) → va_S A s.heap H locs → lv_has ls 4 [(0, .ref (ata 0)), (1, .int y1), (2, .int y2)] → k7 y1 y2 Ta Dr = some (Taz, Drz) → W p l e rmX6_readP_0 s m [.ref (ata 0), .int x1].toArray below meth c H locs 0 0 Q (F0 m 7 ls [])) → ∀ (y1 : Int32) (y2 : Int32) (Ta : ST) (Dr : ST) (H : Heap) (locs : List Loc) (ls : Array Slot), va_P D vwCl ((kX6 cs ata (.ref (adr 0)) Ta) ++ ((kX3 cs adr  Dr))) H → va_D A ((kX6 cs ata (.ref (adr 0)) Ta) ++ ((kX3 cs adr  Dr))) → va_S A s.heap H locs → lv_has ls 4 [(0, .ref (ata 0)), (1, .int y1), (2, .int y2)] → fX6_readP_0_40 k7 y1 y2 Ta Dr = some (Taz, Drz) → W p l e rmX6_readP_0 s m [.ref (ata 0), .int x1].toArray below meth c H locs 0 0 Q (F0 m 40 ls []) := by
    intro k7 hk7 y1 y2 Ta Dr H locs ls hP hD hS hl hf
    unfold fX6_readP_0_40 at hf
    refine lv_aload_n hx hb dX6_readP_40 rfl (lv_at hl 0 rfl) ?_
    refine va_get (D := D) (ci := 6) (v := .ref (ata 1)) (C := RX6) (T := TX6) (N := 5) hx hb hu inX6 hown hK.1 hP 0 rfl rfl 0 (by decide) (hu _ q259) (fun _ h9 => h9) rfl dX6_readP_41 ?_
    refine lv_aload_n hx hb dX6_readP_44 rfl (lv_at hl 0 rfl) ?_
    refine va_get (D := D) (ci := 6) (v := .int (Ta 0 3)) (C := RX6) (T := TX6) (N := 5) hx hb hu inX6 hown hK.1 hP 0 rfl rfl 3 (by decide) (hu _ q264) (fun _ h9 => h9) rfl dX6_readP_45 ?_
    obtain ⟨hi8, hf⟩ := ck_el hf
    refine va_cald hx hb hK.1 hP 1 2 rfl rfl hi8 dX6_readP_48 ?_
    obtain ⟨v9, hv9, hf⟩ := lt_el hf
    refine lv_tope hv9 ?_
    refine lv_istore_n (lv' := [(3, .int v9), (0, .ref (ata 0)), (1, .int y1), (2, .int y2)]) hx hb dX6_readP_49 rfl hl (by decide) rfl (fun ls hl => ?_)
    refine lv_aload_n hx hb dX6_readP_50 rfl (lv_at hl 1 rfl) ?_
    refine lv_dup hx hb dX6_readP_51 rfl ?_
    refine va_get (D := D) (ci := 6) (v := .int (Ta 0 3)) (C := RX6) (T := TX6) (N := 5) hx hb hu inX6 hown hK.1 hP 0 rfl rfl 3 (by decide) (hu _ q264) (fun _ h9 => h9) rfl dX6_readP_52 ?_
    refine lv_iconst (v := 1) hx hb dX6_readP_55 (by decide) ?_
    refine lv_iadd hx hb dX6_readP_56 ?_
    obtain ⟨Ta_10, hTa_10, hf⟩ := lt_el hf
    refine va_put (D := D) (ci := 6) (v := .int ((Ta 0 3) + 1)) (ty := .int) (C := RX6) (T := TX6) (N := 5) hx hb hu inX6 tyX6 tyX6_ok nmX6 hown hK.1 hP hD hS 0 rfl rfl 3 (by decide) (hu _ q264) (fun _ h9 => h9) rfl (by decide +kernel) rfl rfl (Nat.le_of_ble_eq_true rfl) dX6_readP_57 (fun H locs hP hD hS => ?_)
    have hP : va_P D vwCl ((kX6 cs ata (.ref (adr 0)) Ta_10) ++ ((kX3 cs adr  Dr))) H := by rw [hTa_10]; exact hP
    have hD : va_D A ((kX6 cs ata (.ref (adr 0)) Ta_10) ++ ((kX3 cs adr  Dr))) := by rw [hTa_10]; exact hD
    refine lv_aload_n hx hb dX6_readP_60 rfl (lv_at hl 1 rfl) ?_
    refine lv_iload_n hx hb dX6_readP_61 rfl (lv_at hl 2 rfl) ?_
    obtain ⟨Ta_11, Dr_12, hg13, hf⟩ := b2_el hf
    refine cc_V1 (w' := ((kX6 cs ata (.ref (adr 0)) Ta_11) ++ ((kX3 cs adr  Dr_12)))) (st1 := []) [.int y1] hx hb hml hown hu (tX6_readQ_0 l D cs ata adr y1 Ta_10 Dr Ta_11 Dr_12 hg13) q713 q60 q710 q712 q14 pdX6_readQ ⟨rfl, rfl, Nat.le_of_ble_eq_true rfl, Nat.le_of_ble_eq_true rfl⟩ hK hZ hP hD hS hA rfl rfl rfl rfl hl.1 rfl (Nat.le_of_ble_eq_true rfl) dX6_readP_62 rfl (fun H locs hP hD hS => ?_)
    refine lv_aload_n hx hb dX6_readP_65 rfl (lv_at hl 1 rfl) ?_
    refine va_get (D := D) (ci := 6) (v := .ref (adr 0)) (C := RX6) (T := TX6) (N := 5) hx hb hu inX6 hown hK.1 hP 0 rfl rfl 1 (by decide) (hu _ q260) (fun _ h9 => h9) rfl dX6_readP_66 ?_
    refine lv_iload_n hx hb dX6_readP_69 rfl (lv_at hl 0 rfl) ?_
    obtain ⟨Dr_14, hg15, hf⟩ := b1_el hf
    refine cc_V (w' := ((kX6 cs ata (.ref (adr 0)) Ta_11) ++ ((kX3 cs adr  Dr_14)))) (wr := (kX6 cs ata (.ref (adr 0)) Ta_11)) (st1 := []) [.int v9] hx hb hml hown hu (tX3_putSign l D cs adr v9 Dr_12 Dr_14 hg15) q816 q57 q813 q814 q815 pdX3_putSign ⟨rfl, rfl, Nat.le_of_ble_eq_true rfl, Nat.le_of_ble_eq_true rfl⟩ hK hZ hP hD hS hA [2, 3, 4] [0, 1] [0, 1, 2, 3, 4] rfl rfl rfl rfl rfl rfl rfl rfl rfl rfl hl.1 rfl (Nat.le_of_ble_eq_true rfl) dX6_readP_70 rfl (fun H locs hP hD hS => ?_)
    obtain ⟨v16, hv16, hf⟩ := lt_el hf
    refine lv_iinc (v := v16) (lv' := [(2, .int v16), (3, .int v9), (0, .ref (ata 0)), (1, .int y1)]) hx hb dX6_readP_73 hl (k := 3) rfl (by rw [hv16]; rfl) (by decide) rfl (fun ls hl => ?_)
    refine lv_goto (tgt := 7) hx hb dX6_readP_76 (by decide) ?_
    exact hk7 y1 v16 Ta_11 Dr_14 _ _ _ hP hD hS (lv_sub hl [2, 3, 0] rfl) hf
  have hs7 : ∀ (k7 : Int32 → Int32 → ST → ST → Option (ST × ST)), (∀ (y1 : Int32) (y2 : Int32) (Ta : ST) (Dr : ST) (H : Heap) (locs : List Loc) (ls : Array Slot), va_P D vwCl ((kX6 cs ata (.ref (adr 0)) Ta) ++ ((kX3 cs adr  Dr))) H → va_D A ((kX6 cs ata (.ref (adr 0)) Ta) ++ ((kX3 cs adr  Dr))) → va_S A s.heap H locs → lv_has ls 4 [(0, .ref (ata 0)), (1, .int y1), (2, .int y2)] → k7 y1 y2 Ta Dr = some (Taz, Drz) → W p l e rmX6_readP_0 s m [.ref (ata 0), .int x1].toArray below meth c H locs 0 0 Q (F0 m 7 ls [])) → ∀ (y1 : Int32) (y2 : Int32) (Ta : ST) (Dr : ST) (H : Heap) (locs : List Loc) (ls : Array Slot), va_P D vwCl ((kX6 cs ata (.ref (adr 0)) Ta) ++ ((kX3 cs adr  Dr))) H → va_D A ((kX6 cs ata (.ref (adr 0)) Ta) ++ ((kX3 cs adr  Dr))) → va_S A s.heap H locs → lv_has ls 4 [(0, .ref (ata 0)), (1, .int y1), (2, .int y2)] → fX6_readP_0_7_s k7 y1 y2 Ta Dr = some (Taz, Drz) → W p l e rmX6_readP_0 s m [.ref (ata 0), .int x1].toArray below meth c H locs 0 0 Q (F0 m 7 ls []) := by
    intro k7 hk7 y1 y2 Ta Dr H locs ls hP hD hS hl hf
    unfold fX6_readP_0_7_s at hf
    refine lv_iload_n hx hb dX6_readP_7 rfl (lv_at hl 2 rfl) ?_
    refine lv_bipush (v := 80) hx hb dX6_readP_8 (by decide) ?_
    refine lv_icmp_ge (tgt := 79) hx hb dX6_readP_10 (by decide) (fun hc4 => ?_) (fun hc4 => ?_)
    · have hf := ip_el hc4 hf
      have he := Option.some.inj hf
      obtain ⟨e0, e1⟩ := Prod.mk.inj he
      exact hrv _ _ rfl rfl dX6_readP_79 _ _ _ (by rw [e0, e1]) hP hD hS
    · have hf := in_el hc4 hf
      refine lv_aload_n hx hb dX6_readP_13 rfl (lv_at hl 0 rfl) ?_
      refine lv_bipush (v := 42) hx hb dX6_readP_14 (by decide) ?_
      obtain ⟨r5, hg6, hf⟩ := b1_el hf
      refine cc_V (w' := ((kX6 cs ata (.ref (adr 0)) Ta) ++ ((kX3 cs adr  Dr)))) (wr := (kX3 cs adr  Dr)) (st1 := [.int r5]) [.int 42] hx hb hml hown hu (tX6_sees l D cs ata adr 42 Ta r5 hg6) q825 q60 q822 q824 q18 pdX6_sees ⟨rfl, rfl, Nat.le_of_ble_eq_true rfl, Nat.le_of_ble_eq_true rfl⟩ hK hZ hP hD hS hA [0, 1] [2, 3, 4] [3, 4, 0, 1, 2] rfl rfl rfl rfl rfl rfl rfl rfl rfl rfl hl.1 rfl (Nat.le_of_ble_eq_true rfl) dX6_readP_16 rfl (fun H locs hP hD hS => ?_)
      refine lv_if_ne (tgt := 40) hx hb dX6_readP_19 (by decide) (fun hc7 => ?_) (fun hc7 => ?_)
      · have hf := in_el hc7 hf
        exact h40 k7 hk7 y1 y2 Ta Dr _ _ _ hP hD hS (lv_sub hl [0, 1, 2] rfl) hf
      · have hf := ip_el hc7 hf
        refine lv_aload_n hx hb dX6_readP_22 rfl (lv_at hl 0 rfl) ?_
        refine lv_bipush (v := 47) hx hb dX6_readP_23 (by decide) ?_
        obtain ⟨r17, hg18, hf⟩ := b1_el hf
        refine cc_V (w' := ((kX6 cs ata (.ref (adr 0)) Ta) ++ ((kX3 cs adr  Dr)))) (wr := (kX3 cs adr  Dr)) (st1 := [.int r17]) [.int 47] hx hb hml hown hu (tX6_sees l D cs ata adr 47 Ta r17 hg18) q825 q60 q822 q824 q18 pdX6_sees ⟨rfl, rfl, Nat.le_of_ble_eq_true rfl, Nat.le_of_ble_eq_true rfl⟩ hK hZ hP hD hS hA [0, 1] [2, 3, 4] [3, 4, 0, 1, 2] rfl rfl rfl rfl rfl rfl rfl rfl rfl rfl hl.1 rfl (Nat.le_of_ble_eq_true rfl) dX6_readP_25 rfl (fun H locs hP hD hS => ?_)
        refine lv_if_ne (tgt := 40) hx hb dX6_readP_28 (by decide) (fun hc19 => ?_) (fun hc19 => ?_)
        · have hf := in_el hc19 hf
          exact h40 k7 hk7 y1 y2 Ta Dr _ _ _ hP hD hS (lv_sub hl [0, 1, 2] rfl) hf
        · have hf := ip_el hc19 hf
          refine lv_aload_n hx hb dX6_readP_31 rfl (lv_at hl 0 rfl) ?_
          refine lv_bipush (v := 37) hx hb dX6_readP_32 (by decide) ?_
          obtain ⟨r20, hg21, hf⟩ := b1_el hf
          refine cc_V (w' := ((kX6 cs ata (.ref (adr 0)) Ta) ++ ((kX3 cs adr  Dr)))) (wr := (kX3 cs adr  Dr)) (st1 := [.int r20]) [.int 37] hx hb hml hown hu (tX6_sees l D cs ata adr 37 Ta r20 hg21) q825 q60 q822 q824 q18 pdX6_sees ⟨rfl, rfl, Nat.le_of_ble_eq_true rfl, Nat.le_of_ble_eq_true rfl⟩ hK hZ hP hD hS hA [0, 1] [2, 3, 4] [3, 4, 0, 1, 2] rfl rfl rfl rfl rfl rfl rfl rfl rfl rfl hl.1 rfl (Nat.le_of_ble_eq_true rfl) dX6_readP_34 rfl (fun H locs hP hD hS => ?_)
          refine lv_if_eq (tgt := 79) hx hb dX6_readP_37 (by decide) (fun hc22 => ?_) (fun hc22 => ?_)
          · have hf := ip_el hc22 hf
            have he := Option.some.inj hf
            obtain ⟨e0, e1⟩ := Prod.mk.inj he
            exact hrv _ _ rfl rfl dX6_readP_79 _ _ _ (by rw [e0, e1]) hP hD hS
          · have hf := in_el hc22 hf
            exact h40 k7 hk7 y1 y2 Ta Dr _ _ _ hP hD hS (lv_sub hl [0, 1, 2] rfl) hf
  have h7 : ∀ (n : Nat), ∀ (y1 : Int32) (y2 : Int32) (Ta : ST) (Dr : ST) (H : Heap) (locs : List Loc) (ls : Array Slot), va_P D vwCl ((kX6 cs ata (.ref (adr 0)) Ta) ++ ((kX3 cs adr  Dr))) H → va_D A ((kX6 cs ata (.ref (adr 0)) Ta) ++ ((kX3 cs adr  Dr))) → va_S A s.heap H locs → lv_has ls 4 [(0, .ref (ata 0)), (1, .int y1), (2, .int y2)] → fX6_readP_0_7 n y1 y2 Ta Dr = some (Taz, Drz) → W p l e rmX6_readP_0 s m [.ref (ata 0), .int x1].toArray below meth c H locs 0 0 Q (F0 m 7 ls []) := by
    intro n
    induction n with
    | zero => intro y1 y2 Ta Dr H locs ls hP hD hS hl hf; exact no_el hf
    | succ n ih => intro y1 y2 Ta Dr H locs ls hP hD hS hl hf; exact hs7 _ ih y1 y2 Ta Dr _ _ _ hP hD hS hl hf
  have hl : lv_has ls0 4 [(0, .ref (ata 0)), (1, .int x1)] := hl0
  have hP := hP0
  have hD := hD0
  have hS := hS0
  unfold fX6_readP_0 at hf
  refine lv_aload_n hx hb dX6_readP_0 rfl (lv_at hl 0 rfl) ?_
  refine lv_iload_n hx hb dX6_readP_1 rfl (lv_at hl 1 rfl) ?_
  obtain ⟨Ta_1, Dr_2, hg3, hf⟩ := b2_el hf
  refine cc_V1 (w' := ((kX6 cs ata (.ref (adr 0)) Ta_1) ++ ((kX3 cs adr  Dr_2)))) (st1 := []) [.int x1] hx hb hml hown hu (tX6_readQ_0 l D cs ata adr x1 Ta Dr Ta_1 Dr_2 hg3) q713 q60 q710 q712 q14 pdX6_readQ ⟨rfl, rfl, Nat.le_of_ble_eq_true rfl, Nat.le_of_ble_eq_true rfl⟩ hK hZ hP hD hS hA rfl rfl rfl rfl hl.1 rfl (Nat.le_of_ble_eq_true rfl) dX6_readP_2 rfl (fun H locs hP hD hS => ?_)
  refine lv_iconst (v := 0) hx hb dX6_readP_5 (by decide) ?_
  refine lv_istore_n (lv' := [(2, .int 0), (0, .ref (ata 0)), (1, .int x1)]) hx hb dX6_readP_6 rfl hl (by decide) rfl (fun ls hl => ?_)
  exact h7 400 x1 0 Ta_1 Dr_2 _ _ _ hP hD hS (lv_sub hl [1, 2, 0] rfl) hf

def fX6_readS_0_31 (k7 : Int32 → Int32 → ST → ST → Option (ST × ST)) (y1 : Int32) (y2 : Int32) (Ta : ST) (Dr : ST) : Option (ST × ST) :=
  dc_ck (Ta 0 3) 80 (dc_lt (Ta 1 (Int32.toNatClampNeg (Ta 0 3))) (fun v9 => dc_lt (sti Ta 0 3 ((Ta 0 3) + 1)) (fun Ta_10 => dc_b2 (fX6_readP_0 y1 Ta_10 Dr) (fun Ta_11 Dr_12 => dc_b1 (fX3_putSign v9 Dr_12) (fun Dr_14 => dc_lt (y2 + 1) (fun v16 => k7 y1 v16 Ta_11 Dr_14))))))
def fX6_readS_0_7_s (k7 : Int32 → Int32 → ST → ST → Option (ST × ST)) (y1 : Int32) (y2 : Int32) (Ta : ST) (Dr : ST) : Option (ST × ST) :=
  (if 80 ≤ y2 then some (Ta, Dr) else dc_b1 (fX6_sees 43 Ta) (fun r5 => (if r5 = 0 then dc_b1 (fX6_sees 45 Ta) (fun r17 => (if r17 = 0 then some (Ta, Dr) else fX6_readS_0_31 k7 y1 y2 Ta Dr)) else fX6_readS_0_31 k7 y1 y2 Ta Dr)))
def fX6_readS_0_7 : Nat → Int32 → Int32 → ST → ST → Option (ST × ST)
  | 0 => fun _ _ _ _ => none
  | n + 1 => fX6_readS_0_7_s (fX6_readS_0_7 n)
def fX6_readS_0 (x1 : Int32) (Ta : ST) (Dr : ST) : Option (ST × ST) :=
  dc_b2 (fX6_readP_0 x1 Ta Dr) (fun Ta_1 Dr_2 => fX6_readS_0_7 400 x1 0 Ta_1 Dr_2)
abbrev rmX6_readS_0 : Room := { frames := 36, cells := 0, slots := 0, locals := 815 }
set_option maxRecDepth 100000 in
set_option maxHeartbeats 4000000 in
theorem tX6_readS_0 (l : Launch) (D : va_G) (cs : Nat → ClassId) (ata : Nat → Nat) (adr : Nat → Nat) (x1 : Int32) (Ta : ST) (Dr : ST) (Taz : ST) (Drz : ST) (hf : fX6_readS_0 x1 Ta Dr = some (Taz, Drz)) : CG l yX6_readS (wsm yX6_readS cX6_readS 4 none) rmX6_readS_0 D cs [.ref (ata 0), .int x1] none ((kX6 cs ata (.ref (adr 0)) Ta) ++ ((kX3 cs adr  Dr))) ((kX6 cs ata (.ref (adr 0)) Taz) ++ ((kX3 cs adr  Drz))) := by
  refine CG.intro (by decide) (Nat.le_of_ble_eq_true rfl) ?_
  intro p e s m below meth c A Q hx hb hml hown hu hK hZ hP0 hD0 hS0 hA hri hrz hrl hrv hra ls0 hl0
  have h31 : ∀ (k7 : Int32 → Int32 → ST → ST → Option (ST × ST)), (∀ (y1 : Int32) (y2 : Int32) (Ta : ST) (Dr : ST) (H : Heap) (locs : List Loc) (ls : Array Slot), va_P D vwCl ((kX6 cs ata (.ref (adr 0)) Ta) ++ ((kX3 cs adr  Dr))) H → va_D A ((kX6 cs ata (.ref (adr 0)) Ta) ++ ((kX3 cs adr  Dr))) → va_S A s.heap H locs → lv_has ls 4 [(0, .ref (ata 0)), (1, .int y1), (2, .int y2)] → k7 y1 y2 Ta Dr = some (Taz, Drz) → W p l e rmX6_readS_0 s m [.ref (ata 0), .int x1].toArray below meth c H locs 0 0 Q (F0 m 7 ls [])) → ∀ (y1 : Int32) (y2 : Int32) (Ta : ST) (Dr : ST) (H : Heap) (locs : List Loc) (ls : Array Slot), va_P D vwCl ((kX6 cs ata (.ref (adr 0)) Ta) ++ ((kX3 cs adr  Dr))) H → va_D A ((kX6 cs ata (.ref (adr 0)) Ta) ++ ((kX3 cs adr  Dr))) → va_S A s.heap H locs → lv_has ls 4 [(0, .ref (ata 0)), (1, .int y1), (2, .int y2)] → fX6_readS_0_31 k7 y1 y2 Ta Dr = some (Taz, Drz) → W p l e rmX6_readS_0 s m [.ref (ata 0), .int x1].toArray below meth c H locs 0 0 Q (F0 m 31 ls []) := by
    intro k7 hk7 y1 y2 Ta Dr H locs ls hP hD hS hl hf
    unfold fX6_readS_0_31 at hf
    refine lv_aload_n hx hb dX6_readS_31 rfl (lv_at hl 0 rfl) ?_
    refine va_get (D := D) (ci := 6) (v := .ref (ata 1)) (C := RX6) (T := TX6) (N := 5) hx hb hu inX6 hown hK.1 hP 0 rfl rfl 0 (by decide) (hu _ q259) (fun _ h9 => h9) rfl dX6_readS_32 ?_
    refine lv_aload_n hx hb dX6_readS_35 rfl (lv_at hl 0 rfl) ?_
    refine va_get (D := D) (ci := 6) (v := .int (Ta 0 3)) (C := RX6) (T := TX6) (N := 5) hx hb hu inX6 hown hK.1 hP 0 rfl rfl 3 (by decide) (hu _ q264) (fun _ h9 => h9) rfl dX6_readS_36 ?_
    obtain ⟨hi8, hf⟩ := ck_el hf
    refine va_cald hx hb hK.1 hP 1 2 rfl rfl hi8 dX6_readS_39 ?_
    obtain ⟨v9, hv9, hf⟩ := lt_el hf
    refine lv_tope hv9 ?_
    refine lv_istore_n (lv' := [(3, .int v9), (0, .ref (ata 0)), (1, .int y1), (2, .int y2)]) hx hb dX6_readS_40 rfl hl (by decide) rfl (fun ls hl => ?_)
    refine lv_aload_n hx hb dX6_readS_41 rfl (lv_at hl 1 rfl) ?_
    refine lv_dup hx hb dX6_readS_42 rfl ?_
    refine va_get (D := D) (ci := 6) (v := .int (Ta 0 3)) (C := RX6) (T := TX6) (N := 5) hx hb hu inX6 hown hK.1 hP 0 rfl rfl 3 (by decide) (hu _ q264) (fun _ h9 => h9) rfl dX6_readS_43 ?_
    refine lv_iconst (v := 1) hx hb dX6_readS_46 (by decide) ?_
    refine lv_iadd hx hb dX6_readS_47 ?_
    obtain ⟨Ta_10, hTa_10, hf⟩ := lt_el hf
    refine va_put (D := D) (ci := 6) (v := .int ((Ta 0 3) + 1)) (ty := .int) (C := RX6) (T := TX6) (N := 5) hx hb hu inX6 tyX6 tyX6_ok nmX6 hown hK.1 hP hD hS 0 rfl rfl 3 (by decide) (hu _ q264) (fun _ h9 => h9) rfl (by decide +kernel) rfl rfl (Nat.le_of_ble_eq_true rfl) dX6_readS_48 (fun H locs hP hD hS => ?_)
    have hP : va_P D vwCl ((kX6 cs ata (.ref (adr 0)) Ta_10) ++ ((kX3 cs adr  Dr))) H := by rw [hTa_10]; exact hP
    have hD : va_D A ((kX6 cs ata (.ref (adr 0)) Ta_10) ++ ((kX3 cs adr  Dr))) := by rw [hTa_10]; exact hD
    refine lv_aload_n hx hb dX6_readS_51 rfl (lv_at hl 1 rfl) ?_
    refine lv_iload_n hx hb dX6_readS_52 rfl (lv_at hl 2 rfl) ?_
    obtain ⟨Ta_11, Dr_12, hg13, hf⟩ := b2_el hf
    refine cc_V1 (w' := ((kX6 cs ata (.ref (adr 0)) Ta_11) ++ ((kX3 cs adr  Dr_12)))) (st1 := []) [.int y1] hx hb hml hown hu (tX6_readP_0 l D cs ata adr y1 Ta_10 Dr Ta_11 Dr_12 hg13) q709 q60 q706 q708 q13 pdX6_readP ⟨rfl, rfl, Nat.le_of_ble_eq_true rfl, Nat.le_of_ble_eq_true rfl⟩ hK hZ hP hD hS hA rfl rfl rfl rfl hl.1 rfl (Nat.le_of_ble_eq_true rfl) dX6_readS_53 rfl (fun H locs hP hD hS => ?_)
    refine lv_aload_n hx hb dX6_readS_56 rfl (lv_at hl 1 rfl) ?_
    refine va_get (D := D) (ci := 6) (v := .ref (adr 0)) (C := RX6) (T := TX6) (N := 5) hx hb hu inX6 hown hK.1 hP 0 rfl rfl 1 (by decide) (hu _ q260) (fun _ h9 => h9) rfl dX6_readS_57 ?_
    refine lv_iload_n hx hb dX6_readS_60 rfl (lv_at hl 0 rfl) ?_
    obtain ⟨Dr_14, hg15, hf⟩ := b1_el hf
    refine cc_V (w' := ((kX6 cs ata (.ref (adr 0)) Ta_11) ++ ((kX3 cs adr  Dr_14)))) (wr := (kX6 cs ata (.ref (adr 0)) Ta_11)) (st1 := []) [.int v9] hx hb hml hown hu (tX3_putSign l D cs adr v9 Dr_12 Dr_14 hg15) q816 q57 q813 q814 q815 pdX3_putSign ⟨rfl, rfl, Nat.le_of_ble_eq_true rfl, Nat.le_of_ble_eq_true rfl⟩ hK hZ hP hD hS hA [2, 3, 4] [0, 1] [0, 1, 2, 3, 4] rfl rfl rfl rfl rfl rfl rfl rfl rfl rfl hl.1 rfl (Nat.le_of_ble_eq_true rfl) dX6_readS_61 rfl (fun H locs hP hD hS => ?_)
    obtain ⟨v16, hv16, hf⟩ := lt_el hf
    refine lv_iinc (v := v16) (lv' := [(2, .int v16), (3, .int v9), (0, .ref (ata 0)), (1, .int y1)]) hx hb dX6_readS_64 hl (k := 3) rfl (by rw [hv16]; rfl) (by decide) rfl (fun ls hl => ?_)
    refine lv_goto (tgt := 7) hx hb dX6_readS_67 (by decide) ?_
    exact hk7 y1 v16 Ta_11 Dr_14 _ _ _ hP hD hS (lv_sub hl [2, 3, 0] rfl) hf
  have hs7 : ∀ (k7 : Int32 → Int32 → ST → ST → Option (ST × ST)), (∀ (y1 : Int32) (y2 : Int32) (Ta : ST) (Dr : ST) (H : Heap) (locs : List Loc) (ls : Array Slot), va_P D vwCl ((kX6 cs ata (.ref (adr 0)) Ta) ++ ((kX3 cs adr  Dr))) H → va_D A ((kX6 cs ata (.ref (adr 0)) Ta) ++ ((kX3 cs adr  Dr))) → va_S A s.heap H locs → lv_has ls 4 [(0, .ref (ata 0)), (1, .int y1), (2, .int y2)] → k7 y1 y2 Ta Dr = some (Taz, Drz) → W p l e rmX6_readS_0 s m [.ref (ata 0), .int x1].toArray below meth c H locs 0 0 Q (F0 m 7 ls [])) → ∀ (y1 : Int32) (y2 : Int32) (Ta : ST) (Dr : ST) (H : Heap) (locs : List Loc) (ls : Array Slot), va_P D vwCl ((kX6 cs ata (.ref (adr 0)) Ta) ++ ((kX3 cs adr  Dr))) H → va_D A ((kX6 cs ata (.ref (adr 0)) Ta) ++ ((kX3 cs adr  Dr))) → va_S A s.heap H locs → lv_has ls 4 [(0, .ref (ata 0)), (1, .int y1), (2, .int y2)] → fX6_readS_0_7_s k7 y1 y2 Ta Dr = some (Taz, Drz) → W p l e rmX6_readS_0 s m [.ref (ata 0), .int x1].toArray below meth c H locs 0 0 Q (F0 m 7 ls []) := by
    intro k7 hk7 y1 y2 Ta Dr H locs ls hP hD hS hl hf
    unfold fX6_readS_0_7_s at hf
    refine lv_iload_n hx hb dX6_readS_7 rfl (lv_at hl 2 rfl) ?_
    refine lv_bipush (v := 80) hx hb dX6_readS_8 (by decide) ?_
    refine lv_icmp_ge (tgt := 70) hx hb dX6_readS_10 (by decide) (fun hc4 => ?_) (fun hc4 => ?_)
    · have hf := ip_el hc4 hf
      have he := Option.some.inj hf
      obtain ⟨e0, e1⟩ := Prod.mk.inj he
      exact hrv _ _ rfl rfl dX6_readS_70 _ _ _ (by rw [e0, e1]) hP hD hS
    · have hf := in_el hc4 hf
      refine lv_aload_n hx hb dX6_readS_13 rfl (lv_at hl 0 rfl) ?_
      refine lv_bipush (v := 43) hx hb dX6_readS_14 (by decide) ?_
      obtain ⟨r5, hg6, hf⟩ := b1_el hf
      refine cc_V (w' := ((kX6 cs ata (.ref (adr 0)) Ta) ++ ((kX3 cs adr  Dr)))) (wr := (kX3 cs adr  Dr)) (st1 := [.int r5]) [.int 43] hx hb hml hown hu (tX6_sees l D cs ata adr 43 Ta r5 hg6) q825 q60 q822 q824 q18 pdX6_sees ⟨rfl, rfl, Nat.le_of_ble_eq_true rfl, Nat.le_of_ble_eq_true rfl⟩ hK hZ hP hD hS hA [0, 1] [2, 3, 4] [3, 4, 0, 1, 2] rfl rfl rfl rfl rfl rfl rfl rfl rfl rfl hl.1 rfl (Nat.le_of_ble_eq_true rfl) dX6_readS_16 rfl (fun H locs hP hD hS => ?_)
      refine lv_if_ne (tgt := 31) hx hb dX6_readS_19 (by decide) (fun hc7 => ?_) (fun hc7 => ?_)
      · have hf := in_el hc7 hf
        exact h31 k7 hk7 y1 y2 Ta Dr _ _ _ hP hD hS (lv_sub hl [0, 1, 2] rfl) hf
      · have hf := ip_el hc7 hf
        refine lv_aload_n hx hb dX6_readS_22 rfl (lv_at hl 0 rfl) ?_
        refine lv_bipush (v := 45) hx hb dX6_readS_23 (by decide) ?_
        obtain ⟨r17, hg18, hf⟩ := b1_el hf
        refine cc_V (w' := ((kX6 cs ata (.ref (adr 0)) Ta) ++ ((kX3 cs adr  Dr)))) (wr := (kX3 cs adr  Dr)) (st1 := [.int r17]) [.int 45] hx hb hml hown hu (tX6_sees l D cs ata adr 45 Ta r17 hg18) q825 q60 q822 q824 q18 pdX6_sees ⟨rfl, rfl, Nat.le_of_ble_eq_true rfl, Nat.le_of_ble_eq_true rfl⟩ hK hZ hP hD hS hA [0, 1] [2, 3, 4] [3, 4, 0, 1, 2] rfl rfl rfl rfl rfl rfl rfl rfl rfl rfl hl.1 rfl (Nat.le_of_ble_eq_true rfl) dX6_readS_25 rfl (fun H locs hP hD hS => ?_)
        refine lv_if_eq (tgt := 70) hx hb dX6_readS_28 (by decide) (fun hc19 => ?_) (fun hc19 => ?_)
        · have hf := ip_el hc19 hf
          have he := Option.some.inj hf
          obtain ⟨e0, e1⟩ := Prod.mk.inj he
          exact hrv _ _ rfl rfl dX6_readS_70 _ _ _ (by rw [e0, e1]) hP hD hS
        · have hf := in_el hc19 hf
          exact h31 k7 hk7 y1 y2 Ta Dr _ _ _ hP hD hS (lv_sub hl [0, 1, 2] rfl) hf
  have h7 : ∀ (n : Nat), ∀ (y1 : Int32) (y2 : Int32) (Ta : ST) (Dr : ST) (H : Heap) (locs : List Loc) (ls : Array Slot), va_P D vwCl ((kX6 cs ata (.ref (adr 0)) Ta) ++ ((kX3 cs adr  Dr))) H → va_D A ((kX6 cs ata (.ref (adr 0)) Ta) ++ ((kX3 cs adr  Dr))) → va_S A s.heap H locs → lv_has ls 4 [(0, .ref (ata 0)), (1, .int y1), (2, .int y2)] → fX6_readS_0_7 n y1 y2 Ta Dr = some (Taz, Drz) → W p l e rmX6_readS_0 s m [.ref (ata 0), .int x1].toArray below meth c H locs 0 0 Q (F0 m 7 ls []) := by
    intro n
    induction n with
    | zero => intro y1 y2 Ta Dr H locs ls hP hD hS hl hf; exact no_el hf
    | succ n ih => intro y1 y2 Ta Dr H locs ls hP hD hS hl hf; exact hs7 _ ih y1 y2 Ta Dr _ _ _ hP hD hS hl hf
  have hl : lv_has ls0 4 [(0, .ref (ata 0)), (1, .int x1)] := hl0
  have hP := hP0
  have hD := hD0
  have hS := hS0
  unfold fX6_readS_0 at hf
  refine lv_aload_n hx hb dX6_readS_0 rfl (lv_at hl 0 rfl) ?_
  refine lv_iload_n hx hb dX6_readS_1 rfl (lv_at hl 1 rfl) ?_
  obtain ⟨Ta_1, Dr_2, hg3, hf⟩ := b2_el hf
  refine cc_V1 (w' := ((kX6 cs ata (.ref (adr 0)) Ta_1) ++ ((kX3 cs adr  Dr_2)))) (st1 := []) [.int x1] hx hb hml hown hu (tX6_readP_0 l D cs ata adr x1 Ta Dr Ta_1 Dr_2 hg3) q709 q60 q706 q708 q13 pdX6_readP ⟨rfl, rfl, Nat.le_of_ble_eq_true rfl, Nat.le_of_ble_eq_true rfl⟩ hK hZ hP hD hS hA rfl rfl rfl rfl hl.1 rfl (Nat.le_of_ble_eq_true rfl) dX6_readS_2 rfl (fun H locs hP hD hS => ?_)
  refine lv_iconst (v := 0) hx hb dX6_readS_5 (by decide) ?_
  refine lv_istore_n (lv' := [(2, .int 0), (0, .ref (ata 0)), (1, .int x1)]) hx hb dX6_readS_6 rfl hl (by decide) rfl (fun ls hl => ?_)
  exact h7 400 x1 0 Ta_1 Dr_2 _ _ _ hP hD hS (lv_sub hl [1, 2, 0] rfl) hf

def fX6_readB_0_32 (y1 : Int32) (Ta : ST) (Dr : ST) : Option (ST × ST) :=
  dc_ck (Ta 0 3) 80 (dc_lt (Ta 1 (Int32.toNatClampNeg (Ta 0 3))) (fun v8 => dc_lt (sti Ta 0 3 ((Ta 0 3) + 1)) (fun Ta_9 => dc_b2 (fX6_readS_0 y1 Ta_9 Dr) (fun Ta_10 Dr_11 => dc_b1 (fX3_putSign v8 Dr_11) (fun Dr_13 => some (Ta_10, Dr_13))))))
def fX6_readB_0 (x1 : Int32) (Ta : ST) (Dr : ST) : Option (ST × ST) :=
  dc_b2 (fX6_readS_0 x1 Ta Dr) (fun Ta_1 Dr_2 => dc_b1 (fX6_sees 60 Ta_1) (fun r4 => (if r4 = 0 then dc_b1 (fX6_sees 61 Ta_1) (fun r15 => (if r15 = 0 then dc_b1 (fX6_sees 62 Ta_1) (fun r18 => (if r18 = 0 then some (Ta_1, Dr_2) else fX6_readB_0_32 x1 Ta_1 Dr_2)) else fX6_readB_0_32 x1 Ta_1 Dr_2)) else fX6_readB_0_32 x1 Ta_1 Dr_2)))
abbrev rmX6_readB_0 : Room := { frames := 37, cells := 0, slots := 0, locals := 838 }
set_option maxRecDepth 100000 in
set_option maxHeartbeats 4000000 in
theorem tX6_readB_0 (l : Launch) (D : va_G) (cs : Nat → ClassId) (ata : Nat → Nat) (adr : Nat → Nat) (x1 : Int32) (Ta : ST) (Dr : ST) (Taz : ST) (Drz : ST) (hf : fX6_readB_0 x1 Ta Dr = some (Taz, Drz)) : CG l yX6_readB (wsm yX6_readB cX6_readB 3 none) rmX6_readB_0 D cs [.ref (ata 0), .int x1] none ((kX6 cs ata (.ref (adr 0)) Ta) ++ ((kX3 cs adr  Dr))) ((kX6 cs ata (.ref (adr 0)) Taz) ++ ((kX3 cs adr  Drz))) := by
  refine CG.intro (by decide) (Nat.le_of_ble_eq_true rfl) ?_
  intro p e s m below meth c A Q hx hb hml hown hu hK hZ hP0 hD0 hS0 hA hri hrz hrl hrv hra ls0 hl0
  have h32 : ∀ (y1 : Int32) (Ta : ST) (Dr : ST) (H : Heap) (locs : List Loc) (ls : Array Slot), va_P D vwCl ((kX6 cs ata (.ref (adr 0)) Ta) ++ ((kX3 cs adr  Dr))) H → va_D A ((kX6 cs ata (.ref (adr 0)) Ta) ++ ((kX3 cs adr  Dr))) → va_S A s.heap H locs → lv_has ls 3 [(0, .ref (ata 0)), (1, .int y1)] → fX6_readB_0_32 y1 Ta Dr = some (Taz, Drz) → W p l e rmX6_readB_0 s m [.ref (ata 0), .int x1].toArray below meth c H locs 0 0 Q (F0 m 32 ls []) := by
    intro y1 Ta Dr H locs ls hP hD hS hl hf
    unfold fX6_readB_0_32 at hf
    refine lv_aload_n hx hb dX6_readB_32 rfl (lv_at hl 0 rfl) ?_
    refine va_get (D := D) (ci := 6) (v := .ref (ata 1)) (C := RX6) (T := TX6) (N := 5) hx hb hu inX6 hown hK.1 hP 0 rfl rfl 0 (by decide) (hu _ q259) (fun _ h9 => h9) rfl dX6_readB_33 ?_
    refine lv_aload_n hx hb dX6_readB_36 rfl (lv_at hl 0 rfl) ?_
    refine va_get (D := D) (ci := 6) (v := .int (Ta 0 3)) (C := RX6) (T := TX6) (N := 5) hx hb hu inX6 hown hK.1 hP 0 rfl rfl 3 (by decide) (hu _ q264) (fun _ h9 => h9) rfl dX6_readB_37 ?_
    obtain ⟨hi7, hf⟩ := ck_el hf
    refine va_cald hx hb hK.1 hP 1 2 rfl rfl hi7 dX6_readB_40 ?_
    obtain ⟨v8, hv8, hf⟩ := lt_el hf
    refine lv_tope hv8 ?_
    refine lv_istore_n (lv' := [(2, .int v8), (0, .ref (ata 0)), (1, .int y1)]) hx hb dX6_readB_41 rfl hl (by decide) rfl (fun ls hl => ?_)
    refine lv_aload_n hx hb dX6_readB_42 rfl (lv_at hl 1 rfl) ?_
    refine lv_dup hx hb dX6_readB_43 rfl ?_
    refine va_get (D := D) (ci := 6) (v := .int (Ta 0 3)) (C := RX6) (T := TX6) (N := 5) hx hb hu inX6 hown hK.1 hP 0 rfl rfl 3 (by decide) (hu _ q264) (fun _ h9 => h9) rfl dX6_readB_44 ?_
    refine lv_iconst (v := 1) hx hb dX6_readB_47 (by decide) ?_
    refine lv_iadd hx hb dX6_readB_48 ?_
    obtain ⟨Ta_9, hTa_9, hf⟩ := lt_el hf
    refine va_put (D := D) (ci := 6) (v := .int ((Ta 0 3) + 1)) (ty := .int) (C := RX6) (T := TX6) (N := 5) hx hb hu inX6 tyX6 tyX6_ok nmX6 hown hK.1 hP hD hS 0 rfl rfl 3 (by decide) (hu _ q264) (fun _ h9 => h9) rfl (by decide +kernel) rfl rfl (Nat.le_of_ble_eq_true rfl) dX6_readB_49 (fun H locs hP hD hS => ?_)
    have hP : va_P D vwCl ((kX6 cs ata (.ref (adr 0)) Ta_9) ++ ((kX3 cs adr  Dr))) H := by rw [hTa_9]; exact hP
    have hD : va_D A ((kX6 cs ata (.ref (adr 0)) Ta_9) ++ ((kX3 cs adr  Dr))) := by rw [hTa_9]; exact hD
    refine lv_aload_n hx hb dX6_readB_52 rfl (lv_at hl 1 rfl) ?_
    refine lv_iload_n hx hb dX6_readB_53 rfl (lv_at hl 2 rfl) ?_
    obtain ⟨Ta_10, Dr_11, hg12, hf⟩ := b2_el hf
    refine cc_V1 (w' := ((kX6 cs ata (.ref (adr 0)) Ta_10) ++ ((kX3 cs adr  Dr_11)))) (st1 := []) [.int y1] hx hb hml hown hu (tX6_readS_0 l D cs ata adr y1 Ta_9 Dr Ta_10 Dr_11 hg12) q705 q60 q702 q704 q12 pdX6_readS ⟨rfl, rfl, Nat.le_of_ble_eq_true rfl, Nat.le_of_ble_eq_true rfl⟩ hK hZ hP hD hS hA rfl rfl rfl rfl hl.1 rfl (Nat.le_of_ble_eq_true rfl) dX6_readB_54 rfl (fun H locs hP hD hS => ?_)
    refine lv_aload_n hx hb dX6_readB_57 rfl (lv_at hl 1 rfl) ?_
    refine va_get (D := D) (ci := 6) (v := .ref (adr 0)) (C := RX6) (T := TX6) (N := 5) hx hb hu inX6 hown hK.1 hP 0 rfl rfl 1 (by decide) (hu _ q260) (fun _ h9 => h9) rfl dX6_readB_58 ?_
    refine lv_iload_n hx hb dX6_readB_61 rfl (lv_at hl 0 rfl) ?_
    obtain ⟨Dr_13, hg14, hf⟩ := b1_el hf
    refine cc_V (w' := ((kX6 cs ata (.ref (adr 0)) Ta_10) ++ ((kX3 cs adr  Dr_13)))) (wr := (kX6 cs ata (.ref (adr 0)) Ta_10)) (st1 := []) [.int v8] hx hb hml hown hu (tX3_putSign l D cs adr v8 Dr_11 Dr_13 hg14) q816 q57 q813 q814 q815 pdX3_putSign ⟨rfl, rfl, Nat.le_of_ble_eq_true rfl, Nat.le_of_ble_eq_true rfl⟩ hK hZ hP hD hS hA [2, 3, 4] [0, 1] [0, 1, 2, 3, 4] rfl rfl rfl rfl rfl rfl rfl rfl rfl rfl hl.1 rfl (Nat.le_of_ble_eq_true rfl) dX6_readB_62 rfl (fun H locs hP hD hS => ?_)
    have he := Option.some.inj hf
    obtain ⟨e0, e1⟩ := Prod.mk.inj he
    exact hrv _ _ rfl rfl dX6_readB_65 _ _ _ (by rw [e0, e1]) hP hD hS
  have hl : lv_has ls0 3 [(0, .ref (ata 0)), (1, .int x1)] := hl0
  have hP := hP0
  have hD := hD0
  have hS := hS0
  unfold fX6_readB_0 at hf
  refine lv_aload_n hx hb dX6_readB_0 rfl (lv_at hl 0 rfl) ?_
  refine lv_iload_n hx hb dX6_readB_1 rfl (lv_at hl 1 rfl) ?_
  obtain ⟨Ta_1, Dr_2, hg3, hf⟩ := b2_el hf
  refine cc_V1 (w' := ((kX6 cs ata (.ref (adr 0)) Ta_1) ++ ((kX3 cs adr  Dr_2)))) (st1 := []) [.int x1] hx hb hml hown hu (tX6_readS_0 l D cs ata adr x1 Ta Dr Ta_1 Dr_2 hg3) q705 q60 q702 q704 q12 pdX6_readS ⟨rfl, rfl, Nat.le_of_ble_eq_true rfl, Nat.le_of_ble_eq_true rfl⟩ hK hZ hP hD hS hA rfl rfl rfl rfl hl.1 rfl (Nat.le_of_ble_eq_true rfl) dX6_readB_2 rfl (fun H locs hP hD hS => ?_)
  refine lv_aload_n hx hb dX6_readB_5 rfl (lv_at hl 0 rfl) ?_
  refine lv_bipush (v := 60) hx hb dX6_readB_6 (by decide) ?_
  obtain ⟨r4, hg5, hf⟩ := b1_el hf
  refine cc_V (w' := ((kX6 cs ata (.ref (adr 0)) Ta_1) ++ ((kX3 cs adr  Dr_2)))) (wr := (kX3 cs adr  Dr_2)) (st1 := [.int r4]) [.int 60] hx hb hml hown hu (tX6_sees l D cs ata adr 60 Ta_1 r4 hg5) q825 q60 q822 q824 q18 pdX6_sees ⟨rfl, rfl, Nat.le_of_ble_eq_true rfl, Nat.le_of_ble_eq_true rfl⟩ hK hZ hP hD hS hA [0, 1] [2, 3, 4] [3, 4, 0, 1, 2] rfl rfl rfl rfl rfl rfl rfl rfl rfl rfl hl.1 rfl (Nat.le_of_ble_eq_true rfl) dX6_readB_8 rfl (fun H locs hP hD hS => ?_)
  refine lv_if_ne (tgt := 32) hx hb dX6_readB_11 (by decide) (fun hc6 => ?_) (fun hc6 => ?_)
  · have hf := in_el hc6 hf
    exact h32 x1 Ta_1 Dr_2 _ _ _ hP hD hS (lv_sub hl [0, 1] rfl) hf
  · have hf := ip_el hc6 hf
    refine lv_aload_n hx hb dX6_readB_14 rfl (lv_at hl 0 rfl) ?_
    refine lv_bipush (v := 61) hx hb dX6_readB_15 (by decide) ?_
    obtain ⟨r15, hg16, hf⟩ := b1_el hf
    refine cc_V (w' := ((kX6 cs ata (.ref (adr 0)) Ta_1) ++ ((kX3 cs adr  Dr_2)))) (wr := (kX3 cs adr  Dr_2)) (st1 := [.int r15]) [.int 61] hx hb hml hown hu (tX6_sees l D cs ata adr 61 Ta_1 r15 hg16) q825 q60 q822 q824 q18 pdX6_sees ⟨rfl, rfl, Nat.le_of_ble_eq_true rfl, Nat.le_of_ble_eq_true rfl⟩ hK hZ hP hD hS hA [0, 1] [2, 3, 4] [3, 4, 0, 1, 2] rfl rfl rfl rfl rfl rfl rfl rfl rfl rfl hl.1 rfl (Nat.le_of_ble_eq_true rfl) dX6_readB_17 rfl (fun H locs hP hD hS => ?_)
    refine lv_if_ne (tgt := 32) hx hb dX6_readB_20 (by decide) (fun hc17 => ?_) (fun hc17 => ?_)
    · have hf := in_el hc17 hf
      exact h32 x1 Ta_1 Dr_2 _ _ _ hP hD hS (lv_sub hl [0, 1] rfl) hf
    · have hf := ip_el hc17 hf
      refine lv_aload_n hx hb dX6_readB_23 rfl (lv_at hl 0 rfl) ?_
      refine lv_bipush (v := 62) hx hb dX6_readB_24 (by decide) ?_
      obtain ⟨r18, hg19, hf⟩ := b1_el hf
      refine cc_V (w' := ((kX6 cs ata (.ref (adr 0)) Ta_1) ++ ((kX3 cs adr  Dr_2)))) (wr := (kX3 cs adr  Dr_2)) (st1 := [.int r18]) [.int 62] hx hb hml hown hu (tX6_sees l D cs ata adr 62 Ta_1 r18 hg19) q825 q60 q822 q824 q18 pdX6_sees ⟨rfl, rfl, Nat.le_of_ble_eq_true rfl, Nat.le_of_ble_eq_true rfl⟩ hK hZ hP hD hS hA [0, 1] [2, 3, 4] [3, 4, 0, 1, 2] rfl rfl rfl rfl rfl rfl rfl rfl rfl rfl hl.1 rfl (Nat.le_of_ble_eq_true rfl) dX6_readB_26 rfl (fun H locs hP hD hS => ?_)
      refine lv_if_eq (tgt := 65) hx hb dX6_readB_29 (by decide) (fun hc20 => ?_) (fun hc20 => ?_)
      · have hf := ip_el hc20 hf
        have he := Option.some.inj hf
        obtain ⟨e0, e1⟩ := Prod.mk.inj he
        exact hrv _ _ rfl rfl dX6_readB_65 _ _ _ (by rw [e0, e1]) hP hD hS
      · have hf := in_el hc20 hf
        exact h32 x1 Ta_1 Dr_2 _ _ _ hP hD hS (lv_sub hl [0, 1] rfl) hf

def fX6_readA_0_7_s (k7 : Int32 → Int32 → ST → ST → Option (ST × ST)) (y1 : Int32) (y2 : Int32) (Ta : ST) (Dr : ST) : Option (ST × ST) :=
  (if 80 ≤ y2 then some (Ta, Dr) else dc_b2 (fX6_takes 38 Ta) (fun r5 Ta_6 => (if r5 = 0 then some (Ta_6, Dr) else dc_b2 (fX6_readB_0 y1 Ta_6 Dr) (fun Ta_9 Dr_10 => dc_b1 (fX3_putSign 38 Dr_10) (fun Dr_12 => dc_lt (y2 + 1) (fun v14 => k7 y1 v14 Ta_9 Dr_12))))))
def fX6_readA_0_7 : Nat → Int32 → Int32 → ST → ST → Option (ST × ST)
  | 0 => fun _ _ _ _ => none
  | n + 1 => fX6_readA_0_7_s (fX6_readA_0_7 n)
def fX6_readA_0 (x1 : Int32) (Ta : ST) (Dr : ST) : Option (ST × ST) :=
  dc_b2 (fX6_readB_0 x1 Ta Dr) (fun Ta_1 Dr_2 => fX6_readA_0_7 400 x1 0 Ta_1 Dr_2)
abbrev rmX6_readA_0 : Room := { frames := 38, cells := 0, slots := 0, locals := 860 }
set_option maxRecDepth 100000 in
set_option maxHeartbeats 4000000 in
theorem tX6_readA_0 (l : Launch) (D : va_G) (cs : Nat → ClassId) (ata : Nat → Nat) (adr : Nat → Nat) (x1 : Int32) (Ta : ST) (Dr : ST) (Taz : ST) (Drz : ST) (hf : fX6_readA_0 x1 Ta Dr = some (Taz, Drz)) : CG l yX6_readA (wsm yX6_readA cX6_readA 3 none) rmX6_readA_0 D cs [.ref (ata 0), .int x1] none ((kX6 cs ata (.ref (adr 0)) Ta) ++ ((kX3 cs adr  Dr))) ((kX6 cs ata (.ref (adr 0)) Taz) ++ ((kX3 cs adr  Drz))) := by
  refine CG.intro (by decide) (Nat.le_of_ble_eq_true rfl) ?_
  intro p e s m below meth c A Q hx hb hml hown hu hK hZ hP0 hD0 hS0 hA hri hrz hrl hrv hra ls0 hl0
  have hs7 : ∀ (k7 : Int32 → Int32 → ST → ST → Option (ST × ST)), (∀ (y1 : Int32) (y2 : Int32) (Ta : ST) (Dr : ST) (H : Heap) (locs : List Loc) (ls : Array Slot), va_P D vwCl ((kX6 cs ata (.ref (adr 0)) Ta) ++ ((kX3 cs adr  Dr))) H → va_D A ((kX6 cs ata (.ref (adr 0)) Ta) ++ ((kX3 cs adr  Dr))) → va_S A s.heap H locs → lv_has ls 3 [(0, .ref (ata 0)), (1, .int y1), (2, .int y2)] → k7 y1 y2 Ta Dr = some (Taz, Drz) → W p l e rmX6_readA_0 s m [.ref (ata 0), .int x1].toArray below meth c H locs 0 0 Q (F0 m 7 ls [])) → ∀ (y1 : Int32) (y2 : Int32) (Ta : ST) (Dr : ST) (H : Heap) (locs : List Loc) (ls : Array Slot), va_P D vwCl ((kX6 cs ata (.ref (adr 0)) Ta) ++ ((kX3 cs adr  Dr))) H → va_D A ((kX6 cs ata (.ref (adr 0)) Ta) ++ ((kX3 cs adr  Dr))) → va_S A s.heap H locs → lv_has ls 3 [(0, .ref (ata 0)), (1, .int y1), (2, .int y2)] → fX6_readA_0_7_s k7 y1 y2 Ta Dr = some (Taz, Drz) → W p l e rmX6_readA_0 s m [.ref (ata 0), .int x1].toArray below meth c H locs 0 0 Q (F0 m 7 ls []) := by
    intro k7 hk7 y1 y2 Ta Dr H locs ls hP hD hS hl hf
    unfold fX6_readA_0_7_s at hf
    refine lv_iload_n hx hb dX6_readA_7 rfl (lv_at hl 2 rfl) ?_
    refine lv_bipush (v := 80) hx hb dX6_readA_8 (by decide) ?_
    refine lv_icmp_ge (tgt := 42) hx hb dX6_readA_10 (by decide) (fun hc4 => ?_) (fun hc4 => ?_)
    · have hf := ip_el hc4 hf
      have he := Option.some.inj hf
      obtain ⟨e0, e1⟩ := Prod.mk.inj he
      exact hrv _ _ rfl rfl dX6_readA_42 _ _ _ (by rw [e0, e1]) hP hD hS
    · have hf := in_el hc4 hf
      refine lv_aload_n hx hb dX6_readA_13 rfl (lv_at hl 0 rfl) ?_
      refine lv_bipush (v := 38) hx hb dX6_readA_14 (by decide) ?_
      obtain ⟨r5, Ta_6, hg7, hf⟩ := b2_el hf
      refine cc_V (w' := ((kX6 cs ata (.ref (adr 0)) Ta_6) ++ ((kX3 cs adr  Dr)))) (wr := (kX3 cs adr  Dr)) (st1 := [.int r5]) [.int 38] hx hb hml hown hu (tX6_takes l D cs ata adr 38 Ta r5 Ta_6 hg7) q821 q60 q818 q820 q17 pdX6_takes ⟨rfl, rfl, Nat.le_of_ble_eq_true rfl, Nat.le_of_ble_eq_true rfl⟩ hK hZ hP hD hS hA [0, 1] [2, 3, 4] [3, 4, 0, 1, 2] rfl rfl rfl rfl rfl rfl rfl rfl rfl rfl hl.1 rfl (Nat.le_of_ble_eq_true rfl) dX6_readA_16 rfl (fun H locs hP hD hS => ?_)
      refine lv_if_eq (tgt := 42) hx hb dX6_readA_19 (by decide) (fun hc8 => ?_) (fun hc8 => ?_)
      · have hf := ip_el hc8 hf
        have he := Option.some.inj hf
        obtain ⟨e0, e1⟩ := Prod.mk.inj he
        exact hrv _ _ rfl rfl dX6_readA_42 _ _ _ (by rw [e0, e1]) hP hD hS
      · have hf := in_el hc8 hf
        refine lv_aload_n hx hb dX6_readA_22 rfl (lv_at hl 0 rfl) ?_
        refine lv_iload_n hx hb dX6_readA_23 rfl (lv_at hl 1 rfl) ?_
        obtain ⟨Ta_9, Dr_10, hg11, hf⟩ := b2_el hf
        refine cc_V1 (w' := ((kX6 cs ata (.ref (adr 0)) Ta_9) ++ ((kX3 cs adr  Dr_10)))) (st1 := []) [.int y1] hx hb hml hown hu (tX6_readB_0 l D cs ata adr y1 Ta_6 Dr Ta_9 Dr_10 hg11) q701 q60 q698 q700 q11 pdX6_readB ⟨rfl, rfl, Nat.le_of_ble_eq_true rfl, Nat.le_of_ble_eq_true rfl⟩ hK hZ hP hD hS hA rfl rfl rfl rfl hl.1 rfl (Nat.le_of_ble_eq_true rfl) dX6_readA_24 rfl (fun H locs hP hD hS => ?_)
        refine lv_aload_n hx hb dX6_readA_27 rfl (lv_at hl 0 rfl) ?_
        refine va_get (D := D) (ci := 6) (v := .ref (adr 0)) (C := RX6) (T := TX6) (N := 5) hx hb hu inX6 hown hK.1 hP 0 rfl rfl 1 (by decide) (hu _ q260) (fun _ h9 => h9) rfl dX6_readA_28 ?_
        refine lv_bipush (v := 38) hx hb dX6_readA_31 (by decide) ?_
        obtain ⟨Dr_12, hg13, hf⟩ := b1_el hf
        refine cc_V (w' := ((kX6 cs ata (.ref (adr 0)) Ta_9) ++ ((kX3 cs adr  Dr_12)))) (wr := (kX6 cs ata (.ref (adr 0)) Ta_9)) (st1 := []) [.int 38] hx hb hml hown hu (tX3_putSign l D cs adr 38 Dr_10 Dr_12 hg13) q816 q57 q813 q814 q815 pdX3_putSign ⟨rfl, rfl, Nat.le_of_ble_eq_true rfl, Nat.le_of_ble_eq_true rfl⟩ hK hZ hP hD hS hA [2, 3, 4] [0, 1] [0, 1, 2, 3, 4] rfl rfl rfl rfl rfl rfl rfl rfl rfl rfl hl.1 rfl (Nat.le_of_ble_eq_true rfl) dX6_readA_33 rfl (fun H locs hP hD hS => ?_)
        obtain ⟨v14, hv14, hf⟩ := lt_el hf
        refine lv_iinc (v := v14) (lv' := [(2, .int v14), (0, .ref (ata 0)), (1, .int y1)]) hx hb dX6_readA_36 hl (k := 2) rfl (by rw [hv14]; rfl) (by decide) rfl (fun ls hl => ?_)
        refine lv_goto (tgt := 7) hx hb dX6_readA_39 (by decide) ?_
        exact hk7 y1 v14 Ta_9 Dr_12 _ _ _ hP hD hS (lv_sub hl [1, 2, 0] rfl) hf
  have h7 : ∀ (n : Nat), ∀ (y1 : Int32) (y2 : Int32) (Ta : ST) (Dr : ST) (H : Heap) (locs : List Loc) (ls : Array Slot), va_P D vwCl ((kX6 cs ata (.ref (adr 0)) Ta) ++ ((kX3 cs adr  Dr))) H → va_D A ((kX6 cs ata (.ref (adr 0)) Ta) ++ ((kX3 cs adr  Dr))) → va_S A s.heap H locs → lv_has ls 3 [(0, .ref (ata 0)), (1, .int y1), (2, .int y2)] → fX6_readA_0_7 n y1 y2 Ta Dr = some (Taz, Drz) → W p l e rmX6_readA_0 s m [.ref (ata 0), .int x1].toArray below meth c H locs 0 0 Q (F0 m 7 ls []) := by
    intro n
    induction n with
    | zero => intro y1 y2 Ta Dr H locs ls hP hD hS hl hf; exact no_el hf
    | succ n ih => intro y1 y2 Ta Dr H locs ls hP hD hS hl hf; exact hs7 _ ih y1 y2 Ta Dr _ _ _ hP hD hS hl hf
  have hl : lv_has ls0 3 [(0, .ref (ata 0)), (1, .int x1)] := hl0
  have hP := hP0
  have hD := hD0
  have hS := hS0
  unfold fX6_readA_0 at hf
  refine lv_aload_n hx hb dX6_readA_0 rfl (lv_at hl 0 rfl) ?_
  refine lv_iload_n hx hb dX6_readA_1 rfl (lv_at hl 1 rfl) ?_
  obtain ⟨Ta_1, Dr_2, hg3, hf⟩ := b2_el hf
  refine cc_V1 (w' := ((kX6 cs ata (.ref (adr 0)) Ta_1) ++ ((kX3 cs adr  Dr_2)))) (st1 := []) [.int x1] hx hb hml hown hu (tX6_readB_0 l D cs ata adr x1 Ta Dr Ta_1 Dr_2 hg3) q701 q60 q698 q700 q11 pdX6_readB ⟨rfl, rfl, Nat.le_of_ble_eq_true rfl, Nat.le_of_ble_eq_true rfl⟩ hK hZ hP hD hS hA rfl rfl rfl rfl hl.1 rfl (Nat.le_of_ble_eq_true rfl) dX6_readA_2 rfl (fun H locs hP hD hS => ?_)
  refine lv_iconst (v := 0) hx hb dX6_readA_5 (by decide) ?_
  refine lv_istore_n (lv' := [(2, .int 0), (0, .ref (ata 0)), (1, .int x1)]) hx hb dX6_readA_6 rfl hl (by decide) rfl (fun ls hl => ?_)
  exact h7 400 x1 0 Ta_1 Dr_2 _ _ _ hP hD hS (lv_sub hl [1, 2, 0] rfl) hf

def fX6_readT_0_7_s (k7 : Int32 → Int32 → ST → ST → Option (ST × ST)) (y1 : Int32) (y2 : Int32) (Ta : ST) (Dr : ST) : Option (ST × ST) :=
  (if 80 ≤ y2 then some (Ta, Dr) else dc_b2 (fX6_takes 124 Ta) (fun r5 Ta_6 => (if r5 = 0 then some (Ta_6, Dr) else dc_b2 (fX6_readA_0 y1 Ta_6 Dr) (fun Ta_9 Dr_10 => dc_b1 (fX3_putSign 124 Dr_10) (fun Dr_12 => dc_lt (y2 + 1) (fun v14 => k7 y1 v14 Ta_9 Dr_12))))))
def fX6_readT_0_7 : Nat → Int32 → Int32 → ST → ST → Option (ST × ST)
  | 0 => fun _ _ _ _ => none
  | n + 1 => fX6_readT_0_7_s (fX6_readT_0_7 n)
def fX6_readT_0 (x1 : Int32) (Ta : ST) (Dr : ST) : Option (ST × ST) :=
  dc_b2 (fX6_readA_0 x1 Ta Dr) (fun Ta_1 Dr_2 => fX6_readT_0_7 400 x1 0 Ta_1 Dr_2)
abbrev rmX6_readT_0 : Room := { frames := 39, cells := 0, slots := 0, locals := 882 }
set_option maxRecDepth 100000 in
set_option maxHeartbeats 4000000 in
theorem tX6_readT_0 (l : Launch) (D : va_G) (cs : Nat → ClassId) (ata : Nat → Nat) (adr : Nat → Nat) (x1 : Int32) (Ta : ST) (Dr : ST) (Taz : ST) (Drz : ST) (hf : fX6_readT_0 x1 Ta Dr = some (Taz, Drz)) : CG l yX6_readT (wsm yX6_readT cX6_readT 3 none) rmX6_readT_0 D cs [.ref (ata 0), .int x1] none ((kX6 cs ata (.ref (adr 0)) Ta) ++ ((kX3 cs adr  Dr))) ((kX6 cs ata (.ref (adr 0)) Taz) ++ ((kX3 cs adr  Drz))) := by
  refine CG.intro (by decide) (Nat.le_of_ble_eq_true rfl) ?_
  intro p e s m below meth c A Q hx hb hml hown hu hK hZ hP0 hD0 hS0 hA hri hrz hrl hrv hra ls0 hl0
  have hs7 : ∀ (k7 : Int32 → Int32 → ST → ST → Option (ST × ST)), (∀ (y1 : Int32) (y2 : Int32) (Ta : ST) (Dr : ST) (H : Heap) (locs : List Loc) (ls : Array Slot), va_P D vwCl ((kX6 cs ata (.ref (adr 0)) Ta) ++ ((kX3 cs adr  Dr))) H → va_D A ((kX6 cs ata (.ref (adr 0)) Ta) ++ ((kX3 cs adr  Dr))) → va_S A s.heap H locs → lv_has ls 3 [(0, .ref (ata 0)), (1, .int y1), (2, .int y2)] → k7 y1 y2 Ta Dr = some (Taz, Drz) → W p l e rmX6_readT_0 s m [.ref (ata 0), .int x1].toArray below meth c H locs 0 0 Q (F0 m 7 ls [])) → ∀ (y1 : Int32) (y2 : Int32) (Ta : ST) (Dr : ST) (H : Heap) (locs : List Loc) (ls : Array Slot), va_P D vwCl ((kX6 cs ata (.ref (adr 0)) Ta) ++ ((kX3 cs adr  Dr))) H → va_D A ((kX6 cs ata (.ref (adr 0)) Ta) ++ ((kX3 cs adr  Dr))) → va_S A s.heap H locs → lv_has ls 3 [(0, .ref (ata 0)), (1, .int y1), (2, .int y2)] → fX6_readT_0_7_s k7 y1 y2 Ta Dr = some (Taz, Drz) → W p l e rmX6_readT_0 s m [.ref (ata 0), .int x1].toArray below meth c H locs 0 0 Q (F0 m 7 ls []) := by
    intro k7 hk7 y1 y2 Ta Dr H locs ls hP hD hS hl hf
    unfold fX6_readT_0_7_s at hf
    refine lv_iload_n hx hb dX6_readT_7 rfl (lv_at hl 2 rfl) ?_
    refine lv_bipush (v := 80) hx hb dX6_readT_8 (by decide) ?_
    refine lv_icmp_ge (tgt := 42) hx hb dX6_readT_10 (by decide) (fun hc4 => ?_) (fun hc4 => ?_)
    · have hf := ip_el hc4 hf
      have he := Option.some.inj hf
      obtain ⟨e0, e1⟩ := Prod.mk.inj he
      exact hrv _ _ rfl rfl dX6_readT_42 _ _ _ (by rw [e0, e1]) hP hD hS
    · have hf := in_el hc4 hf
      refine lv_aload_n hx hb dX6_readT_13 rfl (lv_at hl 0 rfl) ?_
      refine lv_bipush (v := 124) hx hb dX6_readT_14 (by decide) ?_
      obtain ⟨r5, Ta_6, hg7, hf⟩ := b2_el hf
      refine cc_V (w' := ((kX6 cs ata (.ref (adr 0)) Ta_6) ++ ((kX3 cs adr  Dr)))) (wr := (kX3 cs adr  Dr)) (st1 := [.int r5]) [.int 124] hx hb hml hown hu (tX6_takes l D cs ata adr 124 Ta r5 Ta_6 hg7) q821 q60 q818 q820 q17 pdX6_takes ⟨rfl, rfl, Nat.le_of_ble_eq_true rfl, Nat.le_of_ble_eq_true rfl⟩ hK hZ hP hD hS hA [0, 1] [2, 3, 4] [3, 4, 0, 1, 2] rfl rfl rfl rfl rfl rfl rfl rfl rfl rfl hl.1 rfl (Nat.le_of_ble_eq_true rfl) dX6_readT_16 rfl (fun H locs hP hD hS => ?_)
      refine lv_if_eq (tgt := 42) hx hb dX6_readT_19 (by decide) (fun hc8 => ?_) (fun hc8 => ?_)
      · have hf := ip_el hc8 hf
        have he := Option.some.inj hf
        obtain ⟨e0, e1⟩ := Prod.mk.inj he
        exact hrv _ _ rfl rfl dX6_readT_42 _ _ _ (by rw [e0, e1]) hP hD hS
      · have hf := in_el hc8 hf
        refine lv_aload_n hx hb dX6_readT_22 rfl (lv_at hl 0 rfl) ?_
        refine lv_iload_n hx hb dX6_readT_23 rfl (lv_at hl 1 rfl) ?_
        obtain ⟨Ta_9, Dr_10, hg11, hf⟩ := b2_el hf
        refine cc_V1 (w' := ((kX6 cs ata (.ref (adr 0)) Ta_9) ++ ((kX3 cs adr  Dr_10)))) (st1 := []) [.int y1] hx hb hml hown hu (tX6_readA_0 l D cs ata adr y1 Ta_6 Dr Ta_9 Dr_10 hg11) q697 q60 q694 q696 q10 pdX6_readA ⟨rfl, rfl, Nat.le_of_ble_eq_true rfl, Nat.le_of_ble_eq_true rfl⟩ hK hZ hP hD hS hA rfl rfl rfl rfl hl.1 rfl (Nat.le_of_ble_eq_true rfl) dX6_readT_24 rfl (fun H locs hP hD hS => ?_)
        refine lv_aload_n hx hb dX6_readT_27 rfl (lv_at hl 0 rfl) ?_
        refine va_get (D := D) (ci := 6) (v := .ref (adr 0)) (C := RX6) (T := TX6) (N := 5) hx hb hu inX6 hown hK.1 hP 0 rfl rfl 1 (by decide) (hu _ q260) (fun _ h9 => h9) rfl dX6_readT_28 ?_
        refine lv_bipush (v := 124) hx hb dX6_readT_31 (by decide) ?_
        obtain ⟨Dr_12, hg13, hf⟩ := b1_el hf
        refine cc_V (w' := ((kX6 cs ata (.ref (adr 0)) Ta_9) ++ ((kX3 cs adr  Dr_12)))) (wr := (kX6 cs ata (.ref (adr 0)) Ta_9)) (st1 := []) [.int 124] hx hb hml hown hu (tX3_putSign l D cs adr 124 Dr_10 Dr_12 hg13) q816 q57 q813 q814 q815 pdX3_putSign ⟨rfl, rfl, Nat.le_of_ble_eq_true rfl, Nat.le_of_ble_eq_true rfl⟩ hK hZ hP hD hS hA [2, 3, 4] [0, 1] [0, 1, 2, 3, 4] rfl rfl rfl rfl rfl rfl rfl rfl rfl rfl hl.1 rfl (Nat.le_of_ble_eq_true rfl) dX6_readT_33 rfl (fun H locs hP hD hS => ?_)
        obtain ⟨v14, hv14, hf⟩ := lt_el hf
        refine lv_iinc (v := v14) (lv' := [(2, .int v14), (0, .ref (ata 0)), (1, .int y1)]) hx hb dX6_readT_36 hl (k := 2) rfl (by rw [hv14]; rfl) (by decide) rfl (fun ls hl => ?_)
        refine lv_goto (tgt := 7) hx hb dX6_readT_39 (by decide) ?_
        exact hk7 y1 v14 Ta_9 Dr_12 _ _ _ hP hD hS (lv_sub hl [1, 2, 0] rfl) hf
  have h7 : ∀ (n : Nat), ∀ (y1 : Int32) (y2 : Int32) (Ta : ST) (Dr : ST) (H : Heap) (locs : List Loc) (ls : Array Slot), va_P D vwCl ((kX6 cs ata (.ref (adr 0)) Ta) ++ ((kX3 cs adr  Dr))) H → va_D A ((kX6 cs ata (.ref (adr 0)) Ta) ++ ((kX3 cs adr  Dr))) → va_S A s.heap H locs → lv_has ls 3 [(0, .ref (ata 0)), (1, .int y1), (2, .int y2)] → fX6_readT_0_7 n y1 y2 Ta Dr = some (Taz, Drz) → W p l e rmX6_readT_0 s m [.ref (ata 0), .int x1].toArray below meth c H locs 0 0 Q (F0 m 7 ls []) := by
    intro n
    induction n with
    | zero => intro y1 y2 Ta Dr H locs ls hP hD hS hl hf; exact no_el hf
    | succ n ih => intro y1 y2 Ta Dr H locs ls hP hD hS hl hf; exact hs7 _ ih y1 y2 Ta Dr _ _ _ hP hD hS hl hf
  have hl : lv_has ls0 3 [(0, .ref (ata 0)), (1, .int x1)] := hl0
  have hP := hP0
  have hD := hD0
  have hS := hS0
  unfold fX6_readT_0 at hf
  refine lv_aload_n hx hb dX6_readT_0 rfl (lv_at hl 0 rfl) ?_
  refine lv_iload_n hx hb dX6_readT_1 rfl (lv_at hl 1 rfl) ?_
  obtain ⟨Ta_1, Dr_2, hg3, hf⟩ := b2_el hf
  refine cc_V1 (w' := ((kX6 cs ata (.ref (adr 0)) Ta_1) ++ ((kX3 cs adr  Dr_2)))) (st1 := []) [.int x1] hx hb hml hown hu (tX6_readA_0 l D cs ata adr x1 Ta Dr Ta_1 Dr_2 hg3) q697 q60 q694 q696 q10 pdX6_readA ⟨rfl, rfl, Nat.le_of_ble_eq_true rfl, Nat.le_of_ble_eq_true rfl⟩ hK hZ hP hD hS hA rfl rfl rfl rfl hl.1 rfl (Nat.le_of_ble_eq_true rfl) dX6_readT_2 rfl (fun H locs hP hD hS => ?_)
  refine lv_iconst (v := 0) hx hb dX6_readT_5 (by decide) ?_
  refine lv_istore_n (lv' := [(2, .int 0), (0, .ref (ata 0)), (1, .int x1)]) hx hb dX6_readT_6 rfl hl (by decide) rfl (fun ls hl => ?_)
  exact h7 400 x1 0 Ta_1 Dr_2 _ _ _ hP hD hS (lv_sub hl [1, 2, 0] rfl) hf

def fX6_parse (Ta : ST) (Dr : ST) : Option (Int32 × ST × ST) :=
  dc_lt (sti Ta 0 3 0) (fun Ta_1 => dc_lt (sti Ta_1 0 4 0) (fun Ta_2 => dc_lt (sti Dr 0 2 0) (fun Dr_3 => dc_b2 (fX6_readT_0 0 Ta_2 Dr_3) (fun Ta_4 Dr_5 => (if (Ta_4 0 4) = 0 then (if (Ta_4 0 3) = (Ta_4 0 2) then some (1, Ta_4, Dr_5) else some (0, Ta_4, Dr_5)) else some (0, Ta_4, Dr_5))))))
abbrev rmX6_parse : Room := { frames := 40, cells := 0, slots := 0, locals := 904 }
set_option maxRecDepth 100000 in
set_option maxHeartbeats 4000000 in
theorem tX6_parse (l : Launch) (D : va_G) (cs : Nat → ClassId) (ata : Nat → Nat) (adr : Nat → Nat) (Ta : ST) (Dr : ST) (r0 : Int32) (Taz : ST) (Drz : ST) (hf : fX6_parse Ta Dr = some (r0, Taz, Drz)) : CG l yX6_parse (wsm yX6_parse cX6_parse 1 (some .boolean)) rmX6_parse D cs [.ref (ata 0)] (some (.int r0)) ((kX6 cs ata (.ref (adr 0)) Ta) ++ ((kX3 cs adr  Dr))) ((kX6 cs ata (.ref (adr 0)) Taz) ++ ((kX3 cs adr  Drz))) := by
  refine CG.intro (by decide) (Nat.le_of_ble_eq_true rfl) ?_
  intro p e s m below meth c A Q hx hb hml hown hu hK hZ hP0 hD0 hS0 hA hri hrz hrl hrv hra ls0 hl0
  have hl : lv_has ls0 1 [(0, .ref (ata 0))] := hl0
  have hP := hP0
  have hD := hD0
  have hS := hS0
  unfold fX6_parse at hf
  refine lv_aload_n hx hb dX6_parse_0 rfl (lv_at hl 0 rfl) ?_
  refine lv_iconst (v := 0) hx hb dX6_parse_1 (by decide) ?_
  obtain ⟨Ta_1, hTa_1, hf⟩ := lt_el hf
  refine va_put (D := D) (ci := 6) (v := .int 0) (ty := .int) (C := RX6) (T := TX6) (N := 5) hx hb hu inX6 tyX6 tyX6_ok nmX6 hown hK.1 hP hD hS 0 rfl rfl 3 (by decide) (hu _ q264) (fun _ h9 => h9) rfl (by decide +kernel) rfl rfl (Nat.le_of_ble_eq_true rfl) dX6_parse_2 (fun H locs hP hD hS => ?_)
  have hP : va_P D vwCl ((kX6 cs ata (.ref (adr 0)) Ta_1) ++ ((kX3 cs adr  Dr))) H := by rw [hTa_1]; exact hP
  have hD : va_D A ((kX6 cs ata (.ref (adr 0)) Ta_1) ++ ((kX3 cs adr  Dr))) := by rw [hTa_1]; exact hD
  refine lv_aload_n hx hb dX6_parse_5 rfl (lv_at hl 0 rfl) ?_
  refine lv_iconst (v := 0) hx hb dX6_parse_6 (by decide) ?_
  obtain ⟨Ta_2, hTa_2, hf⟩ := lt_el hf
  refine va_put (D := D) (ci := 6) (v := .int 0) (ty := .boolean) (C := RX6) (T := TX6) (N := 5) hx hb hu inX6 tyX6 tyX6_ok nmX6 hown hK.1 hP hD hS 0 rfl rfl 4 (by decide) (hu _ q266) (fun _ h9 => h9) rfl (by decide +kernel) rfl rfl (Nat.le_of_ble_eq_true rfl) dX6_parse_7 (fun H locs hP hD hS => ?_)
  have hP : va_P D vwCl ((kX6 cs ata (.ref (adr 0)) Ta_2) ++ ((kX3 cs adr  Dr))) H := by rw [hTa_2]; exact hP
  have hD : va_D A ((kX6 cs ata (.ref (adr 0)) Ta_2) ++ ((kX3 cs adr  Dr))) := by rw [hTa_2]; exact hD
  refine lv_aload_n hx hb dX6_parse_10 rfl (lv_at hl 0 rfl) ?_
  refine va_get (D := D) (ci := 6) (v := .ref (adr 0)) (C := RX6) (T := TX6) (N := 5) hx hb hu inX6 hown hK.1 hP 0 rfl rfl 1 (by decide) (hu _ q260) (fun _ h9 => h9) rfl dX6_parse_11 ?_
  refine lv_iconst (v := 0) hx hb dX6_parse_14 (by decide) ?_
  obtain ⟨Dr_3, hDr_3, hf⟩ := lt_el hf
  refine va_put (D := D) (ci := 3) (v := .int 0) (ty := .int) (C := RX3) (T := TX3) (N := 3) hx hb hu inX3 tyX3 tyX3_ok nmX3 hown hK.1 hP hD hS 2 rfl rfl 2 (by decide) (hu _ q143) (fun _ h9 => h9) rfl (by decide +kernel) rfl rfl (Nat.le_of_ble_eq_true rfl) dX6_parse_15 (fun H locs hP hD hS => ?_)
  have hP : va_P D vwCl ((kX6 cs ata (.ref (adr 0)) Ta_2) ++ ((kX3 cs adr  Dr_3))) H := by rw [hDr_3]; exact hP
  have hD : va_D A ((kX6 cs ata (.ref (adr 0)) Ta_2) ++ ((kX3 cs adr  Dr_3))) := by rw [hDr_3]; exact hD
  refine lv_aload_n hx hb dX6_parse_18 rfl (lv_at hl 0 rfl) ?_
  refine lv_iconst (v := 0) hx hb dX6_parse_19 (by decide) ?_
  obtain ⟨Ta_4, Dr_5, hg6, hf⟩ := b2_el hf
  refine cc_V1 (w' := ((kX6 cs ata (.ref (adr 0)) Ta_4) ++ ((kX3 cs adr  Dr_5)))) (st1 := []) [.int 0] hx hb hml hown hu (tX6_readT_0 l D cs ata adr 0 Ta_2 Dr_3 Ta_4 Dr_5 hg6) q693 q60 q690 q692 q9 pdX6_readT ⟨rfl, rfl, Nat.le_of_ble_eq_true rfl, Nat.le_of_ble_eq_true rfl⟩ hK hZ hP hD hS hA rfl rfl rfl rfl hl.1 rfl (Nat.le_of_ble_eq_true rfl) dX6_parse_20 rfl (fun H locs hP hD hS => ?_)
  refine lv_aload_n hx hb dX6_parse_23 rfl (lv_at hl 0 rfl) ?_
  refine va_get (D := D) (ci := 6) (v := .int (Ta_4 0 4)) (C := RX6) (T := TX6) (N := 5) hx hb hu inX6 hown hK.1 hP 0 rfl rfl 4 (by decide) (hu _ q266) (fun _ h9 => h9) rfl dX6_parse_24 ?_
  refine lv_if_ne (tgt := 45) hx hb dX6_parse_27 (by decide) (fun hc7 => ?_) (fun hc7 => ?_)
  · have hf := in_el hc7 hf
    refine lv_iconst (v := 0) hx hb dX6_parse_45 (by decide) ?_
    have he := Option.some.inj hf
    obtain ⟨e0, ht0⟩ := Prod.mk.inj he
    obtain ⟨e1, e2⟩ := Prod.mk.inj ht0
    exact hrz _ _ _ .boolean rfl rfl (congrArg (fun z => some (Value.int z)) e0.symm) dX6_parse_46 _ _ _ (by rw [e1, e2]) hP hD hS
  · have hf := ip_el hc7 hf
    refine lv_aload_n hx hb dX6_parse_30 rfl (lv_at hl 0 rfl) ?_
    refine va_get (D := D) (ci := 6) (v := .int (Ta_4 0 3)) (C := RX6) (T := TX6) (N := 5) hx hb hu inX6 hown hK.1 hP 0 rfl rfl 3 (by decide) (hu _ q264) (fun _ h9 => h9) rfl dX6_parse_31 ?_
    refine lv_aload_n hx hb dX6_parse_34 rfl (lv_at hl 0 rfl) ?_
    refine va_get (D := D) (ci := 6) (v := .int (Ta_4 0 2)) (C := RX6) (T := TX6) (N := 5) hx hb hu inX6 hown hK.1 hP 0 rfl rfl 2 (by decide) (hu _ q262) (fun _ h9 => h9) rfl dX6_parse_35 ?_
    refine lv_icmp_ne (tgt := 45) hx hb dX6_parse_38 (by decide) (fun hc8 => ?_) (fun hc8 => ?_)
    · have hf := in_el hc8 hf
      refine lv_iconst (v := 0) hx hb dX6_parse_45 (by decide) ?_
      have he := Option.some.inj hf
      obtain ⟨e0, ht0⟩ := Prod.mk.inj he
      obtain ⟨e1, e2⟩ := Prod.mk.inj ht0
      exact hrz _ _ _ .boolean rfl rfl (congrArg (fun z => some (Value.int z)) e0.symm) dX6_parse_46 _ _ _ (by rw [e1, e2]) hP hD hS
    · have hf := ip_el hc8 hf
      refine lv_iconst (v := 1) hx hb dX6_parse_41 (by decide) ?_
      refine lv_goto (tgt := 46) hx hb dX6_parse_42 (by decide) ?_
      have he := Option.some.inj hf
      obtain ⟨e0, ht0⟩ := Prod.mk.inj he
      obtain ⟨e1, e2⟩ := Prod.mk.inj ht0
      exact hrz _ _ _ .boolean rfl rfl (congrArg (fun z => some (Value.int z)) e0.symm) dX6_parse_46 _ _ _ (by rw [e1, e2]) hP hD hS
