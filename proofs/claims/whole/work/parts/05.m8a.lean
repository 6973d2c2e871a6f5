def fX8_isIn (x0 : Int64) (x2 : Int64) (x4 : Int64) : Option Int32 :=
  (if (lg_cmp x0 x2) < 0 then some 0 else (if 0 < (lg_cmp x0 x4) then some 0 else some 1))
abbrev rmX8_isIn : Room := { frames := 0, cells := 0, slots := 0, locals := 0 }
set_option maxRecDepth 100000 in
set_option maxHeartbeats 4000000 in
theorem tX8_isIn (l : Launch) (D : va_G) (cs : Nat → ClassId) (x0 : Int64) (x2 : Int64) (x4 : Int64) (r0 : Int32) (hf : fX8_isIn x0 x2 x4 = some r0) : CG l yX8_isIn (wsm yX8_isIn cX8_isIn 6 (some .boolean)) rmX8_isIn D cs [.long x0, .long x2, .long x4] (some (.int r0)) ([] : va_W) ([] : va_W) := by
  refine CG.intro (by decide) (Nat.le_of_ble_eq_true rfl) ?_
  intro p e s m below meth c A Q hx hb hml hown hu hK hZ hP0 hD0 hS0 hA hri hrz hrl hrv hra ls0 hl0
  have hl : lv_has ls0 6 [(0, .long x0), (2, .long x2), (4, .long x4)] := hl0
  have hP := hP0
  have hD := hD0
  have hS := hS0
  unfold fX8_isIn at hf
  refine lv_lload_n hx hb dX8_isIn_0 rfl (lv_at hl 0 rfl) ?_
  refine lv_lload_n hx hb dX8_isIn_1 rfl (lv_at hl 1 rfl) ?_
  refine W.lcmp hx hb dX8_isIn_2 ?_
  refine lv_if_lt (tgt := 17) hx hb dX8_isIn_3 (by decide) (fun hc1 => ?_) (fun hc1 => ?_)
  · have hf := ip_el hc1 hf
    refine lv_iconst (v := 0) hx hb dX8_isIn_17 (by decide) ?_
    have he := Option.some.inj hf
    have e0 := he
    exact hrz _ _ _ .boolean rfl rfl (congrArg (fun z => some (Value.int z)) e0.symm) dX8_isIn_18 _ _ _ rfl hP hD hS
  · have hf := in_el hc1 hf
    refine lv_lload_n hx hb dX8_isIn_6 rfl (lv_at hl 0 rfl) ?_
    refine lv_lload hx hb dX8_isIn_7 (lv_at hl 2 rfl) ?_
    refine W.lcmp hx hb dX8_isIn_9 ?_
    refine lv_if_gt (tgt := 17) hx hb dX8_isIn_10 (by decide) (fun hc2 => ?_) (fun hc2 => ?_)
    · have hf := ip_el hc2 hf
      refine lv_iconst (v := 0) hx hb dX8_isIn_17 (by decide) ?_
      have he := Option.some.inj hf
      have e0 := he
      exact hrz _ _ _ .boolean rfl rfl (congrArg (fun z => some (Value.int z)) e0.symm) dX8_isIn_18 _ _ _ rfl hP hD hS
    · have hf := in_el hc2 hf
      refine lv_iconst (v := 1) hx hb dX8_isIn_13 (by decide) ?_
      refine lv_goto (tgt := 18) hx hb dX8_isIn_14 (by decide) ?_
      have he := Option.some.inj hf
      have e0 := he
      exact hrz _ _ _ .boolean rfl rfl (congrArg (fun z => some (Value.int z)) e0.symm) dX8_isIn_18 _ _ _ rfl hP hD hS

def fX8_finds (x1 : Int32) (M : ST) : Option (Int32 × ST) :=
  dc_lt (sti M 4 0 ((M 4 0) + 1)) (fun M_1 => dc_ck (((-1000000001) - x1) + 1) 8 (dc_ck (((-1000000001) - x1) + 1) 8 (dc_lt (sti M_1 4 (Int32.toNatClampNeg (((-1000000001) - x1) + 1)) ((M_1 4 (Int32.toNatClampNeg (((-1000000001) - x1) + 1))) + 1)) (fun M_4 => some (x1, M_4)))))
abbrev rmX8_finds : Room := { frames := 0, cells := 0, slots := 0, locals := 0 }
set_option maxRecDepth 100000 in
set_option maxHeartbeats 4000000 in
theorem tX8_finds (l : Launch) (D : va_G) (cs : Nat → ClassId) (a : Nat → Nat) (nn : Nat → Nat) (x1 : Int32) (M : ST) (r0 : Int32) (Mz : ST) (hf : fX8_finds x1 M = some (r0, Mz)) : CG l yX8_finds (wsm yX8_finds cX8_finds 2 (some .int)) rmX8_finds D cs [.ref (a 0), .int x1] (some (.int r0)) (kX8 cs a (.ref (nn 0)) M) (kX8 cs a (.ref (nn 0)) Mz) := by
  refine CG.intro (by decide) (Nat.le_of_ble_eq_true rfl) ?_
  intro p e s m below meth c A Q hx hb hml hown hu hK hZ hP0 hD0 hS0 hA hri hrz hrl hrv hra ls0 hl0
  have hl : lv_has ls0 2 [(0, .ref (a 0)), (1, .int x1)] := hl0
  have hP := hP0
  have hD := hD0
  have hS := hS0
  unfold fX8_finds at hf
  refine lv_aload_n hx hb dX8_finds_0 rfl (lv_at hl 0 rfl) ?_
  refine va_get (D := D) (ci := 8) (v := .ref (a 4)) (C := RX8) (T := TX8) (N := 26) hx hb hu inX8 hown hK.1 hP 0 rfl rfl 3 (by decide) (hu _ q920) (fun _ h9 => h9) rfl dX8_finds_1 ?_
  refine lv_iconst (v := 0) hx hb dX8_finds_4 (by decide) ?_
  refine lv_dup2_11 hx hb dX8_finds_5 rfl rfl ?_
  refine ia_lit hx hb hK hP 3 0 rfl (by decide) dX8_finds_6 ?_
  refine lv_iconst (v := 1) hx hb dX8_finds_7 (by decide) ?_
  refine lv_iadd hx hb dX8_finds_8 ?_
  obtain ⟨M_1, hM_1, hf⟩ := lt_el hf
  refine is_lit hx hb hK hP hD hS 3 0 rfl (by decide) dX8_finds_9 (fun H locs hP hD hS => ?_)
  have hP : va_P D vwCl (kX8 cs a (.ref (nn 0)) M_1) H := by rw [hM_1]; exact hP
  have hD : va_D A (kX8 cs a (.ref (nn 0)) M_1) := by rw [hM_1]; exact hD
  refine lv_aload_n hx hb dX8_finds_10 rfl (lv_at hl 0 rfl) ?_
  refine va_get (D := D) (ci := 8) (v := .ref (a 4)) (C := RX8) (T := TX8) (N := 26) hx hb hu inX8 hown hK.1 hP 0 rfl rfl 3 (by decide) (hu _ q920) (fun _ h9 => h9) rfl dX8_finds_11 ?_
  refine lv_ldc (v := (-1000000001)) hx hb hown (hu _ q1008) dX8_finds_14 ?_
  refine lv_iload_n hx hb dX8_finds_16 rfl (lv_at hl 1 rfl) ?_
  refine lv_isub hx hb dX8_finds_17 ?_
  refine lv_iconst (v := 1) hx hb dX8_finds_18 (by decide) ?_
  refine lv_iadd hx hb dX8_finds_19 ?_
  refine lv_dup2_11 hx hb dX8_finds_20 rfl rfl ?_
  obtain ⟨hi2, hf⟩ := ck_el hf
  refine va_iald hx hb hK.1 hP 3 0 rfl rfl hi2 dX8_finds_21 ?_
  refine lv_iconst (v := 1) hx hb dX8_finds_22 (by decide) ?_
  refine lv_iadd hx hb dX8_finds_23 ?_
  obtain ⟨hi3, hf⟩ := ck_el hf
  obtain ⟨M_4, hM_4, hf⟩ := lt_el hf
  refine va_iast hx hb hK.1 hP hD hS 3 0 rfl rfl hi3 dX8_finds_24 (fun H locs hP hD hS => ?_)
  have hP : va_P D vwCl (kX8 cs a (.ref (nn 0)) M_4) H := by rw [hM_4]; exact hP
  have hD : va_D A (kX8 cs a (.ref (nn 0)) M_4) := by rw [hM_4]; exact hD
  refine lv_iload_n hx hb dX8_finds_25 rfl (lv_at hl 1 rfl) ?_
  have he := Option.some.inj hf
  obtain ⟨e0, e1⟩ := Prod.mk.inj he
  exact hri _ _ _ rfl (congrArg (fun z => some (Value.int z)) e0.symm) dX8_finds_26 _ _ _ (by rw [e1]) hP hD hS

def fX8_becomes (x1 : Int32) (x2 : Int32) (M : ST) : Option (Int32 × ST) :=
  dc_ck x1 271 (dc_lt (M 1 (Int32.toNatClampNeg x1)) (fun v2 => dc_ck x1 271 (dc_lt (sti M 1 (Int32.toNatClampNeg x1) x2) (fun M_4 => some (v2, M_4)))))
abbrev rmX8_becomes : Room := { frames := 0, cells := 0, slots := 0, locals := 0 }
set_option maxRecDepth 100000 in
set_option maxHeartbeats 4000000 in
theorem tX8_becomes (l : Launch) (D : va_G) (cs : Nat → ClassId) (a : Nat → Nat) (nn : Nat → Nat) (x1 : Int32) (x2 : Int32) (M : ST) (r0 : Int32) (Mz : ST) (hf : fX8_becomes x1 x2 M = some (r0, Mz)) : CG l yX8_becomes (wsm yX8_becomes cX8_becomes 4 (some .int)) rmX8_becomes D cs [.ref (a 0), .int x1, .int x2] (some (.int r0)) (kX8 cs a (.ref (nn 0)) M) (kX8 cs a (.ref (nn 0)) Mz) := by
  refine CG.intro (by decide) (Nat.le_of_ble_eq_true rfl) ?_
  intro p e s m below meth c A Q hx hb hml hown hu hK hZ hP0 hD0 hS0 hA hri hrz hrl hrv hra ls0 hl0
  have hl : lv_has ls0 4 [(0, .ref (a 0)), (1, .int x1), (2, .int x2)] := hl0
  have hP := hP0
  have hD := hD0
  have hS := hS0
  unfold fX8_becomes at hf
  refine lv_aload_n hx hb dX8_becomes_0 rfl (lv_at hl 0 rfl) ?_
  refine va_get (D := D) (ci := 8) (v := .ref (a 1)) (C := RX8) (T := TX8) (N := 26) hx hb hu inX8 hown hK.1 hP 0 rfl rfl 0 (by decide) (hu _ q917) (fun _ h9 => h9) rfl dX8_becomes_1 ?_
  refine lv_iload_n hx hb dX8_becomes_4 rfl (lv_at hl 1 rfl) ?_
  obtain ⟨hi1, hf⟩ := ck_el hf
  refine va_iald hx hb hK.1 hP 1 0 rfl rfl hi1 dX8_becomes_5 ?_
  obtain ⟨v2, hv2, hf⟩ := lt_el hf
  refine lv_tope hv2 ?_
  refine lv_istore_n (lv' := [(3, .int v2), (0, .ref (a 0)), (1, .int x1), (2, .int x2)]) hx hb dX8_becomes_6 rfl hl (by decide) rfl (fun ls hl => ?_)
  refine lv_aload_n hx hb dX8_becomes_7 rfl (lv_at hl 1 rfl) ?_
  refine va_get (D := D) (ci := 8) (v := .ref (a 1)) (C := RX8) (T := TX8) (N := 26) hx hb hu inX8 hown hK.1 hP 0 rfl rfl 0 (by decide) (hu _ q917) (fun _ h9 => h9) rfl dX8_becomes_8 ?_
  refine lv_iload_n hx hb dX8_becomes_11 rfl (lv_at hl 2 rfl) ?_
  refine lv_iload_n hx hb dX8_becomes_12 rfl (lv_at hl 3 rfl) ?_
  obtain ⟨hi3, hf⟩ := ck_el hf
  obtain ⟨M_4, hM_4, hf⟩ := lt_el hf
  refine va_iast hx hb hK.1 hP hD hS 1 0 rfl rfl hi3 dX8_becomes_13 (fun H locs hP hD hS => ?_)
  have hP : va_P D vwCl (kX8 cs a (.ref (nn 0)) M_4) H := by rw [hM_4]; exact hP
  have hD : va_D A (kX8 cs a (.ref (nn 0)) M_4) := by rw [hM_4]; exact hD
  refine lv_iload_n hx hb dX8_becomes_14 rfl (lv_at hl 0 rfl) ?_
  have he := Option.some.inj hf
  obtain ⟨e0, e1⟩ := Prod.mk.inj he
  exact hri _ _ _ rfl (congrArg (fun z => some (Value.int z)) e0.symm) dX8_becomes_15 _ _ _ (by rw [e1]) hP hD hS

def fX8_has0 (x1 : Int32) (x2 : Int32) (M : ST) : Option Int32 :=
  dc_ck ((14 + (6 * x1)) + x2) 271 (some (M 1 (Int32.toNatClampNeg ((14 + (6 * x1)) + x2))))
abbrev rmX8_has0 : Room := { frames := 0, cells := 0, slots := 0, locals := 0 }
set_option maxRecDepth 100000 in
set_option maxHeartbeats 4000000 in
theorem tX8_has0 (l : Launch) (D : va_G) (cs : Nat → ClassId) (a : Nat → Nat) (nn : Nat → Nat) (x1 : Int32) (x2 : Int32) (M : ST) (r0 : Int32) (hf : fX8_has0 x1 x2 M = some r0) : CG l yX8_has0 (wsm yX8_has0 cX8_has0 3 (some .int)) rmX8_has0 D cs [.ref (a 0), .int x1, .int x2] (some (.int r0)) (kX8 cs a (.ref (nn 0)) M) (kX8 cs a (.ref (nn 0)) M) := by
  refine CG.intro (by decide) (Nat.le_of_ble_eq_true rfl) ?_
  intro p e s m below meth c A Q hx hb hml hown hu hK hZ hP0 hD0 hS0 hA hri hrz hrl hrv hra ls0 hl0
  have hl : lv_has ls0 3 [(0, .ref (a 0)), (1, .int x1), (2, .int x2)] := hl0
  have hP := hP0
  have hD := hD0
  have hS := hS0
  unfold fX8_has0 at hf
  refine lv_aload_n hx hb dX8_has0_0 rfl (lv_at hl 0 rfl) ?_
  refine va_get (D := D) (ci := 8) (v := .ref (a 1)) (C := RX8) (T := TX8) (N := 26) hx hb hu inX8 hown hK.1 hP 0 rfl rfl 0 (by decide) (hu _ q917) (fun _ h9 => h9) rfl dX8_has0_1 ?_
  refine lv_bipush (v := 14) hx hb dX8_has0_4 (by decide) ?_
  refine lv_bipush (v := 6) hx hb dX8_has0_6 (by decide) ?_
  refine lv_iload_n hx hb dX8_has0_8 rfl (lv_at hl 1 rfl) ?_
  refine lv_imul hx hb dX8_has0_9 ?_
  refine lv_iadd hx hb dX8_has0_10 ?_
  refine lv_iload_n hx hb dX8_has0_11 rfl (lv_at hl 2 rfl) ?_
  refine lv_iadd hx hb dX8_has0_12 ?_
  obtain ⟨hi1, hf⟩ := ck_el hf
  refine va_iald hx hb hK.1 hP 1 0 rfl rfl hi1 dX8_has0_13 ?_
  have he := Option.some.inj hf
  have e0 := he
  exact hri _ _ _ rfl (congrArg (fun z => some (Value.int z)) e0.symm) dX8_has0_14 _ _ _ rfl hP hD hS

def fX8_isPerson (x1 : Int32) (M : ST) : Option Int32 :=
  (if x1 < 0 then some 0 else (if (M 1 0) ≤ x1 then some 0 else some 1))
abbrev rmX8_isPerson : Room := { frames := 0, cells := 0, slots := 0, locals := 0 }
set_option maxRecDepth 100000 in
set_option maxHeartbeats 4000000 in
theorem tX8_isPerson (l : Launch) (D : va_G) (cs : Nat → ClassId) (a : Nat → Nat) (nn : Nat → Nat) (x1 : Int32) (M : ST) (r0 : Int32) (hf : fX8_isPerson x1 M = some r0) : CG l yX8_isPerson (wsm yX8_isPerson cX8_isPerson 2 (some .boolean)) rmX8_isPerson D cs [.ref (a 0), .int x1] (some (.int r0)) (kX8 cs a (.ref (nn 0)) M) (kX8 cs a (.ref (nn 0)) M) := by
  refine CG.intro (by decide) (Nat.le_of_ble_eq_true rfl) ?_
  intro p e s m below meth c A Q hx hb hml hown hu hK hZ hP0 hD0 hS0 hA hri hrz hrl hrv hra ls0 hl0
  have hl : lv_has ls0 2 [(0, .ref (a 0)), (1, .int x1)] := hl0
  have hP := hP0
  have hD := hD0
  have hS := hS0
  unfold fX8_isPerson at hf
  refine lv_iload_n hx hb dX8_isPerson_0 rfl (lv_at hl 1 rfl) ?_
  refine lv_if_lt (tgt := 18) hx hb dX8_isPerson_1 (by decide) (fun hc1 => ?_) (fun hc1 => ?_)
  · have hf := ip_el hc1 hf
    refine lv_iconst (v := 0) hx hb dX8_isPerson_18 (by decide) ?_
    have he := Option.some.inj hf
    have e0 := he
    exact hrz _ _ _ .boolean rfl rfl (congrArg (fun z => some (Value.int z)) e0.symm) dX8_isPerson_19 _ _ _ rfl hP hD hS
  · have hf := in_el hc1 hf
    refine lv_iload_n hx hb dX8_isPerson_4 rfl (lv_at hl 1 rfl) ?_
    refine lv_aload_n hx hb dX8_isPerson_5 rfl (lv_at hl 0 rfl) ?_
    refine va_get (D := D) (ci := 8) (v := .ref (a 1)) (C := RX8) (T := TX8) (N := 26) hx hb hu inX8 hown hK.1 hP 0 rfl rfl 0 (by decide) (hu _ q917) (fun _ h9 => h9) rfl dX8_isPerson_6 ?_
    refine lv_iconst (v := 0) hx hb dX8_isPerson_9 (by decide) ?_
    refine ia_lit hx hb hK hP 1 0 rfl (by decide) dX8_isPerson_10 ?_
    refine lv_icmp_ge (tgt := 18) hx hb dX8_isPerson_11 (by decide) (fun hc2 => ?_) (fun hc2 => ?_)
    · have hf := ip_el hc2 hf
      refine lv_iconst (v := 0) hx hb dX8_isPerson_18 (by decide) ?_
      have he := Option.some.inj hf
      have e0 := he
      exact hrz _ _ _ .boolean rfl rfl (congrArg (fun z => some (Value.int z)) e0.symm) dX8_isPerson_19 _ _ _ rfl hP hD hS
    · have hf := in_el hc2 hf
      refine lv_iconst (v := 1) hx hb dX8_isPerson_14 (by decide) ?_
      refine lv_goto (tgt := 19) hx hb dX8_isPerson_15 (by decide) ?_
      have he := Option.some.inj hf
      have e0 := he
      exact hrz _ _ _ .boolean rfl rfl (congrArg (fun z => some (Value.int z)) e0.symm) dX8_isPerson_19 _ _ _ rfl hP hD hS

def fX8_isAlive (x1 : Int32) (M : ST) : Option Int32 :=
  dc_b1 (fX8_has0 x1 5 M) (fun r1 => (if r1 = 0 then some 1 else some 0))
abbrev rmX8_isAlive : Room := { frames := 1, cells := 0, slots := 0, locals := 22 }
set_option maxRecDepth 100000 in
set_option maxHeartbeats 4000000 in
theorem tX8_isAlive (l : Launch) (D : va_G) (cs : Nat → ClassId) (a : Nat → Nat) (nn : Nat → Nat) (x1 : Int32) (M : ST) (r0 : Int32) (hf : fX8_isAlive x1 M = some r0) : CG l yX8_isAlive (wsm yX8_isAlive cX8_isAlive 2 (some .boolean)) rmX8_isAlive D cs [.ref (a 0), .int x1] (some (.int r0)) (kX8 cs a (.ref (nn 0)) M) (kX8 cs a (.ref (nn 0)) M) := by
  refine CG.intro (by decide) (Nat.le_of_ble_eq_true rfl) ?_
  intro p e s m below meth c A Q hx hb hml hown hu hK hZ hP0 hD0 hS0 hA hri hrz hrl hrv hra ls0 hl0
  have hl : lv_has ls0 2 [(0, .ref (a 0)), (1, .int x1)] := hl0
  have hP := hP0
  have hD := hD0
  have hS := hS0
  unfold fX8_isAlive at hf
  refine lv_aload_n hx hb dX8_isAlive_0 rfl (lv_at hl 0 rfl) ?_
  refine lv_iload_n hx hb dX8_isAlive_1 rfl (lv_at hl 1 rfl) ?_
  refine lv_iconst (v := 5) hx hb dX8_isAlive_2 (by decide) ?_
  obtain ⟨r1, hg2, hf⟩ := b1_el hf
  refine cc_V1 (w' := (kX8 cs a (.ref (nn 0)) M)) (st1 := [.int r1]) [.int x1, .int 5] hx hb hml hown hu (tX8_has0 l D cs a nn x1 5 M r1 hg2) q1026 q62 q1023 q1025 q21 pdX8_has0 ⟨rfl, rfl, Nat.le_of_ble_eq_true rfl, Nat.le_of_ble_eq_true rfl⟩ hK hZ hP hD hS hA rfl rfl rfl rfl hl.1 rfl (Nat.le_of_ble_eq_true rfl) dX8_isAlive_3 rfl (fun H locs hP hD hS => ?_)
  refine lv_if_ne (tgt := 13) hx hb dX8_isAlive_6 (by decide) (fun hc3 => ?_) (fun hc3 => ?_)
  · have hf := in_el hc3 hf
    refine lv_iconst (v := 0) hx hb dX8_isAlive_13 (by decide) ?_
    have he := Option.some.inj hf
    have e0 := he
    exact hrz _ _ _ .boolean rfl rfl (congrArg (fun z => some (Value.int z)) e0.symm) dX8_isAlive_14 _ _ _ rfl hP hD hS
  · have hf := ip_el hc3 hf
    refine lv_iconst (v := 1) hx hb dX8_isAlive_9 (by decide) ?_
    refine lv_goto (tgt := 14) hx hb dX8_isAlive_10 (by decide) ?_
    have he := Option.some.inj hf
    have e0 := he
    exact hrz _ _ _ .boolean rfl rfl (congrArg (fun z => some (Value.int z)) e0.symm) dX8_isAlive_14 _ _ _ rfl hP hD hS

def fX8_likesOf (x1 : Int32) (x2 : Int32) (M : ST) : Option Int32 :=
  dc_ck ((74 + (10 * x1)) + x2) 271 (some (M 1 (Int32.toNatClampNeg ((74 + (10 * x1)) + x2))))
abbrev rmX8_likesOf : Room := { frames := 0, cells := 0, slots := 0, locals := 0 }
set_option maxRecDepth 100000 in
set_option maxHeartbeats 4000000 in
theorem tX8_likesOf (l : Launch) (D : va_G) (cs : Nat → ClassId) (a : Nat → Nat) (nn : Nat → Nat) (x1 : Int32) (x2 : Int32) (M : ST) (r0 : Int32) (hf : fX8_likesOf x1 x2 M = some r0) : CG l yX8_likesOf (wsm yX8_likesOf cX8_likesOf 3 (some .int)) rmX8_likesOf D cs [.ref (a 0), .int x1, .int x2] (some (.int r0)) (kX8 cs a (.ref (nn 0)) M) (kX8 cs a (.ref (nn 0)) M) := by
  refine CG.intro (by decide) (Nat.le_of_ble_eq_true rfl) ?_
  intro p e s m below meth c A Q hx hb hml hown hu hK hZ hP0 hD0 hS0 hA hri hrz hrl hrv hra ls0 hl0
  have hl : lv_has ls0 3 [(0, .ref (a 0)), (1, .int x1), (2, .int x2)] := hl0
  have hP := hP0
  have hD := hD0
  have hS := hS0
  unfold fX8_likesOf at hf
  refine lv_aload_n hx hb dX8_likesOf_0 rfl (lv_at hl 0 rfl) ?_
  refine va_get (D := D) (ci := 8) (v := .ref (a 1)) (C := RX8) (T := TX8) (N := 26) hx hb hu inX8 hown hK.1 hP 0 rfl rfl 0 (by decide) (hu _ q917) (fun _ h9 => h9) rfl dX8_likesOf_1 ?_
  refine lv_bipush (v := 74) hx hb dX8_likesOf_4 (by decide) ?_
  refine lv_bipush (v := 10) hx hb dX8_likesOf_6 (by decide) ?_
  refine lv_iload_n hx hb dX8_likesOf_8 rfl (lv_at hl 1 rfl) ?_
  refine lv_imul hx hb dX8_likesOf_9 ?_
  refine lv_iadd hx hb dX8_likesOf_10 ?_
  refine lv_iload_n hx hb dX8_likesOf_11 rfl (lv_at hl 2 rfl) ?_
  refine lv_iadd hx hb dX8_likesOf_12 ?_
  obtain ⟨hi1, hf⟩ := ck_el hf
  refine va_iald hx hb hK.1 hP 1 0 rfl rfl hi1 dX8_likesOf_13 ?_
  have he := Option.some.inj hf
  have e0 := he
  exact hri _ _ _ rfl (congrArg (fun z => some (Value.int z)) e0.symm) dX8_likesOf_14 _ _ _ rfl hP hD hS

def fX8_worthOf (x1 : Int32) (x2 : Int32) (M : ST) : Option Int32 :=
  dc_ck ((174 + (4 * x1)) + x2) 271 (some (M 1 (Int32.toNatClampNeg ((174 + (4 * x1)) + x2))))
abbrev rmX8_worthOf : Room := { frames := 0, cells := 0, slots := 0, locals := 0 }
set_option maxRecDepth 100000 in
set_option maxHeartbeats 4000000 in
theorem tX8_worthOf (l : Launch) (D : va_G) (cs : Nat → ClassId) (a : Nat → Nat) (nn : Nat → Nat) (x1 : Int32) (x2 : Int32) (M : ST) (r0 : Int32) (hf : fX8_worthOf x1 x2 M = some r0) : CG l yX8_worthOf (wsm yX8_worthOf cX8_worthOf 3 (some .int)) rmX8_worthOf D cs [.ref (a 0), .int x1, .int x2] (some (.int r0)) (kX8 cs a (.ref (nn 0)) M) (kX8 cs a (.ref (nn 0)) M) := by
  refine CG.intro (by decide) (Nat.le_of_ble_eq_true rfl) ?_
  intro p e s m below meth c A Q hx hb hml hown hu hK hZ hP0 hD0 hS0 hA hri hrz hrl hrv hra ls0 hl0
  have hl : lv_has ls0 3 [(0, .ref (a 0)), (1, .int x1), (2, .int x2)] := hl0
  have hP := hP0
  have hD := hD0
  have hS := hS0
  unfold fX8_worthOf at hf
  refine lv_aload_n hx hb dX8_worthOf_0 rfl (lv_at hl 0 rfl) ?_
  refine va_get (D := D) (ci := 8) (v := .ref (a 1)) (C := RX8) (T := TX8) (N := 26) hx hb hu inX8 hown hK.1 hP 0 rfl rfl 0 (by decide) (hu _ q917) (fun _ h9 => h9) rfl dX8_worthOf_1 ?_
  refine lv_sipush (v := 174) hx hb dX8_worthOf_4 (by decide) ?_
  refine lv_iconst (v := 4) hx hb dX8_worthOf_7 (by decide) ?_
  refine lv_iload_n hx hb dX8_worthOf_8 rfl (lv_at hl 1 rfl) ?_
  refine lv_imul hx hb dX8_worthOf_9 ?_
  refine lv_iadd hx hb dX8_worthOf_10 ?_
  refine lv_iload_n hx hb dX8_worthOf_11 rfl (lv_at hl 2 rfl) ?_
  refine lv_iadd hx hb dX8_worthOf_12 ?_
  obtain ⟨hi1, hf⟩ := ck_el hf
  refine va_iald hx hb hK.1 hP 1 0 rfl rfl hi1 dX8_worthOf_13 ?_
  have he := Option.some.inj hf
  have e0 := he
  exact hri _ _ _ rfl (congrArg (fun z => some (Value.int z)) e0.symm) dX8_worthOf_14 _ _ _ rfl hP hD hS

def fX8_person_38 (M : ST) : Option (Int32 × ST) :=
  dc_b2 (fX8_finds (-1000000001) M) (fun r4 M_5 => some (r4, M_5))
def fX8_person_142_s (k142 : Int32 → Int32 → ST → Option (Int32 × ST)) (y4 : Int32) (y6 : Int32) (M : ST) : Option (Int32 × ST) :=
  (if 10 ≤ y6 then dc_lt (sti M 1 0 ((M 1 0) + 1)) (fun M_29 => some (y4, M_29)) else dc_ck ((74 + (10 * y4)) + y6) 271 (dc_lt (sti M 1 (Int32.toNatClampNeg ((74 + (10 * y4)) + y6)) 0) (fun M_31 => dc_ck ((74 + (10 * y6)) + y4) 271 (dc_lt (sti M_31 1 (Int32.toNatClampNeg ((74 + (10 * y6)) + y4)) 0) (fun M_33 => dc_lt (y6 + 1) (fun v34 => k142 y4 v34 M_33))))))
def fX8_person_142 : Nat → Int32 → Int32 → ST → Option (Int32 × ST)
  | 0 => fun _ _ _ => none
  | n + 1 => fX8_person_142_s (fX8_person_142 n)
def fX8_person (x1 : Int32) (x2 : Int32) (x3 : Int32) (M : ST) : Option (Int32 × ST) :=
  dc_b1 (fX8_isIn (x1.toInt64) 0 6) (fun r1 => (if r1 = 0 then fX8_person_38 M else dc_b1 (fX8_isIn (x2.toInt64) 20 99) (fun r7 => (if r7 = 0 then fX8_person_38 M else dc_b1 (fX8_isIn (x3.toInt64) 0 3) (fun r10 => (if r10 = 0 then fX8_person_38 M else (if (M 1 0) = 10 then dc_b2 (fX8_finds (-1000000002) M) (fun r35 M_36 => some (r35, M_36)) else dc_lt (M 1 0) (fun v14 => dc_lt (14 + (6 * v14)) (fun v15 => dc_ck v15 271 (dc_lt (sti M 1 (Int32.toNatClampNeg v15) x1) (fun M_17 => dc_ck (v15 + 1) 271 (dc_lt (sti M_17 1 (Int32.toNatClampNeg (v15 + 1)) x2) (fun M_19 => dc_ck (v15 + 2) 271 (dc_lt (sti M_19 1 (Int32.toNatClampNeg (v15 + 2)) x3) (fun M_21 => dc_ck (v15 + 3) 271 (dc_lt (sti M_21 1 (Int32.toNatClampNeg (v15 + 3)) 0) (fun M_23 => dc_ck (v15 + 4) 271 (dc_lt (sti M_23 1 (Int32.toNatClampNeg (v15 + 4)) 0) (fun M_25 => dc_ck (v15 + 5) 271 (dc_lt (sti M_25 1 (Int32.toNatClampNeg (v15 + 5)) 0) (fun M_27 => fX8_person_142 400 v14 0 M_27)))))))))))))))))))))
abbrev rmX8_person : Room := { frames := 1, cells := 0, slots := 0, locals := 25 }
set_option maxRecDepth 100000 in
set_option maxHeartbeats 4000000 in
theorem tX8_person (l : Launch) (D : va_G) (cs : Nat → ClassId) (a : Nat → Nat) (nn : Nat → Nat) (x1 : Int32) (x2 : Int32) (x3 : Int32) (M : ST) (r0 : Int32) (Mz : ST) (hf : fX8_person x1 x2 x3 M = some (r0, Mz)) : CG l yX8_person (wsm yX8_person cX8_person 7 (some .int)) rmX8_person D cs [.ref (a 0), .int x1, .int x2, .int x3] (some (.int r0)) (kX8 cs a (.ref (nn 0)) M) (kX8 cs a (.ref (nn 0)) Mz) := by
  refine CG.intro (by decide) (Nat.le_of_ble_eq_true rfl) ?_
  intro p e s m below meth c A Q hx hb hml hown hu hK hZ hP0 hD0 hS0 hA hri hrz hrl hrv hra ls0 hl0
  have h38 : ∀ (M : ST) (H : Heap) (locs : List Loc) (ls : Array Slot), va_P D vwCl (kX8 cs a (.ref (nn 0)) M) H → va_D A (kX8 cs a (.ref (nn 0)) M) → va_S A s.heap H locs → lv_has ls 7 [(0, .ref (a 0))] → fX8_person_38 M = some (r0, Mz) → W p l e rmX8_person s m [.ref (a 0), .int x1, .int x2, .int x3].toArray below meth c H locs 0 0 Q (F0 m 38 ls []) := by
    intro M H locs ls hP hD hS hl hf
    unfold fX8_person_38 at hf
    refine lv_aload_n hx hb dX8_person_38 rfl (lv_at hl 0 rfl) ?_
    refine lv_ldc (v := (-1000000001)) hx hb hown (hu _ q1008) dX8_person_39 ?_
    obtain ⟨r4, M_5, hg6, hf⟩ := b2_el hf
    refine cc_V1 (w' := (kX8 cs a (.ref (nn 0)) M_5)) (st1 := [.int r4]) [.int (-1000000001)] hx hb hml hown hu (tX8_finds l D cs a nn (-1000000001) M r4 M_5 hg6) q1012 q62 q1009 q1011 q19 pdX8_finds ⟨rfl, rfl, Nat.le_of_ble_eq_true rfl, Nat.le_of_ble_eq_true rfl⟩ hK hZ hP hD hS hA rfl rfl rfl rfl hl.1 rfl (Nat.le_of_ble_eq_true rfl) dX8_person_41 rfl (fun H locs hP hD hS => ?_)
    have he := Option.some.inj hf
    obtain ⟨e0, e1⟩ := Prod.mk.inj he
    exact hri _ _ _ rfl (congrArg (fun z => some (Value.int z)) e0.symm) dX8_person_44 _ _ _ (by rw [e1]) hP hD hS
  have hs142 : ∀ (k142 : Int32 → Int32 → ST → Option (Int32 × ST)), (∀ (y4 : Int32) (y6 : Int32) (M : ST) (H : Heap) (locs : List Loc) (ls : Array Slot), va_P D vwCl (kX8 cs a (.ref (nn 0)) M) H → va_D A (kX8 cs a (.ref (nn 0)) M) → va_S A s.heap H locs → lv_has ls 7 [(0, .ref (a 0)), (4, .int y4), (6, .int y6)] → k142 y4 y6 M = some (r0, Mz) → W p l e rmX8_person s m [.ref (a 0), .int x1, .int x2, .int x3].toArray below meth c H locs 0 0 Q (F0 m 142 ls [])) → ∀ (y4 : Int32) (y6 : Int32) (M : ST) (H : Heap) (locs : List Loc) (ls : Array Slot), va_P D vwCl (kX8 cs a (.ref (nn 0)) M) H → va_D A (kX8 cs a (.ref (nn 0)) M) → va_S A s.heap H locs → lv_has ls 7 [(0, .ref (a 0)), (4, .int y4), (6, .int y6)] → fX8_person_142_s k142 y4 y6 M = some (r0, Mz) → W p l e rmX8_person s m [.ref (a 0), .int x1, .int x2, .int x3].toArray below meth c H locs 0 0 Q (F0 m 142 ls []) := by
    intro k142 hk142 y4 y6 M H locs ls hP hD hS hl hf
    unfold fX8_person_142_s at hf
    refine lv_iload hx hb dX8_person_142 (lv_at hl 2 rfl) ?_
    refine lv_bipush (v := 10) hx hb dX8_person_144 (by decide) ?_
    refine lv_icmp_ge (tgt := 189) hx hb dX8_person_146 (by decide) (fun hc28 => ?_) (fun hc28 => ?_)
    · have hf := ip_el hc28 hf
      refine lv_aload_n hx hb dX8_person_189 rfl (lv_at hl 0 rfl) ?_
      refine va_get (D := D) (ci := 8) (v := .ref (a 1)) (C := RX8) (T := TX8) (N := 26) hx hb hu inX8 hown hK.1 hP 0 rfl rfl 0 (by decide) (hu _ q917) (fun _ h9 => h9) rfl dX8_person_190 ?_
      refine lv_iconst (v := 0) hx hb dX8_person_193 (by decide) ?_
      refine lv_dup2_11 hx hb dX8_person_194 rfl rfl ?_
      refine ia_lit hx hb hK hP 1 0 rfl (by decide) dX8_person_195 ?_
      refine lv_iconst (v := 1) hx hb dX8_person_196 (by decide) ?_
      refine lv_iadd hx hb dX8_person_197 ?_
      obtain ⟨M_29, hM_29, hf⟩ := lt_el hf
      refine is_lit hx hb hK hP hD hS 1 0 rfl (by decide) dX8_person_198 (fun H locs hP hD hS => ?_)
      have hP : va_P D vwCl (kX8 cs a (.ref (nn 0)) M_29) H := by rw [hM_29]; exact hP
      have hD : va_D A (kX8 cs a (.ref (nn 0)) M_29) := by rw [hM_29]; exact hD
      refine lv_iload hx hb dX8_person_199 (lv_at hl 1 rfl) ?_
      have he := Option.some.inj hf
      obtain ⟨e0, e1⟩ := Prod.mk.inj he
      exact hri _ _ _ rfl (congrArg (fun z => some (Value.int z)) e0.symm) dX8_person_201 _ _ _ (by rw [e1]) hP hD hS
    · have hf := in_el hc28 hf
      refine lv_aload_n hx hb dX8_person_149 rfl (lv_at hl 0 rfl) ?_
      refine va_get (D := D) (ci := 8) (v := .ref (a 1)) (C := RX8) (T := TX8) (N := 26) hx hb hu inX8 hown hK.1 hP 0 rfl rfl 0 (by decide) (hu _ q917) (fun _ h9 => h9) rfl dX8_person_150 ?_
      refine lv_bipush (v := 74) hx hb dX8_person_153 (by decide) ?_
      refine lv_bipush (v := 10) hx hb dX8_person_155 (by decide) ?_
      refine lv_iload hx hb dX8_person_157 (lv_at hl 1 rfl) ?_
      refine lv_imul hx hb dX8_person_159 ?_
      refine lv_iadd hx hb dX8_person_160 ?_
      refine lv_iload hx hb dX8_person_161 (lv_at hl 2 rfl) ?_
      refine lv_iadd hx hb dX8_person_163 ?_
      refine lv_iconst (v := 0) hx hb dX8_person_164 (by decide) ?_
      obtain ⟨hi30, hf⟩ := ck_el hf
      obtain ⟨M_31, hM_31, hf⟩ := lt_el hf
      refine va_iast hx hb hK.1 hP hD hS 1 0 rfl rfl hi30 dX8_person_165 (fun H locs hP hD hS => ?_)
      have hP : va_P D vwCl (kX8 cs a (.ref (nn 0)) M_31) H := by rw [hM_31]; exact hP
      have hD : va_D A (kX8 cs a (.ref (nn 0)) M_31) := by rw [hM_31]; exact hD
      refine lv_aload_n hx hb dX8_person_166 rfl (lv_at hl 0 rfl) ?_
      refine va_get (D := D) (ci := 8) (v := .ref (a 1)) (C := RX8) (T := TX8) (N := 26) hx hb hu inX8 hown hK.1 hP 0 rfl rfl 0 (by decide) (hu _ q917) (fun _ h9 => h9) rfl dX8_person_167 ?_
      refine lv_bipush (v := 74) hx hb dX8_person_170 (by decide) ?_
      refine lv_bipush (v := 10) hx hb dX8_person_172 (by decide) ?_
      refine lv_iload hx hb dX8_person_174 (lv_at hl 2 rfl) ?_
      refine lv_imul hx hb dX8_person_176 ?_
      refine lv_iadd hx hb dX8_person_177 ?_
      refine lv_iload hx hb dX8_person_178 (lv_at hl 1 rfl) ?_
      refine lv_iadd hx hb dX8_person_180 ?_
      refine lv_iconst (v := 0) hx hb dX8_person_181 (by decide) ?_
      obtain ⟨hi32, hf⟩ := ck_el hf
      obtain ⟨M_33, hM_33, hf⟩ := lt_el hf
      refine va_iast hx hb hK.1 hP hD hS 1 0 rfl rfl hi32 dX8_person_182 (fun H locs hP hD hS => ?_)
      have hP : va_P D vwCl (kX8 cs a (.ref (nn 0)) M_33) H := by rw [hM_33]; exact hP
      have hD : va_D A (kX8 cs a (.ref (nn 0)) M_33) := by rw [hM_33]; exact hD
      obtain ⟨v34, hv34, hf⟩ := lt_el hf
      refine lv_iinc (v := v34) (lv' := [(6, .int v34), (0, .ref (a 0)), (4, .int y4)]) hx hb dX8_person_183 hl (k := 2) rfl (by rw [hv34]; rfl) (by decide) rfl (fun ls hl => ?_)
      refine lv_goto (tgt := 142) hx hb dX8_person_186 (by decide) ?_
      exact hk142 y4 v34 M_33 _ _ _ hP hD hS (lv_sub hl [1, 2, 0] rfl) hf
  have h142 : ∀ (n : Nat), ∀ (y4 : Int32) (y6 : Int32) (M : ST) (H : Heap) (locs : List Loc) (ls : Array Slot), va_P D vwCl (kX8 cs a (.ref (nn 0)) M) H → va_D A (kX8 cs a (.ref (nn 0)) M) → va_S A s.heap H locs → lv_has ls 7 [(0, .ref (a 0)), (4, .int y4), (6, .int y6)] → fX8_person_142 n y4 y6 M = some (r0, Mz) → W p l e rmX8_person s m [.ref (a 0), .int x1, .int x2, .int x3].toArray below meth c H locs 0 0 Q (F0 m 142 ls []) := by
    intro n
    induction n with
    | zero => intro y4 y6 M H locs ls hP hD hS hl hf; exact no_el hf
    | succ n ih => intro y4 y6 M H locs ls hP hD hS hl hf; exact hs142 _ ih y4 y6 M _ _ _ hP hD hS hl hf
  have hl : lv_has ls0 7 [(0, .ref (a 0)), (1, .int x1), (2, .int x2), (3, .int x3)] := hl0
  have hP := hP0
  have hD := hD0
  have hS := hS0
  unfold fX8_person at hf
  refine lv_iload_n hx hb dX8_person_0 rfl (lv_at hl 1 rfl) ?_
  refine lv_i2l (v := (x1.toInt64)) hx hb dX8_person_1 rfl ?_
  refine lv_lconst (v := 0) hx hb dX8_person_2 (by decide) ?_
  refine lv_ldc2 (v := 6) hx hb hown (hu _ q1001) dX8_person_3 ?_
  obtain ⟨r1, hg2, hf⟩ := b1_el hf
  refine cc_S0 (st1 := [.int r1]) [.long (x1.toInt64), .long 0, .long 6] hx hb hml hown hu (tX8_isIn l D cs (x1.toInt64) 0 6 r1 hg2) q1004 q62 q1002 q1003 pdX8_isIn ⟨rfl, rfl, Nat.le_of_ble_eq_true rfl, Nat.le_of_ble_eq_true rfl⟩ hK hZ hP hD hS hA rfl hl.1 rfl (Nat.le_of_ble_eq_true rfl) dX8_person_6 rfl (fun H locs hP hD hS => ?_)
  refine lv_if_eq (tgt := 38) hx hb dX8_person_9 (by decide) (fun hc3 => ?_) (fun hc3 => ?_)
  · have hf := ip_el hc3 hf
    exact h38 M _ _ _ hP hD hS (lv_sub hl [0] rfl) hf
  · have hf := in_el hc3 hf
    refine lv_iload_n hx hb dX8_person_12 rfl (lv_at hl 2 rfl) ?_
    refine lv_i2l (v := (x2.toInt64)) hx hb dX8_person_13 rfl ?_
    refine lv_ldc2 (v := 20) hx hb hown (hu _ q1005) dX8_person_14 ?_
    refine lv_ldc2 (v := 99) hx hb hown (hu _ q1006) dX8_person_17 ?_
    obtain ⟨r7, hg8, hf⟩ := b1_el hf
    refine cc_S0 (st1 := [.int r7]) [.long (x2.toInt64), .long 20, .long 99] hx hb hml hown hu (tX8_isIn l D cs (x2.toInt64) 20 99 r7 hg8) q1004 q62 q1002 q1003 pdX8_isIn ⟨rfl, rfl, Nat.le_of_ble_eq_true rfl, Nat.le_of_ble_eq_true rfl⟩ hK hZ hP hD hS hA rfl hl.1 rfl (Nat.le_of_ble_eq_true rfl) dX8_person_20 rfl (fun H locs hP hD hS => ?_)
    refine lv_if_eq (tgt := 38) hx hb dX8_person_23 (by decide) (fun hc9 => ?_) (fun hc9 => ?_)
    · have hf := ip_el hc9 hf
      exact h38 M _ _ _ hP hD hS (lv_sub hl [0] rfl) hf
    · have hf := in_el hc9 hf
      refine lv_iload_n hx hb dX8_person_26 rfl (lv_at hl 3 rfl) ?_
      refine lv_i2l (v := (x3.toInt64)) hx hb dX8_person_27 rfl ?_
      refine lv_lconst (v := 0) hx hb dX8_person_28 (by decide) ?_
      refine lv_ldc2 (v := 3) hx hb hown (hu _ q1007) dX8_person_29 ?_
      obtain ⟨r10, hg11, hf⟩ := b1_el hf
      refine cc_S0 (st1 := [.int r10]) [.long (x3.toInt64), .long 0, .long 3] hx hb hml hown hu (tX8_isIn l D cs (x3.toInt64) 0 3 r10 hg11) q1004 q62 q1002 q1003 pdX8_isIn ⟨rfl, rfl, Nat.le_of_ble_eq_true rfl, Nat.le_of_ble_eq_true rfl⟩ hK hZ hP hD hS hA rfl hl.1 rfl (Nat.le_of_ble_eq_true rfl) dX8_person_32 rfl (fun H locs hP hD hS => ?_)
      refine lv_if_ne (tgt := 45) hx hb dX8_person_35 (by decide) (fun hc12 => ?_) (fun hc12 => ?_)
      · have hf := in_el hc12 hf
        refine lv_aload_n hx hb dX8_person_45 rfl (lv_at hl 0 rfl) ?_
        refine va_get (D := D) (ci := 8) (v := .ref (a 1)) (C := RX8) (T := TX8) (N := 26) hx hb hu inX8 hown hK.1 hP 0 rfl rfl 0 (by decide) (hu _ q917) (fun _ h9 => h9) rfl dX8_person_46 ?_
        refine lv_iconst (v := 0) hx hb dX8_person_49 (by decide) ?_
        refine ia_lit hx hb hK hP 1 0 rfl (by decide) dX8_person_50 ?_
        refine lv_bipush (v := 10) hx hb dX8_person_51 (by decide) ?_
        refine lv_icmp_ne (tgt := 63) hx hb dX8_person_53 (by decide) (fun hc13 => ?_) (fun hc13 => ?_)
        · have hf := in_el hc13 hf
          refine lv_aload_n hx hb dX8_person_63 rfl (lv_at hl 0 rfl) ?_
          refine va_get (D := D) (ci := 8) (v := .ref (a 1)) (C := RX8) (T := TX8) (N := 26) hx hb hu inX8 hown hK.1 hP 0 rfl rfl 0 (by decide) (hu _ q917) (fun _ h9 => h9) rfl dX8_person_64 ?_
          refine lv_iconst (v := 0) hx hb dX8_person_67 (by decide) ?_
          refine ia_lit hx hb hK hP 1 0 rfl (by decide) dX8_person_68 ?_
          obtain ⟨v14, hv14, hf⟩ := lt_el hf
          refine lv_tope hv14 ?_
          refine lv_istore (lv' := [(4, .int v14), (0, .ref (a 0)), (1, .int x1), (2, .int x2), (3, .int x3)]) hx hb dX8_person_69 hl (by decide) rfl (fun ls hl => ?_)
          refine lv_bipush (v := 14) hx hb dX8_person_71 (by decide) ?_
          refine lv_bipush (v := 6) hx hb dX8_person_73 (by decide) ?_
          refine lv_iload hx hb dX8_person_75 (lv_at hl 0 rfl) ?_
          refine lv_imul hx hb dX8_person_77 ?_
          refine lv_iadd hx hb dX8_person_78 ?_
          obtain ⟨v15, hv15, hf⟩ := lt_el hf
          refine lv_tope hv15 ?_
          refine lv_istore (lv' := [(5, .int v15), (4, .int v14), (0, .ref (a 0)), (1, .int x1), (2, .int x2), (3, .int x3)]) hx hb dX8_person_79 hl (by decide) rfl (fun ls hl => ?_)
          refine lv_aload_n hx hb dX8_person_81 rfl (lv_at hl 2 rfl) ?_
          refine va_get (D := D) (ci := 8) (v := .ref (a 1)) (C := RX8) (T := TX8) (N := 26) hx hb hu inX8 hown hK.1 hP 0 rfl rfl 0 (by decide) (hu _ q917) (fun _ h9 => h9) rfl dX8_person_82 ?_
          refine lv_iload hx hb dX8_person_85 (lv_at hl 0 rfl) ?_
          refine lv_iload_n hx hb dX8_person_87 rfl (lv_at hl 3 rfl) ?_
          obtain ⟨hi16, hf⟩ := ck_el hf
          obtain ⟨M_17, hM_17, hf⟩ := lt_el hf
          refine va_iast hx hb hK.1 hP hD hS 1 0 rfl rfl hi16 dX8_person_88 (fun H locs hP hD hS => ?_)
          have hP : va_P D vwCl (kX8 cs a (.ref (nn 0)) M_17) H := by rw [hM_17]; exact hP
          have hD : va_D A (kX8 cs a (.ref (nn 0)) M_17) := by rw [hM_17]; exact hD
          refine lv_aload_n hx hb dX8_person_89 rfl (lv_at hl 2 rfl) ?_
          refine va_get (D := D) (ci := 8) (v := .ref (a 1)) (C := RX8) (T := TX8) (N := 26) hx hb hu inX8 hown hK.1 hP 0 rfl rfl 0 (by decide) (hu _ q917) (fun _ h9 => h9) rfl dX8_person_90 ?_
          refine lv_iload hx hb dX8_person_93 (lv_at hl 0 rfl) ?_
          refine lv_iconst (v := 1) hx hb dX8_person_95 (by decide) ?_
          refine lv_iadd hx hb dX8_person_96 ?_
          refine lv_iload_n hx hb dX8_person_97 rfl (lv_at hl 4 rfl) ?_
          obtain ⟨hi18, hf⟩ := ck_el hf
          obtain ⟨M_19, hM_19, hf⟩ := lt_el hf
          refine va_iast hx hb hK.1 hP hD hS 1 0 rfl rfl hi18 dX8_person_98 (fun H locs hP hD hS => ?_)
          have hP : va_P D vwCl (kX8 cs a (.ref (nn 0)) M_19) H := by rw [hM_19]; exact hP
          have hD : va_D A (kX8 cs a (.ref (nn 0)) M_19) := by rw [hM_19]; exact hD
          refine lv_aload_n hx hb dX8_person_99 rfl (lv_at hl 2 rfl) ?_
          refine va_get (D := D) (ci := 8) (v := .ref (a 1)) (C := RX8) (T := TX8) (N := 26) hx hb hu inX8 hown hK.1 hP 0 rfl rfl 0 (by decide) (hu _ q917) (fun _ h9 => h9) rfl dX8_person_100 ?_
          refine lv_iload hx hb dX8_person_103 (lv_at hl 0 rfl) ?_
          refine lv_iconst (v := 2) hx hb dX8_person_105 (by decide) ?_
          refine lv_iadd hx hb dX8_person_106 ?_
          refine lv_iload_n hx hb dX8_person_107 rfl (lv_at hl 5 rfl) ?_
          obtain ⟨hi20, hf⟩ := ck_el hf
          obtain ⟨M_21, hM_21, hf⟩ := lt_el hf
          refine va_iast hx hb hK.1 hP hD hS 1 0 rfl rfl hi20 dX8_person_108 (fun H locs hP hD hS => ?_)
          have hP : va_P D vwCl (kX8 cs a (.ref (nn 0)) M_21) H := by rw [hM_21]; exact hP
          have hD : va_D A (kX8 cs a (.ref (nn 0)) M_21) := by rw [hM_21]; exact hD
          refine lv_aload_n hx hb dX8_person_109 rfl (lv_at hl 2 rfl) ?_
          refine va_get (D := D) (ci := 8) (v := .ref (a 1)) (C := RX8) (T := TX8) (N := 26) hx hb hu inX8 hown hK.1 hP 0 rfl rfl 0 (by decide) (hu _ q917) (fun _ h9 => h9) rfl dX8_person_110 ?_
          refine lv_iload hx hb dX8_person_113 (lv_at hl 0 rfl) ?_
          refine lv_iconst (v := 3) hx hb dX8_person_115 (by decide) ?_
          refine lv_iadd hx hb dX8_person_116 ?_
          refine lv_iconst (v := 0) hx hb dX8_person_117 (by decide) ?_
          obtain ⟨hi22, hf⟩ := ck_el hf
          obtain ⟨M_23, hM_23, hf⟩ := lt_el hf
          refine va_iast hx hb hK.1 hP hD hS 1 0 rfl rfl hi22 dX8_person_118 (fun H locs hP hD hS => ?_)
          have hP : va_P D vwCl (kX8 cs a (.ref (nn 0)) M_23) H := by rw [hM_23]; exact hP
          have hD : va_D A (kX8 cs a (.ref (nn 0)) M_23) := by rw [hM_23]; exact hD
          refine lv_aload_n hx hb dX8_person_119 rfl (lv_at hl 2 rfl) ?_
          refine va_get (D := D) (ci := 8) (v := .ref (a 1)) (C := RX8) (T := TX8) (N := 26) hx hb hu inX8 hown hK.1 hP 0 rfl rfl 0 (by decide) (hu _ q917) (fun _ h9 => h9) rfl dX8_person_120 ?_
          refine lv_iload hx hb dX8_person_123 (lv_at hl 0 rfl) ?_
          refine lv_iconst (v := 4) hx hb dX8_person_125 (by decide) ?_
          refine lv_iadd hx hb dX8_person_126 ?_
          refine lv_iconst (v := 0) hx hb dX8_person_127 (by decide) ?_
          obtain ⟨hi24, hf⟩ := ck_el hf
          obtain ⟨M_25, hM_25, hf⟩ := lt_el hf
          refine va_iast hx hb hK.1 hP hD hS 1 0 rfl rfl hi24 dX8_person_128 (fun H locs hP hD hS => ?_)
          have hP : va_P D vwCl (kX8 cs a (.ref (nn 0)) M_25) H := by rw [hM_25]; exact hP
          have hD : va_D A (kX8 cs a (.ref (nn 0)) M_25) := by rw [hM_25]; exact hD
          refine lv_aload_n hx hb dX8_person_129 rfl (lv_at hl 2 rfl) ?_
          refine va_get (D := D) (ci := 8) (v := .ref (a 1)) (C := RX8) (T := TX8) (N := 26) hx hb hu inX8 hown hK.1 hP 0 rfl rfl 0 (by decide) (hu _ q917) (fun _ h9 => h9) rfl dX8_person_130 ?_
          refine lv_iload hx hb dX8_person_133 (lv_at hl 0 rfl) ?_
          refine lv_iconst (v := 5) hx hb dX8_person_135 (by decide) ?_
          refine lv_iadd hx hb dX8_person_136 ?_
          refine lv_iconst (v := 0) hx hb dX8_person_137 (by decide) ?_
          obtain ⟨hi26, hf⟩ := ck_el hf
          obtain ⟨M_27, hM_27, hf⟩ := lt_el hf
          refine va_iast hx hb hK.1 hP hD hS 1 0 rfl rfl hi26 dX8_person_138 (fun H locs hP hD hS => ?_)
          have hP : va_P D vwCl (kX8 cs a (.ref (nn 0)) M_27) H := by rw [hM_27]; exact hP
          have hD : va_D A (kX8 cs a (.ref (nn 0)) M_27) := by rw [hM_27]; exact hD
          refine lv_iconst (v := 0) hx hb dX8_person_139 (by decide) ?_
          refine lv_istore (lv' := [(6, .int 0), (5, .int v15), (4, .int v14), (0, .ref (a 0)), (1, .int x1), (2, .int x2), (3, .int x3)]) hx hb dX8_person_140 hl (by decide) rfl (fun ls hl => ?_)
          exact h142 400 v14 0 M_27 _ _ _ hP hD hS (lv_sub hl [3, 2, 0] rfl) hf
        · have hf := ip_el hc13 hf
          refine lv_aload_n hx hb dX8_person_56 rfl (lv_at hl 0 rfl) ?_
          refine lv_ldc (v := (-1000000002)) hx hb hown (hu _ q1013) dX8_person_57 ?_
          obtain ⟨r35, M_36, hg37, hf⟩ := b2_el hf
          refine cc_V1 (w' := (kX8 cs a (.ref (nn 0)) M_36)) (st1 := [.int r35]) [.int (-1000000002)] hx hb hml hown hu (tX8_finds l D cs a nn (-1000000002) M r35 M_36 hg37) q1012 q62 q1009 q1011 q19 pdX8_finds ⟨rfl, rfl, Nat.le_of_ble_eq_true rfl, Nat.le_of_ble_eq_true rfl⟩ hK hZ hP hD hS hA rfl rfl rfl rfl hl.1 rfl (Nat.le_of_ble_eq_true rfl) dX8_person_59 rfl (fun H locs hP hD hS => ?_)
          have he := Option.some.inj hf
          obtain ⟨e0, e1⟩ := Prod.mk.inj he
          exact hri _ _ _ rfl (congrArg (fun z => some (Value.int z)) e0.symm) dX8_person_62 _ _ _ (by rw [e1]) hP hD hS
      · have hf := ip_el hc12 hf
        exact h38 M _ _ _ hP hD hS (lv_sub hl [0] rfl) hf

def fX8_placeOf_2_s (M : ST) (k2 : Int32 → Int32 → Option Int32) (y1 : Int32) (y2 : Int32) : Option Int32 :=
  (if (M 1 4) ≤ y2 then some (-1) else dc_ck (10 + y2) 271 ((if (M 1 (Int32.toNatClampNeg (10 + y2))) = y1 then some y2 else dc_lt (y2 + 1) (fun v4 => k2 y1 v4))))
def fX8_placeOf_2 (M : ST) : Nat → Int32 → Int32 → Option Int32
  | 0 => fun _ _ => none
  | n + 1 => fX8_placeOf_2_s M (fX8_placeOf_2 M n)
def fX8_placeOf (x1 : Int32) (M : ST) : Option Int32 :=
  fX8_placeOf_2 M 400 x1 0
abbrev rmX8_placeOf : Room := { frames := 0, cells := 0, slots := 0, locals := 0 }
set_option maxRecDepth 100000 in
set_option maxHeartbeats 4000000 in
theorem tX8_placeOf (l : Launch) (D : va_G) (cs : Nat → ClassId) (a : Nat → Nat) (nn : Nat → Nat) (x1 : Int32) (M : ST) (r0 : Int32) (hf : fX8_placeOf x1 M = some r0) : CG l yX8_placeOf (wsm yX8_placeOf cX8_placeOf 3 (some .int)) rmX8_placeOf D cs [.ref (a 0), .int x1] (some (.int r0)) (kX8 cs a (.ref (nn 0)) M) (kX8 cs a (.ref (nn 0)) M) := by
  refine CG.intro (by decide) (Nat.le_of_ble_eq_true rfl) ?_
  intro p e s m below meth c A Q hx hb hml hown hu hK hZ hP0 hD0 hS0 hA hri hrz hrl hrv hra ls0 hl0
  have hs2 : ∀ (k2 : Int32 → Int32 → Option Int32), (∀ (y1 : Int32) (y2 : Int32) (H : Heap) (locs : List Loc) (ls : Array Slot), va_P D vwCl (kX8 cs a (.ref (nn 0)) M) H → va_D A (kX8 cs a (.ref (nn 0)) M) → va_S A s.heap H locs → lv_has ls 3 [(0, .ref (a 0)), (1, .int y1), (2, .int y2)] → k2 y1 y2 = some r0 → W p l e rmX8_placeOf s m [.ref (a 0), .int x1].toArray below meth c H locs 0 0 Q (F0 m 2 ls [])) → ∀ (y1 : Int32) (y2 : Int32) (H : Heap) (locs : List Loc) (ls : Array Slot), va_P D vwCl (kX8 cs a (.ref (nn 0)) M) H → va_D A (kX8 cs a (.ref (nn 0)) M) → va_S A s.heap H locs → lv_has ls 3 [(0, .ref (a 0)), (1, .int y1), (2, .int y2)] → fX8_placeOf_2_s M k2 y1 y2 = some r0 → W p l e rmX8_placeOf s m [.ref (a 0), .int x1].toArray below meth c H locs 0 0 Q (F0 m 2 ls []) := by
    intro k2 hk2 y1 y2 H locs ls hP hD hS hl hf
    unfold fX8_placeOf_2_s at hf
    refine lv_iload_n hx hb dX8_placeOf_2 rfl (lv_at hl 2 rfl) ?_
    refine lv_aload_n hx hb dX8_placeOf_3 rfl (lv_at hl 0 rfl) ?_
    refine va_get (D := D) (ci := 8) (v := .ref (a 1)) (C := RX8) (T := TX8) (N := 26) hx hb hu inX8 hown hK.1 hP 0 rfl rfl 0 (by decide) (hu _ q917) (fun _ h9 => h9) rfl dX8_placeOf_4 ?_
    refine lv_iconst (v := 4) hx hb dX8_placeOf_7 (by decide) ?_
    refine ia_lit hx hb hK hP 1 4 rfl (by decide) dX8_placeOf_8 ?_
    refine lv_icmp_ge (tgt := 33) hx hb dX8_placeOf_9 (by decide) (fun hc1 => ?_) (fun hc1 => ?_)
    · have hf := ip_el hc1 hf
      refine lv_iconst (v := (-1)) hx hb dX8_placeOf_33 (by decide) ?_
      have he := Option.some.inj hf
      have e0 := he
      exact hri _ _ _ rfl (congrArg (fun z => some (Value.int z)) e0.symm) dX8_placeOf_34 _ _ _ rfl hP hD hS
    · have hf := in_el hc1 hf
      refine lv_aload_n hx hb dX8_placeOf_12 rfl (lv_at hl 0 rfl) ?_
      refine va_get (D := D) (ci := 8) (v := .ref (a 1)) (C := RX8) (T := TX8) (N := 26) hx hb hu inX8 hown hK.1 hP 0 rfl rfl 0 (by decide) (hu _ q917) (fun _ h9 => h9) rfl dX8_placeOf_13 ?_
      refine lv_bipush (v := 10) hx hb dX8_placeOf_16 (by decide) ?_
      refine lv_iload_n hx hb dX8_placeOf_18 rfl (lv_at hl 2 rfl) ?_
      refine lv_iadd hx hb dX8_placeOf_19 ?_
      obtain ⟨hi2, hf⟩ := ck_el hf
      refine va_iald hx hb hK.1 hP 1 0 rfl rfl hi2 dX8_placeOf_20 ?_
      refine lv_iload_n hx hb dX8_placeOf_21 rfl (lv_at hl 1 rfl) ?_
      refine lv_icmp_ne (tgt := 27) hx hb dX8_placeOf_22 (by decide) (fun hc3 => ?_) (fun hc3 => ?_)
      · have hf := in_el hc3 hf
        obtain ⟨v4, hv4, hf⟩ := lt_el hf
        refine lv_iinc (v := v4) (lv' := [(2, .int v4), (0, .ref (a 0)), (1, .int y1)]) hx hb dX8_placeOf_27 hl (k := 2) rfl (by rw [hv4]; rfl) (by decide) rfl (fun ls hl => ?_)
        refine lv_goto (tgt := 2) hx hb dX8_placeOf_30 (by decide) ?_
        exact hk2 y1 v4 _ _ _ hP hD hS (lv_sub hl [1, 2, 0] rfl) hf
      · have hf := ip_el hc3 hf
        refine lv_iload_n hx hb dX8_placeOf_25 rfl (lv_at hl 2 rfl) ?_
        have he := Option.some.inj hf
        have e0 := he
        exact hri _ _ _ rfl (congrArg (fun z => some (Value.int z)) e0.symm) dX8_placeOf_26 _ _ _ rfl hP hD hS
  have h2 : ∀ (n : Nat), ∀ (y1 : Int32) (y2 : Int32) (H : Heap) (locs : List Loc) (ls : Array Slot), va_P D vwCl (kX8 cs a (.ref (nn 0)) M) H → va_D A (kX8 cs a (.ref (nn 0)) M) → va_S A s.heap H locs → lv_has ls 3 [(0, .ref (a 0)), (1, .int y1), (2, .int y2)] → fX8_placeOf_2 M n y1 y2 = some r0 → W p l e rmX8_placeOf s m [.ref (a 0), .int x1].toArray below meth c H locs 0 0 Q (F0 m 2 ls []) := by
    intro n
    induction n with
    | zero => intro y1 y2 H locs ls hP hD hS hl hf; exact no_el hf
    | succ n ih => intro y1 y2 H locs ls hP hD hS hl hf; exact hs2 _ ih y1 y2 _ _ _ hP hD hS hl hf
  have hl : lv_has ls0 3 [(0, .ref (a 0)), (1, .int x1)] := hl0
  have hP := hP0
  have hD := hD0
  have hS := hS0
  unfold fX8_placeOf at hf
  refine lv_iconst (v := 0) hx hb dX8_placeOf_0 (by decide) ?_
  refine lv_istore_n (lv' := [(2, .int 0), (0, .ref (a 0)), (1, .int x1)]) hx hb dX8_placeOf_1 rfl hl (by decide) rfl (fun ls hl => ?_)
  exact h2 400 x1 0 _ _ _ hP hD hS (lv_sub hl [1, 2, 0] rfl) hf

def fX8_firstNamed_2_s (M : ST) (k2 : Int32 → Option Int32) (y1 : Int32) : Option Int32 :=
  (if (M 1 4) ≤ y1 then some (-1) else dc_ck (10 + y1) 271 ((if (M 1 (Int32.toNatClampNeg (10 + y1))) < 0 then dc_lt (y1 + 1) (fun v4 => k2 v4) else dc_ck (10 + y1) 271 (some (M 1 (Int32.toNatClampNeg (10 + y1)))))))
def fX8_firstNamed_2 (M : ST) : Nat → Int32 → Option Int32
  | 0 => fun _ => none
  | n + 1 => fX8_firstNamed_2_s M (fX8_firstNamed_2 M n)
def fX8_firstNamed (M : ST) : Option Int32 :=
  fX8_firstNamed_2 M 400 0
abbrev rmX8_firstNamed : Room := { frames := 0, cells := 0, slots := 0, locals := 0 }
set_option maxRecDepth 100000 in
set_option maxHeartbeats 4000000 in
theorem tX8_firstNamed (l : Launch) (D : va_G) (cs : Nat → ClassId) (a : Nat → Nat) (nn : Nat → Nat) (M : ST) (r0 : Int32) (hf : fX8_firstNamed M = some r0) : CG l yX8_firstNamed (wsm yX8_firstNamed cX8_firstNamed 2 (some .int)) rmX8_firstNamed D cs [.ref (a 0)] (some (.int r0)) (kX8 cs a (.ref (nn 0)) M) (kX8 cs a (.ref (nn 0)) M) := by
  refine CG.intro (by decide) (Nat.le_of_ble_eq_true rfl) ?_
  intro p e s m below meth c A Q hx hb hml hown hu hK hZ hP0 hD0 hS0 hA hri hrz hrl hrv hra ls0 hl0
  have hs2 : ∀ (k2 : Int32 → Option Int32), (∀ (y1 : Int32) (H : Heap) (locs : List Loc) (ls : Array Slot), va_P D vwCl (kX8 cs a (.ref (nn 0)) M) H → va_D A (kX8 cs a (.ref (nn 0)) M) → va_S A s.heap H locs → lv_has ls 2 [(0, .ref (a 0)), (1, .int y1)] → k2 y1 = some r0 → W p l e rmX8_firstNamed s m [.ref (a 0)].toArray below meth c H locs 0 0 Q (F0 m 2 ls [])) → ∀ (y1 : Int32) (H : Heap) (locs : List Loc) (ls : Array Slot), va_P D vwCl (kX8 cs a (.ref (nn 0)) M) H → va_D A (kX8 cs a (.ref (nn 0)) M) → va_S A s.heap H locs → lv_has ls 2 [(0, .ref (a 0)), (1, .int y1)] → fX8_firstNamed_2_s M k2 y1 = some r0 → W p l e rmX8_firstNamed s m [.ref (a 0)].toArray below meth c H locs 0 0 Q (F0 m 2 ls []) := by
    intro k2 hk2 y1 H locs ls hP hD hS hl hf
    unfold fX8_firstNamed_2_s at hf
    refine lv_iload_n hx hb dX8_firstNamed_2 rfl (lv_at hl 1 rfl) ?_
    refine lv_aload_n hx hb dX8_firstNamed_3 rfl (lv_at hl 0 rfl) ?_
    refine va_get (D := D) (ci := 8) (v := .ref (a 1)) (C := RX8) (T := TX8) (N := 26) hx hb hu inX8 hown hK.1 hP 0 rfl rfl 0 (by decide) (hu _ q917) (fun _ h9 => h9) rfl dX8_firstNamed_4 ?_
    refine lv_iconst (v := 4) hx hb dX8_firstNamed_7 (by decide) ?_
    refine ia_lit hx hb hK hP 1 4 rfl (by decide) dX8_firstNamed_8 ?_
    refine lv_icmp_ge (tgt := 40) hx hb dX8_firstNamed_9 (by decide) (fun hc1 => ?_) (fun hc1 => ?_)
    · have hf := ip_el hc1 hf
      refine lv_iconst (v := (-1)) hx hb dX8_firstNamed_40 (by decide) ?_
      have he := Option.some.inj hf
      have e0 := he
      exact hri _ _ _ rfl (congrArg (fun z => some (Value.int z)) e0.symm) dX8_firstNamed_41 _ _ _ rfl hP hD hS
    · have hf := in_el hc1 hf
      refine lv_aload_n hx hb dX8_firstNamed_12 rfl (lv_at hl 0 rfl) ?_
      refine va_get (D := D) (ci := 8) (v := .ref (a 1)) (C := RX8) (T := TX8) (N := 26) hx hb hu inX8 hown hK.1 hP 0 rfl rfl 0 (by decide) (hu _ q917) (fun _ h9 => h9) rfl dX8_firstNamed_13 ?_
      refine lv_bipush (v := 10) hx hb dX8_firstNamed_16 (by decide) ?_
      refine lv_iload_n hx hb dX8_firstNamed_18 rfl (lv_at hl 1 rfl) ?_
      refine lv_iadd hx hb dX8_firstNamed_19 ?_
      obtain ⟨hi2, hf⟩ := ck_el hf
      refine va_iald hx hb hK.1 hP 1 0 rfl rfl hi2 dX8_firstNamed_20 ?_
      refine lv_if_lt (tgt := 34) hx hb dX8_firstNamed_21 (by decide) (fun hc3 => ?_) (fun hc3 => ?_)
      · have hf := ip_el hc3 hf
        obtain ⟨v4, hv4, hf⟩ := lt_el hf
        refine lv_iinc (v := v4) (lv' := [(1, .int v4), (0, .ref (a 0))]) hx hb dX8_firstNamed_34 hl (k := 1) rfl (by rw [hv4]; rfl) (by decide) rfl (fun ls hl => ?_)
        refine lv_goto (tgt := 2) hx hb dX8_firstNamed_37 (by decide) ?_
        exact hk2 v4 _ _ _ hP hD hS (lv_sub hl [1, 0] rfl) hf
      · have hf := in_el hc3 hf
        refine lv_aload_n hx hb dX8_firstNamed_24 rfl (lv_at hl 0 rfl) ?_
        refine va_get (D := D) (ci := 8) (v := .ref (a 1)) (C := RX8) (T := TX8) (N := 26) hx hb hu inX8 hown hK.1 hP 0 rfl rfl 0 (by decide) (hu _ q917) (fun _ h9 => h9) rfl dX8_firstNamed_25 ?_
        refine lv_bipush (v := 10) hx hb dX8_firstNamed_28 (by decide) ?_
        refine lv_iload_n hx hb dX8_firstNamed_30 rfl (lv_at hl 1 rfl) ?_
        refine lv_iadd hx hb dX8_firstNamed_31 ?_
        obtain ⟨hi5, hf⟩ := ck_el hf
        refine va_iald hx hb hK.1 hP 1 0 rfl rfl hi5 dX8_firstNamed_32 ?_
        have he := Option.some.inj hf
        have e0 := he
        exact hri _ _ _ rfl (congrArg (fun z => some (Value.int z)) e0.symm) dX8_firstNamed_33 _ _ _ rfl hP hD hS
  have h2 : ∀ (n : Nat), ∀ (y1 : Int32) (H : Heap) (locs : List Loc) (ls : Array Slot), va_P D vwCl (kX8 cs a (.ref (nn 0)) M) H → va_D A (kX8 cs a (.ref (nn 0)) M) → va_S A s.heap H locs → lv_has ls 2 [(0, .ref (a 0)), (1, .int y1)] → fX8_firstNamed_2 M n y1 = some r0 → W p l e rmX8_firstNamed s m [.ref (a 0)].toArray below meth c H locs 0 0 Q (F0 m 2 ls []) := by
    intro n
    induction n with
    | zero => intro y1 H locs ls hP hD hS hl hf; exact no_el hf
    | succ n ih => intro y1 H locs ls hP hD hS hl hf; exact hs2 _ ih y1 _ _ _ hP hD hS hl hf
  have hl : lv_has ls0 2 [(0, .ref (a 0))] := hl0
  have hP := hP0
  have hD := hD0
  have hS := hS0
  unfold fX8_firstNamed at hf
  refine lv_iconst (v := 0) hx hb dX8_firstNamed_0 (by decide) ?_
  refine lv_istore_n (lv' := [(1, .int 0), (0, .ref (a 0))]) hx hb dX8_firstNamed_1 rfl hl (by decide) rfl (fun ls hl => ?_)
  exact h2 400 0 _ _ _ hP hD hS (lv_sub hl [1, 0] rfl) hf

def fX8_mayName (x1 : Int32) (x2 : Int32) (M : ST) : Option Int32 :=
  dc_b1 (fX8_isAlive x2 M) (fun r1 => (if r1 = 0 then some 0 else dc_b1 (fX8_placeOf x2 M) (fun r4 => (if r4 < 0 then (if x1 = x2 then (if (M 1 1) = x1 then (if (M 1 6) = 1 then some 1 else some 0) else some 0) else (if (M 1 1) = x2 then some 0 else (if (M 1 7) = 1 then some 1 else dc_b1 (fX8_has0 x1 3 M) (fun r10 => (if ((r10 >>> (x2 &&& 31)) &&& 1) = 0 then some 1 else some 0))))) else some 0))))
abbrev rmX8_mayName : Room := { frames := 2, cells := 0, slots := 0, locals := 43 }
set_option maxRecDepth 100000 in
set_option maxHeartbeats 4000000 in
theorem tX8_mayName (l : Launch) (D : va_G) (cs : Nat → ClassId) (a : Nat → Nat) (nn : Nat → Nat) (x1 : Int32) (x2 : Int32) (M : ST) (r0 : Int32) (hf : fX8_mayName x1 x2 M = some r0) : CG l yX8_mayName (wsm yX8_mayName cX8_mayName 3 (some .boolean)) rmX8_mayName D cs [.ref (a 0), .int x1, .int x2] (some (.int r0)) (kX8 cs a (.ref (nn 0)) M) (kX8 cs a (.ref (nn 0)) M) := by
  refine CG.intro (by decide) (Nat.le_of_ble_eq_true rfl) ?_
  intro p e s m below meth c A Q hx hb hml hown hu hK hZ hP0 hD0 hS0 hA hri hrz hrl hrv hra ls0 hl0
  have hl : lv_has ls0 3 [(0, .ref (a 0)), (1, .int x1), (2, .int x2)] := hl0
  have hP := hP0
  have hD := hD0
  have hS := hS0
  unfold fX8_mayName at hf
  refine lv_aload_n hx hb dX8_mayName_0 rfl (lv_at hl 0 rfl) ?_
  refine lv_iload_n hx hb dX8_mayName_1 rfl (lv_at hl 2 rfl) ?_
  obtain ⟨r1, hg2, hf⟩ := b1_el hf
  refine cc_V1 (w' := (kX8 cs a (.ref (nn 0)) M)) (st1 := [.int r1]) [.int x2] hx hb hml hown hu (tX8_isAlive l D cs a nn x2 M r1 hg2) q1042 q62 q1039 q1041 q25 pdX8_isAlive ⟨rfl, rfl, Nat.le_of_ble_eq_true rfl, Nat.le_of_ble_eq_true rfl⟩ hK hZ hP hD hS hA rfl rfl rfl rfl hl.1 rfl (Nat.le_of_ble_eq_true rfl) dX8_mayName_2 rfl (fun H locs hP hD hS => ?_)
  refine lv_if_eq (tgt := 16) hx hb dX8_mayName_5 (by decide) (fun hc3 => ?_) (fun hc3 => ?_)
  · have hf := ip_el hc3 hf
    refine lv_iconst (v := 0) hx hb dX8_mayName_16 (by decide) ?_
    have he := Option.some.inj hf
    have e0 := he
    exact hrz _ _ _ .boolean rfl rfl (congrArg (fun z => some (Value.int z)) e0.symm) dX8_mayName_17 _ _ _ rfl hP hD hS
  · have hf := in_el hc3 hf
    refine lv_aload_n hx hb dX8_mayName_8 rfl (lv_at hl 0 rfl) ?_
    refine lv_iload_n hx hb dX8_mayName_9 rfl (lv_at hl 2 rfl) ?_
    obtain ⟨r4, hg5, hf⟩ := b1_el hf
    refine cc_V1 (w' := (kX8 cs a (.ref (nn 0)) M)) (st1 := [.int r4]) [.int x2] hx hb hml hown hu (tX8_placeOf l D cs a nn x2 M r4 hg5) q1030 q62 q1027 q1029 q22 pdX8_placeOf ⟨rfl, rfl, Nat.le_of_ble_eq_true rfl, Nat.le_of_ble_eq_true rfl⟩ hK hZ hP hD hS hA rfl rfl rfl rfl hl.1 rfl (Nat.le_of_ble_eq_true rfl) dX8_mayName_10 rfl (fun H locs hP hD hS => ?_)
    refine lv_if_lt (tgt := 18) hx hb dX8_mayName_13 (by decide) (fun hc6 => ?_) (fun hc6 => ?_)
    · have hf := ip_el hc6 hf
      refine lv_iload_n hx hb dX8_mayName_18 rfl (lv_at hl 1 rfl) ?_
      refine lv_iload_n hx hb dX8_mayName_19 rfl (lv_at hl 2 rfl) ?_
      refine lv_icmp_ne (tgt := 50) hx hb dX8_mayName_20 (by decide) (fun hc7 => ?_) (fun hc7 => ?_)
      · have hf := in_el hc7 hf
        refine lv_aload_n hx hb dX8_mayName_50 rfl (lv_at hl 0 rfl) ?_
        refine va_get (D := D) (ci := 8) (v := .ref (a 1)) (C := RX8) (T := TX8) (N := 26) hx hb hu inX8 hown hK.1 hP 0 rfl rfl 0 (by decide) (hu _ q917) (fun _ h9 => h9) rfl dX8_mayName_51 ?_
        refine lv_iconst (v := 1) hx hb dX8_mayName_54 (by decide) ?_
        refine ia_lit hx hb hK hP 1 1 rfl (by decide) dX8_mayName_55 ?_
        refine lv_iload_n hx hb dX8_mayName_56 rfl (lv_at hl 2 rfl) ?_
        refine lv_icmp_eq (tgt := 88) hx hb dX8_mayName_57 (by decide) (fun hc8 => ?_) (fun hc8 => ?_)
        · have hf := ip_el hc8 hf
          refine lv_iconst (v := 0) hx hb dX8_mayName_88 (by decide) ?_
          have he := Option.some.inj hf
          have e0 := he
          exact hrz _ _ _ .boolean rfl rfl (congrArg (fun z => some (Value.int z)) e0.symm) dX8_mayName_89 _ _ _ rfl hP hD hS
        · have hf := in_el hc8 hf
          refine lv_aload_n hx hb dX8_mayName_60 rfl (lv_at hl 0 rfl) ?_
          refine va_get (D := D) (ci := 8) (v := .ref (a 1)) (C := RX8) (T := TX8) (N := 26) hx hb hu inX8 hown hK.1 hP 0 rfl rfl 0 (by decide) (hu _ q917) (fun _ h9 => h9) rfl dX8_mayName_61 ?_
          refine lv_bipush (v := 7) hx hb dX8_mayName_64 (by decide) ?_
          refine ia_lit hx hb hK hP 1 7 rfl (by decide) dX8_mayName_66 ?_
          refine lv_iconst (v := 1) hx hb dX8_mayName_67 (by decide) ?_
          refine lv_icmp_eq (tgt := 84) hx hb dX8_mayName_68 (by decide) (fun hc9 => ?_) (fun hc9 => ?_)
          · have hf := ip_el hc9 hf
            refine lv_iconst (v := 1) hx hb dX8_mayName_84 (by decide) ?_
            refine lv_goto (tgt := 89) hx hb dX8_mayName_85 (by decide) ?_
            have he := Option.some.inj hf
            have e0 := he
            exact hrz _ _ _ .boolean rfl rfl (congrArg (fun z => some (Value.int z)) e0.symm) dX8_mayName_89 _ _ _ rfl hP hD hS
          · have hf := in_el hc9 hf
            refine lv_aload_n hx hb dX8_mayName_71 rfl (lv_at hl 0 rfl) ?_
            refine lv_iload_n hx hb dX8_mayName_72 rfl (lv_at hl 1 rfl) ?_
            refine lv_iconst (v := 3) hx hb dX8_mayName_73 (by decide) ?_
            obtain ⟨r10, hg11, hf⟩ := b1_el hf
            refine cc_V1 (w' := (kX8 cs a (.ref (nn 0)) M)) (st1 := [.int r10]) [.int x1, .int 3] hx hb hml hown hu (tX8_has0 l D cs a nn x1 3 M r10 hg11) q1026 q62 q1023 q1025 q21 pdX8_has0 ⟨rfl, rfl, Nat.le_of_ble_eq_true rfl, Nat.le_of_ble_eq_true rfl⟩ hK hZ hP hD hS hA rfl rfl rfl rfl hl.1 rfl (Nat.le_of_ble_eq_true rfl) dX8_mayName_74 rfl (fun H locs hP hD hS => ?_)
            refine lv_iload_n hx hb dX8_mayName_77 rfl (lv_at hl 2 rfl) ?_
            refine lv_ishr hx hb dX8_mayName_78 ?_
            refine lv_iconst (v := 1) hx hb dX8_mayName_79 (by decide) ?_
            refine lv_iand hx hb dX8_mayName_80 ?_
            refine lv_if_ne (tgt := 88) hx hb dX8_mayName_81 (by decide) (fun hc12 => ?_) (fun hc12 => ?_)
            · have hf := in_el hc12 hf
              refine lv_iconst (v := 0) hx hb dX8_mayName_88 (by decide) ?_
              have he := Option.some.inj hf
              have e0 := he
              exact hrz _ _ _ .boolean rfl rfl (congrArg (fun z => some (Value.int z)) e0.symm) dX8_mayName_89 _ _ _ rfl hP hD hS
            · have hf := ip_el hc12 hf
              refine lv_iconst (v := 1) hx hb dX8_mayName_84 (by decide) ?_
              refine lv_goto (tgt := 89) hx hb dX8_mayName_85 (by decide) ?_
              have he := Option.some.inj hf
              have e0 := he
              exact hrz _ _ _ .boolean rfl rfl (congrArg (fun z => some (Value.int z)) e0.symm) dX8_mayName_89 _ _ _ rfl hP hD hS
      · have hf := ip_el hc7 hf
        refine lv_aload_n hx hb dX8_mayName_23 rfl (lv_at hl 0 rfl) ?_
        refine va_get (D := D) (ci := 8) (v := .ref (a 1)) (C := RX8) (T := TX8) (N := 26) hx hb hu inX8 hown hK.1 hP 0 rfl rfl 0 (by decide) (hu _ q917) (fun _ h9 => h9) rfl dX8_mayName_24 ?_
        refine lv_iconst (v := 1) hx hb dX8_mayName_27 (by decide) ?_
        refine ia_lit hx hb hK hP 1 1 rfl (by decide) dX8_mayName_28 ?_
        refine lv_iload_n hx hb dX8_mayName_29 rfl (lv_at hl 1 rfl) ?_
        refine lv_icmp_ne (tgt := 48) hx hb dX8_mayName_30 (by decide) (fun hc13 => ?_) (fun hc13 => ?_)
        · have hf := in_el hc13 hf
          refine lv_iconst (v := 0) hx hb dX8_mayName_48 (by decide) ?_
          have he := Option.some.inj hf
          have e0 := he
          exact hrz _ _ _ .boolean rfl rfl (congrArg (fun z => some (Value.int z)) e0.symm) dX8_mayName_49 _ _ _ rfl hP hD hS
        · have hf := ip_el hc13 hf
          refine lv_aload_n hx hb dX8_mayName_33 rfl (lv_at hl 0 rfl) ?_
          refine va_get (D := D) (ci := 8) (v := .ref (a 1)) (C := RX8) (T := TX8) (N := 26) hx hb hu inX8 hown hK.1 hP 0 rfl rfl 0 (by decide) (hu _ q917) (fun _ h9 => h9) rfl dX8_mayName_34 ?_
          refine lv_bipush (v := 6) hx hb dX8_mayName_37 (by decide) ?_
          refine ia_lit hx hb hK hP 1 6 rfl (by decide) dX8_mayName_39 ?_
          refine lv_iconst (v := 1) hx hb dX8_mayName_40 (by decide) ?_
          refine lv_icmp_ne (tgt := 48) hx hb dX8_mayName_41 (by decide) (fun hc14 => ?_) (fun hc14 => ?_)
          · have hf := in_el hc14 hf
            refine lv_iconst (v := 0) hx hb dX8_mayName_48 (by decide) ?_
            have he := Option.some.inj hf
            have e0 := he
            exact hrz _ _ _ .boolean rfl rfl (congrArg (fun z => some (Value.int z)) e0.symm) dX8_mayName_49 _ _ _ rfl hP hD hS
          · have hf := ip_el hc14 hf
            refine lv_iconst (v := 1) hx hb dX8_mayName_44 (by decide) ?_
            refine lv_goto (tgt := 49) hx hb dX8_mayName_45 (by decide) ?_
            have he := Option.some.inj hf
            have e0 := he
            exact hrz _ _ _ .boolean rfl rfl (congrArg (fun z => some (Value.int z)) e0.symm) dX8_mayName_49 _ _ _ rfl hP hD hS
    · have hf := in_el hc6 hf
      refine lv_iconst (v := 0) hx hb dX8_mayName_16 (by decide) ?_
      have he := Option.some.inj hf
      have e0 := he
      exact hrz _ _ _ .boolean rfl rfl (congrArg (fun z => some (Value.int z)) e0.symm) dX8_mayName_17 _ _ _ rfl hP hD hS

def fX8_named (x1 : Int32) (x2 : Int32) (x3 : Int32) (M : ST) : Option Int32 :=
  dc_b1 (fX8_firstNamed M) (fun r1 => (if x1 = 0 then dc_b1 (fX8_likesOf x2 x3 M) (fun r4 => some r4) else if x1 = 1 then dc_b1 (fX8_has0 x3 1 M) (fun r7 => some r7) else if x1 = 2 then dc_b1 (fX8_has0 x3 2 M) (fun r10 => dc_b1 (fX8_has0 x2 2 M) (fun r12 => (if r10 = r12 then some 1 else some 0))) else if x1 = 3 then dc_b1 (fX8_has0 x3 2 M) (fun r16 => dc_b1 (fX8_has0 x2 2 M) (fun r18 => dc_b1 (fX8_worthOf r16 r18 M) (fun r20 => some r20))) else if x1 = 4 then dc_b1 (fX8_has0 x3 4 M) (fun r23 => some r23) else (if 0 ≤ r1 then dc_b1 (fX8_likesOf r1 x3 M) (fun r26 => some r26) else some 0)))
abbrev rmX8_named : Room := { frames := 1, cells := 0, slots := 0, locals := 22 }
set_option maxRecDepth 100000 in
set_option maxHeartbeats 4000000 in
theorem tX8_named (l : Launch) (D : va_G) (cs : Nat → ClassId) (a : Nat → Nat) (nn : Nat → Nat) (x1 : Int32) (x2 : Int32) (x3 : Int32) (M : ST) (r0 : Int32) (hf : fX8_named x1 x2 x3 M = some r0) : CG l yX8_named (wsm yX8_named cX8_named 5 (some .int)) rmX8_named D cs [.ref (a 0), .int x1, .int x2, .int x3] (some (.int r0)) (kX8 cs a (.ref (nn 0)) M) (kX8 cs a (.ref (nn 0)) M) := by
  refine CG.intro (by decide) (Nat.le_of_ble_eq_true rfl) ?_
  intro p e s m below meth c A Q hx hb hml hown hu hK hZ hP0 hD0 hS0 hA hri hrz hrl hrv hra ls0 hl0
  have hl : lv_has ls0 5 [(0, .ref (a 0)), (1, .int x1), (2, .int x2), (3, .int x3)] := hl0
  have hP := hP0
  have hD := hD0
  have hS := hS0
  unfold fX8_named at hf
  refine lv_aload_n hx hb dX8_named_0 rfl (lv_at hl 0 rfl) ?_
  obtain ⟨r1, hg2, hf⟩ := b1_el hf
  refine cc_V1 (w' := (kX8 cs a (.ref (nn 0)) M)) (st1 := [.int r1]) [] hx hb hml hown hu (tX8_firstNamed l D cs a nn M r1 hg2) q1046 q62 q1043 q1045 q26 pdX8_firstNamed ⟨rfl, rfl, Nat.le_of_ble_eq_true rfl, Nat.le_of_ble_eq_true rfl⟩ hK hZ hP hD hS hA rfl rfl rfl rfl hl.1 rfl (Nat.le_of_ble_eq_true rfl) dX8_named_1 rfl (fun H locs hP hD hS => ?_)
  refine lv_istore (lv' := [(4, .int r1), (0, .ref (a 0)), (1, .int x1), (2, .int x2), (3, .int x3)]) hx hb dX8_named_4 hl (by decide) rfl (fun ls hl => ?_)
  refine lv_iload_n hx hb dX8_named_6 rfl (lv_at hl 2 rfl) ?_
  by_cases hc3 : x1 = 0
  · have hf := ip_el hc3 hf
    refine lv_tableIn (off := 33) (tgt := 40) hx hb dX8_named_7 (by rw [hc3]; decide) (by rw [hc3]; decide) (by rw [hc3]; decide) (by decide) ?_
    refine lv_aload_n hx hb dX8_named_40 rfl (lv_at hl 1 rfl) ?_
    refine lv_iload_n hx hb dX8_named_41 rfl (lv_at hl 3 rfl) ?_
    refine lv_iload_n hx hb dX8_named_42 rfl (lv_at hl 4 rfl) ?_
    obtain ⟨r4, hg5, hf⟩ := b1_el hf
    refine cc_V1 (w' := (kX8 cs a (.ref (nn 0)) M)) (st1 := [.int r4]) [.int x2, .int x3] hx hb hml hown hu (tX8_likesOf l D cs a nn x2 x3 M r4 hg5) q1058 q62 q1055 q1057 q29 pdX8_likesOf ⟨rfl, rfl, Nat.le_of_ble_eq_true rfl, Nat.le_of_ble_eq_true rfl⟩ hK hZ hP hD hS hA rfl rfl rfl rfl hl.1 rfl (Nat.le_of_ble_eq_true rfl) dX8_named_43 rfl (fun H locs hP hD hS => ?_)
    have he := Option.some.inj hf
    have e0 := he
    exact hri _ _ _ rfl (congrArg (fun z => some (Value.int z)) e0.symm) dX8_named_46 _ _ _ rfl hP hD hS
  have hf := in_el hc3 hf
  by_cases hc6 : x1 = 1
  · have hf := ip_el hc6 hf
    refine lv_tableIn (off := 40) (tgt := 47) hx hb dX8_named_7 (by rw [hc6]; decide) (by rw [hc6]; decide) (by rw [hc6]; decide) (by decide) ?_
    refine lv_aload_n hx hb dX8_named_47 rfl (lv_at hl 1 rfl) ?_
    refine lv_iload_n hx hb dX8_named_48 rfl (lv_at hl 4 rfl) ?_
    refine lv_iconst (v := 1) hx hb dX8_named_49 (by decide) ?_
    obtain ⟨r7, hg8, hf⟩ := b1_el hf
    refine cc_V1 (w' := (kX8 cs a (.ref (nn 0)) M)) (st1 := [.int r7]) [.int x3, .int 1] hx hb hml hown hu (tX8_has0 l D cs a nn x3 1 M r7 hg8) q1026 q62 q1023 q1025 q21 pdX8_has0 ⟨rfl, rfl, Nat.le_of_ble_eq_true rfl, Nat.le_of_ble_eq_true rfl⟩ hK hZ hP hD hS hA rfl rfl rfl rfl hl.1 rfl (Nat.le_of_ble_eq_true rfl) dX8_named_50 rfl (fun H locs hP hD hS => ?_)
    have he := Option.some.inj hf
    have e0 := he
    exact hri _ _ _ rfl (congrArg (fun z => some (Value.int z)) e0.symm) dX8_named_53 _ _ _ rfl hP hD hS
  have hf := in_el hc6 hf
  by_cases hc9 : x1 = 2
  · have hf := ip_el hc9 hf
    refine lv_tableIn (off := 47) (tgt := 54) hx hb dX8_named_7 (by rw [hc9]; decide) (by rw [hc9]; decide) (by rw [hc9]; decide) (by decide) ?_
    refine lv_aload_n hx hb dX8_named_54 rfl (lv_at hl 1 rfl) ?_
    refine lv_iload_n hx hb dX8_named_55 rfl (lv_at hl 4 rfl) ?_
    refine lv_iconst (v := 2) hx hb dX8_named_56 (by decide) ?_
    obtain ⟨r10, hg11, hf⟩ := b1_el hf
    refine cc_V1 (w' := (kX8 cs a (.ref (nn 0)) M)) (st1 := [.int r10]) [.int x3, .int 2] hx hb hml hown hu (tX8_has0 l D cs a nn x3 2 M r10 hg11) q1026 q62 q1023 q1025 q21 pdX8_has0 ⟨rfl, rfl, Nat.le_of_ble_eq_true rfl, Nat.le_of_ble_eq_true rfl⟩ hK hZ hP hD hS hA rfl rfl rfl rfl hl.1 rfl (Nat.le_of_ble_eq_true rfl) dX8_named_57 rfl (fun H locs hP hD hS => ?_)
    refine lv_aload_n hx hb dX8_named_60 rfl (lv_at hl 1 rfl) ?_
    refine lv_iload_n hx hb dX8_named_61 rfl (lv_at hl 3 rfl) ?_
    refine lv_iconst (v := 2) hx hb dX8_named_62 (by decide) ?_
    obtain ⟨r12, hg13, hf⟩ := b1_el hf
    refine cc_V1 (w' := (kX8 cs a (.ref (nn 0)) M)) (st1 := [.int r12, .int r10]) [.int x2, .int 2] hx hb hml hown hu (tX8_has0 l D cs a nn x2 2 M r12 hg13) q1026 q62 q1023 q1025 q21 pdX8_has0 ⟨rfl, rfl, Nat.le_of_ble_eq_true rfl, Nat.le_of_ble_eq_true rfl⟩ hK hZ hP hD hS hA rfl rfl rfl rfl hl.1 rfl (Nat.le_of_ble_eq_true rfl) dX8_named_63 rfl (fun H locs hP hD hS => ?_)
    refine lv_icmp_ne (tgt := 73) hx hb dX8_named_66 (by decide) (fun hc14 => ?_) (fun hc14 => ?_)
    · have hf := in_el hc14 hf
      refine lv_iconst (v := 0) hx hb dX8_named_73 (by decide) ?_
      have he := Option.some.inj hf
      have e0 := he
      exact hri _ _ _ rfl (congrArg (fun z => some (Value.int z)) e0.symm) dX8_named_74 _ _ _ rfl hP hD hS
    · have hf := ip_el hc14 hf
      refine lv_iconst (v := 1) hx hb dX8_named_69 (by decide) ?_
      refine lv_goto (tgt := 74) hx hb dX8_named_70 (by decide) ?_
      have he := Option.some.inj hf
      have e0 := he
      exact hri _ _ _ rfl (congrArg (fun z => some (Value.int z)) e0.symm) dX8_named_74 _ _ _ rfl hP hD hS
  have hf := in_el hc9 hf
  by_cases hc15 : x1 = 3
  · have hf := ip_el hc15 hf
    refine lv_tableIn (off := 68) (tgt := 75) hx hb dX8_named_7 (by rw [hc15]; decide) (by rw [hc15]; decide) (by rw [hc15]; decide) (by decide) ?_
    refine lv_aload_n hx hb dX8_named_75 rfl (lv_at hl 1 rfl) ?_
    refine lv_aload_n hx hb dX8_named_76 rfl (lv_at hl 1 rfl) ?_
    refine lv_iload_n hx hb dX8_named_77 rfl (lv_at hl 4 rfl) ?_
    refine lv_iconst (v := 2) hx hb dX8_named_78 (by decide) ?_
    obtain ⟨r16, hg17, hf⟩ := b1_el hf
    refine cc_V1 (w' := (kX8 cs a (.ref (nn 0)) M)) (st1 := [.int r16, .ref (a 0)]) [.int x3, .int 2] hx hb hml hown hu (tX8_has0 l D cs a nn x3 2 M r16 hg17) q1026 q62 q1023 q1025 q21 pdX8_has0 ⟨rfl, rfl, Nat.le_of_ble_eq_true rfl, Nat.le_of_ble_eq_true rfl⟩ hK hZ hP hD hS hA rfl rfl rfl rfl hl.1 rfl (Nat.le_of_ble_eq_true rfl) dX8_named_79 rfl (fun H locs hP hD hS => ?_)
    refine lv_aload_n hx hb dX8_named_82 rfl (lv_at hl 1 rfl) ?_
    refine lv_iload_n hx hb dX8_named_83 rfl (lv_at hl 3 rfl) ?_
    refine lv_iconst (v := 2) hx hb dX8_named_84 (by decide) ?_
    obtain ⟨r18, hg19, hf⟩ := b1_el hf
    refine cc_V1 (w' := (kX8 cs a (.ref (nn 0)) M)) (st1 := [.int r18, .int r16, .ref (a 0)]) [.int x2, .int 2] hx hb hml hown hu (tX8_has0 l D cs a nn x2 2 M r18 hg19) q1026 q62 q1023 q1025 q21 pdX8_has0 ⟨rfl, rfl, Nat.le_of_ble_eq_true rfl, Nat.le_of_ble_eq_true rfl⟩ hK hZ hP hD hS hA rfl rfl rfl rfl hl.1 rfl (Nat.le_of_ble_eq_true rfl) dX8_named_85 rfl (fun H locs hP hD hS => ?_)
    obtain ⟨r20, hg21, hf⟩ := b1_el hf
    refine cc_V1 (w' := (kX8 cs a (.ref (nn 0)) M)) (st1 := [.int r20]) [.int r16, .int r18] hx hb hml hown hu (tX8_worthOf l D cs a nn r16 r18 M r20 hg21) q1073 q62 q1070 q1072 q32 pdX8_worthOf ⟨rfl, rfl, Nat.le_of_ble_eq_true rfl, Nat.le_of_ble_eq_true rfl⟩ hK hZ hP hD hS hA rfl rfl rfl rfl hl.1 rfl (Nat.le_of_ble_eq_true rfl) dX8_named_88 rfl (fun H locs hP hD hS => ?_)
    have he := Option.some.inj hf
    have e0 := he
    exact hri _ _ _ rfl (congrArg (fun z => some (Value.int z)) e0.symm) dX8_named_91 _ _ _ rfl hP hD hS
  have hf := in_el hc15 hf
  by_cases hc22 : x1 = 4
  · have hf := ip_el hc22 hf
    refine lv_tableIn (off := 85) (tgt := 92) hx hb dX8_named_7 (by rw [hc22]; decide) (by rw [hc22]; decide) (by rw [hc22]; decide) (by decide) ?_
    refine lv_aload_n hx hb dX8_named_92 rfl (lv_at hl 1 rfl) ?_
    refine lv_iload_n hx hb dX8_named_93 rfl (lv_at hl 4 rfl) ?_
    refine lv_iconst (v := 4) hx hb dX8_named_94 (by decide) ?_
    obtain ⟨r23, hg24, hf⟩ := b1_el hf
    refine cc_V1 (w' := (kX8 cs a (.ref (nn 0)) M)) (st1 := [.int r23]) [.int x3, .int 4] hx hb hml hown hu (tX8_has0 l D cs a nn x3 4 M r23 hg24) q1026 q62 q1023 q1025 q21 pdX8_has0 ⟨rfl, rfl, Nat.le_of_ble_eq_true rfl, Nat.le_of_ble_eq_true rfl⟩ hK hZ hP hD hS hA rfl rfl rfl rfl hl.1 rfl (Nat.le_of_ble_eq_true rfl) dX8_named_95 rfl (fun H locs hP hD hS => ?_)
    have he := Option.some.inj hf
    have e0 := he
    exact hri _ _ _ rfl (congrArg (fun z => some (Value.int z)) e0.symm) dX8_named_98 _ _ _ rfl hP hD hS
  have hf := in_el hc22 hf
  have nhc3 := sw_ne (a := 0) hc3 (by decide)
  have nhc6 := sw_ne (a := 1) hc6 (by decide)
  have nhc9 := sw_ne (a := 2) hc9 (by decide)
  have nhc15 := sw_ne (a := 3) hc15 (by decide)
  have nhc22 := sw_ne (a := 4) hc22 (by decide)
  refine lv_tableOut (tgt := 99) hx hb dX8_named_7 (by omega) (by decide) ?_
  refine lv_iload hx hb dX8_named_99 (lv_at hl 0 rfl) ?_
  refine lv_if_ge (tgt := 108) hx hb dX8_named_101 (by decide) (fun hc25 => ?_) (fun hc25 => ?_)
  · have hf := ip_el hc25 hf
    refine lv_aload_n hx hb dX8_named_108 rfl (lv_at hl 1 rfl) ?_
    refine lv_iload hx hb dX8_named_109 (lv_at hl 0 rfl) ?_
    refine lv_iload_n hx hb dX8_named_111 rfl (lv_at hl 4 rfl) ?_
    obtain ⟨r26, hg27, hf⟩ := b1_el hf
    refine cc_V1 (w' := (kX8 cs a (.ref (nn 0)) M)) (st1 := [.int r26]) [.int r1, .int x3] hx hb hml hown hu (tX8_likesOf l D cs a nn r1 x3 M r26 hg27) q1058 q62 q1055 q1057 q29 pdX8_likesOf ⟨rfl, rfl, Nat.le_of_ble_eq_true rfl, Nat.le_of_ble_eq_true rfl⟩ hK hZ hP hD hS hA rfl rfl rfl rfl hl.1 rfl (Nat.le_of_ble_eq_true rfl) dX8_named_112 rfl (fun H locs hP hD hS => ?_)
    have he := Option.some.inj hf
    have e0 := he
    exact hri _ _ _ rfl (congrArg (fun z => some (Value.int z)) e0.symm) dX8_named_115 _ _ _ rfl hP hD hS
  · have hf := in_el hc25 hf
    refine lv_iconst (v := 0) hx hb dX8_named_104 (by decide) ?_
    refine lv_goto (tgt := 115) hx hb dX8_named_105 (by decide) ?_
    have he := Option.some.inj hf
    have e0 := he
    exact hri _ _ _ rfl (congrArg (fun z => some (Value.int z)) e0.symm) dX8_named_115 _ _ _ rfl hP hD hS

def fX8_worked (x0 : Int32) (x1 : Int32) (x2 : Int32) : Option Int32 :=
  (if x0 = 38 then (if x1 = 0 then some 0 else (if x2 = 0 then some 0 else some 1)) else if x0 = 42 then some (x1 * x2) else if x0 = 43 then some (x1 + x2) else if x0 = 45 then some (x1 - x2) else if x0 = 47 then (if x2 = 0 then some 0 else dc_dz x2 (some (x1 / x2))) else if x0 = 60 then (if x2 ≤ x1 then some 0 else some 1) else if x0 = 61 then (if x1 = x2 then some 1 else some 0) else if x0 = 62 then (if x1 ≤ x2 then some 0 else some 1) else if x0 = 124 then (if x1 = 0 then (if x2 = 0 then some 0 else some 1) else some 1) else (if x2 = 0 then some 0 else dc_dz x2 (some (x1 - x1 / x2 * x2))))
abbrev rmX8_worked : Room := { frames := 0, cells := 0, slots := 0, locals := 0 }
set_option maxRecDepth 100000 in
set_option maxHeartbeats 4000000 in
theorem tX8_worked (l : Launch) (D : va_G) (cs : Nat → ClassId) (x0 : Int32) (x1 : Int32) (x2 : Int32) (r0 : Int32) (hf : fX8_worked x0 x1 x2 = some r0) : CG l yX8_worked (wsm yX8_worked cX8_worked 3 (some .int)) rmX8_worked D cs [.int x0, .int x1, .int x2] (some (.int r0)) ([] : va_W) ([] : va_W) := by
  refine CG.intro (by decide) (Nat.le_of_ble_eq_true rfl) ?_
  intro p e s m below meth c A Q hx hb hml hown hu hK hZ hP0 hD0 hS0 hA hri hrz hrl hrv hra ls0 hl0
  have hl : lv_has ls0 3 [(0, .int x0), (1, .int x1), (2, .int x2)] := hl0
  have hP := hP0
  have hD := hD0
  have hS := hS0
  unfold fX8_worked at hf
  refine lv_iload_n hx hb dX8_worked_0 rfl (lv_at hl 0 rfl) ?_
  by_cases hc1 : x0 = 38
  · have hf := ip_el hc1 hf
    refine lv_lookup (off := 97) (tgt := 98) hx hb dX8_worked_1 (by decide) (by rw [hc1]; decide) (by decide) ?_
    refine lv_iload_n hx hb dX8_worked_98 rfl (lv_at hl 1 rfl) ?_
    refine lv_if_eq (tgt := 110) hx hb dX8_worked_99 (by decide) (fun hc2 => ?_) (fun hc2 => ?_)
    · have hf := ip_el hc2 hf
      refine lv_iconst (v := 0) hx hb dX8_worked_110 (by decide) ?_
      have he := Option.some.inj hf
      have e0 := he
      exact hri _ _ _ rfl (congrArg (fun z => some (Value.int z)) e0.symm) dX8_worked_111 _ _ _ rfl hP hD hS
    · have hf := in_el hc2 hf
      refine lv_iload_n hx hb dX8_worked_102 rfl (lv_at hl 2 rfl) ?_
      refine lv_if_eq (tgt := 110) hx hb dX8_worked_103 (by decide) (fun hc3 => ?_) (fun hc3 => ?_)
      · have hf := ip_el hc3 hf
        refine lv_iconst (v := 0) hx hb dX8_worked_110 (by decide) ?_
        have he := Option.some.inj hf
        have e0 := he
        exact hri _ _ _ rfl (congrArg (fun z => some (Value.int z)) e0.symm) dX8_worked_111 _ _ _ rfl hP hD hS
      · have hf := in_el hc3 hf
        refine lv_iconst (v := 1) hx hb dX8_worked_106 (by decide) ?_
        refine lv_goto (tgt := 111) hx hb dX8_worked_107 (by decide) ?_
        have he := Option.some.inj hf
        have e0 := he
        exact hri _ _ _ rfl (congrArg (fun z => some (Value.int z)) e0.symm) dX8_worked_111 _ _ _ rfl hP hD hS
  have hf := in_el hc1 hf
  by_cases hc4 : x0 = 42
  · have hf := ip_el hc4 hf
    refine lv_lookup (off := 152) (tgt := 153) hx hb dX8_worked_1 (by decide) (by rw [hc4]; decide) (by decide) ?_
    refine lv_iload_n hx hb dX8_worked_153 rfl (lv_at hl 1 rfl) ?_
    refine lv_iload_n hx hb dX8_worked_154 rfl (lv_at hl 2 rfl) ?_
    refine lv_imul hx hb dX8_worked_155 ?_
    have he := Option.some.inj hf
    have e0 := he
    exact hri _ _ _ rfl (congrArg (fun z => some (Value.int z)) e0.symm) dX8_worked_156 _ _ _ rfl hP hD hS
  have hf := in_el hc4 hf
  by_cases hc5 : x0 = 43
  · have hf := ip_el hc5 hf
    refine lv_lookup (off := 144) (tgt := 145) hx hb dX8_worked_1 (by decide) (by rw [hc5]; decide) (by decide) ?_
    refine lv_iload_n hx hb dX8_worked_145 rfl (lv_at hl 1 rfl) ?_
    refine lv_iload_n hx hb dX8_worked_146 rfl (lv_at hl 2 rfl) ?_
    refine lv_iadd hx hb dX8_worked_147 ?_
    have he := Option.some.inj hf
    have e0 := he
    exact hri _ _ _ rfl (congrArg (fun z => some (Value.int z)) e0.symm) dX8_worked_148 _ _ _ rfl hP hD hS
  have hf := in_el hc5 hf
  by_cases hc6 : x0 = 45
  · have hf := ip_el hc6 hf
    refine lv_lookup (off := 148) (tgt := 149) hx hb dX8_worked_1 (by decide) (by rw [hc6]; decide) (by decide) ?_
    refine lv_iload_n hx hb dX8_worked_149 rfl (lv_at hl 1 rfl) ?_
    refine lv_iload_n hx hb dX8_worked_150 rfl (lv_at hl 2 rfl) ?_
    refine lv_isub hx hb dX8_worked_151 ?_
    have he := Option.some.inj hf
    have e0 := he
    exact hri _ _ _ rfl (congrArg (fun z => some (Value.int z)) e0.symm) dX8_worked_152 _ _ _ rfl hP hD hS
  have hf := in_el hc6 hf
  by_cases hc7 : x0 = 47
  · have hf := ip_el hc7 hf
    refine lv_lookup (off := 156) (tgt := 157) hx hb dX8_worked_1 (by decide) (by rw [hc7]; decide) (by decide) ?_
    refine lv_iload_n hx hb dX8_worked_157 rfl (lv_at hl 2 rfl) ?_
    refine lv_if_ne (tgt := 165) hx hb dX8_worked_158 (by decide) (fun hc8 => ?_) (fun hc8 => ?_)
    · have hf := in_el hc8 hf
      refine lv_iload_n hx hb dX8_worked_165 rfl (lv_at hl 1 rfl) ?_
      refine lv_iload_n hx hb dX8_worked_166 rfl (lv_at hl 2 rfl) ?_
      obtain ⟨hz9, hf⟩ := dz_el hf
      refine lv_idiv hx hb dX8_worked_167 hz9 ?_
      have he := Option.some.inj hf
      have e0 := he
      exact hri _ _ _ rfl (congrArg (fun z => some (Value.int z)) e0.symm) dX8_worked_168 _ _ _ rfl hP hD hS
    · have hf := ip_el hc8 hf
      refine lv_iconst (v := 0) hx hb dX8_worked_161 (by decide) ?_
      refine lv_goto (tgt := 168) hx hb dX8_worked_162 (by decide) ?_
      have he := Option.some.inj hf
      have e0 := he
      exact hri _ _ _ rfl (congrArg (fun z => some (Value.int z)) e0.symm) dX8_worked_168 _ _ _ rfl hP hD hS
  have hf := in_el hc7 hf
  by_cases hc10 : x0 = 60
  · have hf := ip_el hc10 hf
    refine lv_lookup (off := 111) (tgt := 112) hx hb dX8_worked_1 (by decide) (by rw [hc10]; decide) (by decide) ?_
    refine lv_iload_n hx hb dX8_worked_112 rfl (lv_at hl 1 rfl) ?_
    refine lv_iload_n hx hb dX8_worked_113 rfl (lv_at hl 2 rfl) ?_
    refine lv_icmp_ge (tgt := 121) hx hb dX8_worked_114 (by decide) (fun hc11 => ?_) (fun hc11 => ?_)
    · have hf := ip_el hc11 hf
      refine lv_iconst (v := 0) hx hb dX8_worked_121 (by decide) ?_
      have he := Option.some.inj hf
      have e0 := he
      exact hri _ _ _ rfl (congrArg (fun z => some (Value.int z)) e0.symm) dX8_worked_122 _ _ _ rfl hP hD hS
    · have hf := in_el hc11 hf
      refine lv_iconst (v := 1) hx hb dX8_worked_117 (by decide) ?_
      refine lv_goto (tgt := 122) hx hb dX8_worked_118 (by decide) ?_
      have he := Option.some.inj hf
      have e0 := he
      exact hri _ _ _ rfl (congrArg (fun z => some (Value.int z)) e0.symm) dX8_worked_122 _ _ _ rfl hP hD hS
  have hf := in_el hc10 hf
  by_cases hc12 : x0 = 61
  · have hf := ip_el hc12 hf
    refine lv_lookup (off := 122) (tgt := 123) hx hb dX8_worked_1 (by decide) (by rw [hc12]; decide) (by decide) ?_
    refine lv_iload_n hx hb dX8_worked_123 rfl (lv_at hl 1 rfl) ?_
    refine lv_iload_n hx hb dX8_worked_124 rfl (lv_at hl 2 rfl) ?_
    refine lv_icmp_ne (tgt := 132) hx hb dX8_worked_125 (by decide) (fun hc13 => ?_) (fun hc13 => ?_)
    · have hf := in_el hc13 hf
      refine lv_iconst (v := 0) hx hb dX8_worked_132 (by decide) ?_
      have he := Option.some.inj hf
      have e0 := he
      exact hri _ _ _ rfl (congrArg (fun z => some (Value.int z)) e0.symm) dX8_worked_133 _ _ _ rfl hP hD hS
    · have hf := ip_el hc13 hf
      refine lv_iconst (v := 1) hx hb dX8_worked_128 (by decide) ?_
      refine lv_goto (tgt := 133) hx hb dX8_worked_129 (by decide) ?_
      have he := Option.some.inj hf
      have e0 := he
      exact hri _ _ _ rfl (congrArg (fun z => some (Value.int z)) e0.symm) dX8_worked_133 _ _ _ rfl hP hD hS
  have hf := in_el hc12 hf
  by_cases hc14 : x0 = 62
  · have hf := ip_el hc14 hf
    refine lv_lookup (off := 133) (tgt := 134) hx hb dX8_worked_1 (by decide) (by rw [hc14]; decide) (by decide) ?_
    refine lv_iload_n hx hb dX8_worked_134 rfl (lv_at hl 1 rfl) ?_
    refine lv_iload_n hx hb dX8_worked_135 rfl (lv_at hl 2 rfl) ?_
    refine lv_icmp_le (tgt := 143) hx hb dX8_worked_136 (by decide) (fun hc15 => ?_) (fun hc15 => ?_)
    · have hf := ip_el hc15 hf
      refine lv_iconst (v := 0) hx hb dX8_worked_143 (by decide) ?_
      have he := Option.some.inj hf
      have e0 := he
      exact hri _ _ _ rfl (congrArg (fun z => some (Value.int z)) e0.symm) dX8_worked_144 _ _ _ rfl hP hD hS
    · have hf := in_el hc15 hf
      refine lv_iconst (v := 1) hx hb dX8_worked_139 (by decide) ?_
      refine lv_goto (tgt := 144) hx hb dX8_worked_140 (by decide) ?_
      have he := Option.some.inj hf
      have e0 := he
      exact hri _ _ _ rfl (congrArg (fun z => some (Value.int z)) e0.symm) dX8_worked_144 _ _ _ rfl hP hD hS
  have hf := in_el hc14 hf
  by_cases hc16 : x0 = 124
  · have hf := ip_el hc16 hf
    refine lv_lookup (off := 83) (tgt := 84) hx hb dX8_worked_1 (by decide) (by rw [hc16]; decide) (by decide) ?_
    refine lv_iload_n hx hb dX8_worked_84 rfl (lv_at hl 1 rfl) ?_
    refine lv_if_ne (tgt := 92) hx hb dX8_worked_85 (by decide) (fun hc17 => ?_) (fun hc17 => ?_)
    · have hf := in_el hc17 hf
      refine lv_iconst (v := 1) hx hb dX8_worked_92 (by decide) ?_
      refine lv_goto (tgt := 97) hx hb dX8_worked_93 (by decide) ?_
      have he := Option.some.inj hf
      have e0 := he
      exact hri _ _ _ rfl (congrArg (fun z => some (Value.int z)) e0.symm) dX8_worked_97 _ _ _ rfl hP hD hS
    · have hf := ip_el hc17 hf
      refine lv_iload_n hx hb dX8_worked_88 rfl (lv_at hl 2 rfl) ?_
      refine lv_if_eq (tgt := 96) hx hb dX8_worked_89 (by decide) (fun hc18 => ?_) (fun hc18 => ?_)
      · have hf := ip_el hc18 hf
        refine lv_iconst (v := 0) hx hb dX8_worked_96 (by decide) ?_
        have he := Option.some.inj hf
        have e0 := he
        exact hri _ _ _ rfl (congrArg (fun z => some (Value.int z)) e0.symm) dX8_worked_97 _ _ _ rfl hP hD hS
      · have hf := in_el hc18 hf
        refine lv_iconst (v := 1) hx hb dX8_worked_92 (by decide) ?_
        refine lv_goto (tgt := 97) hx hb dX8_worked_93 (by decide) ?_
        have he := Option.some.inj hf
        have e0 := he
        exact hri _ _ _ rfl (congrArg (fun z => some (Value.int z)) e0.symm) dX8_worked_97 _ _ _ rfl hP hD hS
  have hf := in_el hc16 hf
  refine lv_lookup (off := 168) (tgt := 169) hx hb dX8_worked_1 (by decide) (by rw [lv_osw hc1 (by decide)]; rw [lv_osw hc4 (by decide)]; rw [lv_osw hc5 (by decide)]; rw [lv_osw hc6 (by decide)]; rw [lv_osw hc7 (by decide)]; rw [lv_osw hc10 (by decide)]; rw [lv_osw hc12 (by decide)]; rw [lv_osw hc14 (by decide)]; rw [lv_osw hc16 (by decide)]; rfl) (by decide) ?_
  refine lv_iload_n hx hb dX8_worked_169 rfl (lv_at hl 2 rfl) ?_
  refine lv_if_ne (tgt := 177) hx hb dX8_worked_170 (by decide) (fun hc19 => ?_) (fun hc19 => ?_)
  · have hf := in_el hc19 hf
    refine lv_iload_n hx hb dX8_worked_177 rfl (lv_at hl 1 rfl) ?_
    refine lv_iload_n hx hb dX8_worked_178 rfl (lv_at hl 2 rfl) ?_
    obtain ⟨hz20, hf⟩ := dz_el hf
    refine lv_irem hx hb dX8_worked_179 hz20 ?_
    have he := Option.some.inj hf
    have e0 := he
    exact hri _ _ _ rfl (congrArg (fun z => some (Value.int z)) e0.symm) dX8_worked_180 _ _ _ rfl hP hD hS
  · have hf := ip_el hc19 hf
    refine lv_iconst (v := 0) hx hb dX8_worked_173 (by decide) ?_
    refine lv_goto (tgt := 180) hx hb dX8_worked_174 (by decide) ?_
    have he := Option.some.inj hf
    have e0 := he
    exact hri _ _ _ rfl (congrArg (fun z => some (Value.int z)) e0.symm) dX8_worked_180 _ _ _ rfl hP hD hS

def fX8_givenBy_90 (k5 : Int32 → Int32 → Int32 → Int32 → ST → Option (Int32 × ST)) (y1 : Int32) (y2 : Int32) (y3 : Int32) (y4 : Int32) (y5 : Int32) (M : ST) : Option (Int32 × ST) :=
  (if y5 = (-21) then dc_ck (y3 - 1) 80 (dc_ck (y3 - 1) 80 (dc_lt (sti M 26 (Int32.toNatClampNeg (y3 - 1)) (-(M 26 (Int32.toNatClampNeg (y3 - 1))))) (fun M_17 => dc_lt (y4 + 1) (fun v18 => k5 y1 y2 y3 v18 M_17)))) else dc_ck (y3 - 1) 80 ((if (M 26 (Int32.toNatClampNeg (y3 - 1))) = 0 then dc_ck (y3 - 1) 80 (dc_lt (sti M 26 (Int32.toNatClampNeg (y3 - 1)) 1) (fun M_13 => dc_lt (y4 + 1) (fun v14 => k5 y1 y2 y3 v14 M_13))) else dc_ck (y3 - 1) 80 (dc_lt (sti M 26 (Int32.toNatClampNeg (y3 - 1)) 0) (fun M_10 => dc_lt (y4 + 1) (fun v11 => k5 y1 y2 y3 v11 M_10))))))
def fX8_givenBy_5_s (k5 : Int32 → Int32 → Int32 → Int32 → ST → Option (Int32 × ST)) (y1 : Int32) (y2 : Int32) (y3 : Int32) (y4 : Int32) (M : ST) : Option (Int32 × ST) :=
  (if (M 1 190) ≤ y4 then some ((M 26 0), M) else dc_ck (191 + y4) 271 (dc_lt (M 1 (Int32.toNatClampNeg (191 + y4))) (fun v3 => (if v3 < 10000 then (if v3 = (-20) then fX8_givenBy_90 k5 y1 y2 y3 y4 v3 M else (if v3 = (-21) then fX8_givenBy_90 k5 y1 y2 y3 y4 v3 M else (if v3 < 0 then dc_b1 (fX8_named ((-10) - v3) y1 y2 M) (fun r21 => dc_ck y3 80 (dc_lt (sti M 26 (Int32.toNatClampNeg y3) r21) (fun M_24 => dc_lt (y3 + 1) (fun v25 => dc_lt (y4 + 1) (fun v26 => k5 y1 y2 v25 v26 M_24))))) else dc_ck y3 80 (dc_lt (sti M 26 (Int32.toNatClampNeg y3) v3) (fun M_28 => dc_lt (y3 + 1) (fun v29 => dc_lt (y4 + 1) (fun v30 => k5 y1 y2 v29 v30 M_28))))))) else dc_lt (y3 + (-1)) (fun v31 => dc_ck (v31 - 1) 80 (dc_ck v31 80 (dc_b1 (fX8_worked (v3 - 10000) (M 26 (Int32.toNatClampNeg (v31 - 1))) (M 26 (Int32.toNatClampNeg v31))) (fun r34 => dc_ck (v31 - 1) 80 (dc_lt (sti M 26 (Int32.toNatClampNeg (v31 - 1)) r34) (fun M_37 => dc_lt (y4 + 1) (fun v38 => k5 y1 y2 v31 v38 M_37)))))))))))
def fX8_givenBy_5 : Nat → Int32 → Int32 → Int32 → Int32 → ST → Option (Int32 × ST)
  | 0 => fun _ _ _ _ _ => none
  | n + 1 => fX8_givenBy_5_s (fX8_givenBy_5 n)
def fX8_givenBy (x1 : Int32) (x2 : Int32) (M : ST) : Option (Int32 × ST) :=
  fX8_givenBy_5 400 x1 x2 0 0 M
abbrev rmX8_givenBy : Room := { frames := 2, cells := 0, slots := 0, locals := 46 }
set_option maxRecDepth 100000 in
set_option maxHeartbeats 4000000 in
theorem tX8_givenBy (l : Launch) (D : va_G) (cs : Nat → ClassId) (a : Nat → Nat) (nn : Nat → Nat) (x1 : Int32) (x2 : Int32) (M : ST) (r0 : Int32) (Mz : ST) (hf : fX8_givenBy x1 x2 M = some (r0, Mz)) : CG l yX8_givenBy (wsm yX8_givenBy cX8_givenBy 6 (some .int)) rmX8_givenBy D cs [.ref (a 0), .int x1, .int x2] (some (.int r0)) (kX8 cs a (.ref (nn 0)) M) (kX8 cs a (.ref (nn 0)) Mz) := by
  refine CG.intro (by decide) (Nat.le_of_ble_eq_true rfl) ?_
  intro p e s m below meth c A Q hx hb hml hown hu hK hZ hP0 hD0 hS0 hA hri hrz hrl hrv hra ls0 hl0
  have h90 : ∀ (k5 : Int32 → Int32 → Int32 → Int32 → ST → Option (Int32 × ST)), (∀ (y1 : Int32) (y2 : Int32) (y3 : Int32) (y4 : Int32) (M : ST) (H : Heap) (locs : List Loc) (ls : Array Slot), va_P D vwCl (kX8 cs a (.ref (nn 0)) M) H → va_D A (kX8 cs a (.ref (nn 0)) M) → va_S A s.heap H locs → lv_has ls 6 [(0, .ref (a 0)), (1, .int y1), (2, .int y2), (3, .int y3), (4, .int y4)] → k5 y1 y2 y3 y4 M = some (r0, Mz) → W p l e rmX8_givenBy s m [.ref (a 0), .int x1, .int x2].toArray below meth c H locs 0 0 Q (F0 m 5 ls [])) → ∀ (y1 : Int32) (y2 : Int32) (y3 : Int32) (y4 : Int32) (y5 : Int32) (M : ST) (H : Heap) (locs : List Loc) (ls : Array Slot), va_P D vwCl (kX8 cs a (.ref (nn 0)) M) H → va_D A (kX8 cs a (.ref (nn 0)) M) → va_S A s.heap H locs → lv_has ls 6 [(0, .ref (a 0)), (1, .int y1), (2, .int y2), (3, .int y3), (4, .int y4), (5, .int y5)] → fX8_givenBy_90 k5 y1 y2 y3 y4 y5 M = some (r0, Mz) → W p l e rmX8_givenBy s m [.ref (a 0), .int x1, .int x2].toArray below meth c H locs 0 0 Q (F0 m 90 ls []) := by
    intro k5 hk5 y1 y2 y3 y4 y5 M H locs ls hP hD hS hl hf
    unfold fX8_givenBy_90 at hf
    refine lv_aload_n hx hb dX8_givenBy_90 rfl (lv_at hl 0 rfl) ?_
    refine va_get (D := D) (ci := 8) (v := .ref (a 26)) (C := RX8) (T := TX8) (N := 26) hx hb hu inX8 hown hK.1 hP 0 rfl rfl 25 (by decide) (hu _ q942) (fun _ h9 => h9) rfl dX8_givenBy_91 ?_
    refine lv_iload_n hx hb dX8_givenBy_94 rfl (lv_at hl 3 rfl) ?_
    refine lv_iconst (v := 1) hx hb dX8_givenBy_95 (by decide) ?_
    refine lv_isub hx hb dX8_givenBy_96 ?_
    refine lv_iload hx hb dX8_givenBy_97 (lv_at hl 5 rfl) ?_
    refine lv_bipush (v := (-21)) hx hb dX8_givenBy_99 (by decide) ?_
    refine lv_icmp_ne (tgt := 116) hx hb dX8_givenBy_101 (by decide) (fun hc6 => ?_) (fun hc6 => ?_)
    · have hf := in_el hc6 hf
      refine lv_aload_n hx hb dX8_givenBy_116 rfl (lv_at hl 0 rfl) ?_
      refine va_get (D := D) (ci := 8) (v := .ref (a 26)) (C := RX8) (T := TX8) (N := 26) hx hb hu inX8 hown hK.1 hP 0 rfl rfl 25 (by decide) (hu _ q942) (fun _ h9 => h9) rfl dX8_givenBy_117 ?_
      refine lv_iload_n hx hb dX8_givenBy_120 rfl (lv_at hl 3 rfl) ?_
      refine lv_iconst (v := 1) hx hb dX8_givenBy_121 (by decide) ?_
      refine lv_isub hx hb dX8_givenBy_122 ?_
      obtain ⟨hi7, hf⟩ := ck_el hf
      refine va_iald hx hb hK.1 hP 14 0 rfl rfl hi7 dX8_givenBy_123 ?_
      refine lv_if_ne (tgt := 131) hx hb dX8_givenBy_124 (by decide) (fun hc8 => ?_) (fun hc8 => ?_)
      · have hf := in_el hc8 hf
        refine lv_iconst (v := 0) hx hb dX8_givenBy_131 (by decide) ?_
        obtain ⟨hi9, hf⟩ := ck_el hf
        obtain ⟨M_10, hM_10, hf⟩ := lt_el hf
        refine va_iast hx hb hK.1 hP hD hS 14 0 rfl rfl hi9 dX8_givenBy_132 (fun H locs hP hD hS => ?_)
        have hP : va_P D vwCl (kX8 cs a (.ref (nn 0)) M_10) H := by rw [hM_10]; exact hP
        have hD : va_D A (kX8 cs a (.ref (nn 0)) M_10) := by rw [hM_10]; exact hD
        refine lv_goto (tgt := 166) hx hb dX8_givenBy_133 (by decide) ?_
        obtain ⟨v11, hv11, hf⟩ := lt_el hf
        refine lv_iinc (v := v11) (lv' := [(4, .int v11), (0, .ref (a 0)), (1, .int y1), (2, .int y2), (3, .int y3), (5, .int y5)]) hx hb dX8_givenBy_166 hl (k := 4) rfl (by rw [hv11]; rfl) (by decide) rfl (fun ls hl => ?_)
        refine lv_goto (tgt := 5) hx hb dX8_givenBy_169 (by decide) ?_
        exact hk5 y1 y2 y3 v11 M_10 _ _ _ hP hD hS (lv_sub hl [1, 2, 3, 4, 0] rfl) hf
      · have hf := ip_el hc8 hf
        refine lv_iconst (v := 1) hx hb dX8_givenBy_127 (by decide) ?_
        refine lv_goto (tgt := 132) hx hb dX8_givenBy_128 (by decide) ?_
        obtain ⟨hi12, hf⟩ := ck_el hf
        obtain ⟨M_13, hM_13, hf⟩ := lt_el hf
        refine va_iast hx hb hK.1 hP hD hS 14 0 rfl rfl hi12 dX8_givenBy_132 (fun H locs hP hD hS => ?_)
        have hP : va_P D vwCl (kX8 cs a (.ref (nn 0)) M_13) H := by rw [hM_13]; exact hP
        have hD : va_D A (kX8 cs a (.ref (nn 0)) M_13) := by rw [hM_13]; exact hD
        refine lv_goto (tgt := 166) hx hb dX8_givenBy_133 (by decide) ?_
        obtain ⟨v14, hv14, hf⟩ := lt_el hf
        refine lv_iinc (v := v14) (lv' := [(4, .int v14), (0, .ref (a 0)), (1, .int y1), (2, .int y2), (3, .int y3), (5, .int y5)]) hx hb dX8_givenBy_166 hl (k := 4) rfl (by rw [hv14]; rfl) (by decide) rfl (fun ls hl => ?_)
        refine lv_goto (tgt := 5) hx hb dX8_givenBy_169 (by decide) ?_
        exact hk5 y1 y2 y3 v14 M_13 _ _ _ hP hD hS (lv_sub hl [1, 2, 3, 4, 0] rfl) hf
    · have hf := ip_el hc6 hf
      refine lv_aload_n hx hb dX8_givenBy_104 rfl (lv_at hl 0 rfl) ?_
      refine va_get (D := D) (ci := 8) (v := .ref (a 26)) (C := RX8) (T := TX8) (N := 26) hx hb hu inX8 hown hK.1 hP 0 rfl rfl 25 (by decide) (hu _ q942) (fun _ h9 => h9) rfl dX8_givenBy_105 ?_
      refine lv_iload_n hx hb dX8_givenBy_108 rfl (lv_at hl 3 rfl) ?_
      refine lv_iconst (v := 1) hx hb dX8_givenBy_109 (by decide) ?_
      refine lv_isub hx hb dX8_givenBy_110 ?_
      obtain ⟨hi15, hf⟩ := ck_el hf
      refine va_iald hx hb hK.1 hP 14 0 rfl rfl hi15 dX8_givenBy_111 ?_
      refine lv_ineg hx hb dX8_givenBy_112 ?_
      refine lv_goto (tgt := 132) hx hb dX8_givenBy_113 (by decide) ?_
      obtain ⟨hi16, hf⟩ := ck_el hf
      obtain ⟨M_17, hM_17, hf⟩ := lt_el hf
      refine va_iast hx hb hK.1 hP hD hS 14 0 rfl rfl hi16 dX8_givenBy_132 (fun H locs hP hD hS => ?_)
      have hP : va_P D vwCl (kX8 cs a (.ref (nn 0)) M_17) H := by rw [hM_17]; exact hP
      have hD : va_D A (kX8 cs a (.ref (nn 0)) M_17) := by rw [hM_17]; exact hD
      refine lv_goto (tgt := 166) hx hb dX8_givenBy_133 (by decide) ?_
      obtain ⟨v18, hv18, hf⟩ := lt_el hf
      refine lv_iinc (v := v18) (lv' := [(4, .int v18), (0, .ref (a 0)), (1, .int y1), (2, .int y2), (3, .int y3), (5, .int y5)]) hx hb dX8_givenBy_166 hl (k := 4) rfl (by rw [hv18]; rfl) (by decide) rfl (fun ls hl => ?_)
      refine lv_goto (tgt := 5) hx hb dX8_givenBy_169 (by decide) ?_
      exact hk5 y1 y2 y3 v18 M_17 _ _ _ hP hD hS (lv_sub hl [1, 2, 3, 4, 0] rfl) hf
  have hs5 : ∀ (k5 : Int32 → Int32 → Int32 → Int32 → ST → Option (Int32 × ST)), (∀ (y1 : Int32) (y2 : Int32) (y3 : Int32) (y4 : Int32) (M : ST) (H : Heap) (locs : List Loc) (ls : Array Slot), va_P D vwCl (kX8 cs a (.ref (nn 0)) M) H → va_D A (kX8 cs a (.ref (nn 0)) M) → va_S A s.heap H locs → lv_has ls 6 [(0, .ref (a 0)), (1, .int y1), (2, .int y2), (3, .int y3), (4, .int y4)] → k5 y1 y2 y3 y4 M = some (r0, Mz) → W p l e rmX8_givenBy s m [.ref (a 0), .int x1, .int x2].toArray below meth c H locs 0 0 Q (F0 m 5 ls [])) → ∀ (y1 : Int32) (y2 : Int32) (y3 : Int32) (y4 : Int32) (M : ST) (H : Heap) (locs : List Loc) (ls : Array Slot), va_P D vwCl (kX8 cs a (.ref (nn 0)) M) H → va_D A (kX8 cs a (.ref (nn 0)) M) → va_S A s.heap H locs → lv_has ls 6 [(0, .ref (a 0)), (1, .int y1), (2, .int y2), (3, .int y3), (4, .int y4)] → fX8_givenBy_5_s k5 y1 y2 y3 y4 M = some (r0, Mz) → W p l e rmX8_givenBy s m [.ref (a 0), .int x1, .int x2].toArray below meth c H locs 0 0 Q (F0 m 5 ls []) := by
    intro k5 hk5 y1 y2 y3 y4 M H locs ls hP hD hS hl hf
    unfold fX8_givenBy_5_s at hf
    refine lv_iload hx hb dX8_givenBy_5 (lv_at hl 4 rfl) ?_
    refine lv_aload_n hx hb dX8_givenBy_7 rfl (lv_at hl 0 rfl) ?_
    refine va_get (D := D) (ci := 8) (v := .ref (a 1)) (C := RX8) (T := TX8) (N := 26) hx hb hu inX8 hown hK.1 hP 0 rfl rfl 0 (by decide) (hu _ q917) (fun _ h9 => h9) rfl dX8_givenBy_8 ?_
    refine lv_sipush (v := 190) hx hb dX8_givenBy_11 (by decide) ?_
    refine ia_lit hx hb hK hP 1 190 rfl (by decide) dX8_givenBy_14 ?_
    refine lv_icmp_ge (tgt := 172) hx hb dX8_givenBy_15 (by decide) (fun hc1 => ?_) (fun hc1 => ?_)
    · have hf := ip_el hc1 hf
      refine lv_aload_n hx hb dX8_givenBy_172 rfl (lv_at hl 0 rfl) ?_
      refine va_get (D := D) (ci := 8) (v := .ref (a 26)) (C := RX8) (T := TX8) (N := 26) hx hb hu inX8 hown hK.1 hP 0 rfl rfl 25 (by decide) (hu _ q942) (fun _ h9 => h9) rfl dX8_givenBy_173 ?_
      refine lv_iconst (v := 0) hx hb dX8_givenBy_176 (by decide) ?_
      refine ia_lit hx hb hK hP 14 0 rfl (by decide) dX8_givenBy_177 ?_
      have he := Option.some.inj hf
      obtain ⟨e0, e1⟩ := Prod.mk.inj he
      exact hri _ _ _ rfl (congrArg (fun z => some (Value.int z)) e0.symm) dX8_givenBy_178 _ _ _ (by rw [e1]) hP hD hS
    · have hf := in_el hc1 hf
      refine lv_aload_n hx hb dX8_givenBy_18 rfl (lv_at hl 0 rfl) ?_
      refine va_get (D := D) (ci := 8) (v := .ref (a 1)) (C := RX8) (T := TX8) (N := 26) hx hb hu inX8 hown hK.1 hP 0 rfl rfl 0 (by decide) (hu _ q917) (fun _ h9 => h9) rfl dX8_givenBy_19 ?_
      refine lv_sipush (v := 191) hx hb dX8_givenBy_22 (by decide) ?_
      refine lv_iload hx hb dX8_givenBy_25 (lv_at hl 4 rfl) ?_
      refine lv_iadd hx hb dX8_givenBy_27 ?_
      obtain ⟨hi2, hf⟩ := ck_el hf
      refine va_iald hx hb hK.1 hP 1 0 rfl rfl hi2 dX8_givenBy_28 ?_
      obtain ⟨v3, hv3, hf⟩ := lt_el hf
      refine lv_tope hv3 ?_
      refine lv_istore (lv' := [(5, .int v3), (0, .ref (a 0)), (1, .int y1), (2, .int y2), (3, .int y3), (4, .int y4)]) hx hb dX8_givenBy_29 hl (by decide) rfl (fun ls hl => ?_)
      refine lv_iload hx hb dX8_givenBy_31 (lv_at hl 0 rfl) ?_
      refine lv_sipush (v := 10000) hx hb dX8_givenBy_33 (by decide) ?_
      refine lv_icmp_lt (tgt := 76) hx hb dX8_givenBy_36 (by decide) (fun hc4 => ?_) (fun hc4 => ?_)
      · have hf := ip_el hc4 hf
        refine lv_iload hx hb dX8_givenBy_76 (lv_at hl 0 rfl) ?_
        refine lv_bipush (v := (-20)) hx hb dX8_givenBy_78 (by decide) ?_
        refine lv_icmp_eq (tgt := 90) hx hb dX8_givenBy_80 (by decide) (fun hc5 => ?_) (fun hc5 => ?_)
        · have hf := ip_el hc5 hf
          exact h90 k5 hk5 y1 y2 y3 y4 v3 M _ _ _ hP hD hS (lv_sub hl [1, 2, 3, 4, 5, 0] rfl) hf
        · have hf := in_el hc5 hf
          refine lv_iload hx hb dX8_givenBy_83 (lv_at hl 0 rfl) ?_
          refine lv_bipush (v := (-21)) hx hb dX8_givenBy_85 (by decide) ?_
          refine lv_icmp_ne (tgt := 136) hx hb dX8_givenBy_87 (by decide) (fun hc19 => ?_) (fun hc19 => ?_)
          · have hf := in_el hc19 hf
            refine lv_aload_n hx hb dX8_givenBy_136 rfl (lv_at hl 1 rfl) ?_
            refine va_get (D := D) (ci := 8) (v := .ref (a 26)) (C := RX8) (T := TX8) (N := 26) hx hb hu inX8 hown hK.1 hP 0 rfl rfl 25 (by decide) (hu _ q942) (fun _ h9 => h9) rfl dX8_givenBy_137 ?_
            refine lv_iload_n hx hb dX8_givenBy_140 rfl (lv_at hl 4 rfl) ?_
            refine lv_iload hx hb dX8_givenBy_141 (lv_at hl 0 rfl) ?_
            refine lv_if_lt (tgt := 151) hx hb dX8_givenBy_143 (by decide) (fun hc20 => ?_) (fun hc20 => ?_)
            · have hf := ip_el hc20 hf
              refine lv_aload_n hx hb dX8_givenBy_151 rfl (lv_at hl 1 rfl) ?_
              refine lv_bipush (v := (-10)) hx hb dX8_givenBy_152 (by decide) ?_
              refine lv_iload hx hb dX8_givenBy_154 (lv_at hl 0 rfl) ?_
              refine lv_isub hx hb dX8_givenBy_156 ?_
              refine lv_iload_n hx hb dX8_givenBy_157 rfl (lv_at hl 2 rfl) ?_
              refine lv_iload_n hx hb dX8_givenBy_158 rfl (lv_at hl 3 rfl) ?_
              obtain ⟨r21, hg22, hf⟩ := b1_el hf
              refine cc_V1 (w' := (kX8 cs a (.ref (nn 0)) M)) (st1 := [.int r21, .int y3, .ref (a 26)]) [.int ((-10) - v3), .int y1, .int y2] hx hb hml hown hu (tX8_named l D cs a nn ((-10) - v3) y1 y2 M r21 hg22) q1069 q62 q1066 q1068 q31 pdX8_named ⟨rfl, rfl, Nat.le_of_ble_eq_true rfl, Nat.le_of_ble_eq_true rfl⟩ hK hZ hP hD hS hA rfl rfl rfl rfl hl.1 rfl (Nat.le_of_ble_eq_true rfl) dX8_givenBy_159 rfl (fun H locs hP hD hS => ?_)
              obtain ⟨hi23, hf⟩ := ck_el hf
              obtain ⟨M_24, hM_24, hf⟩ := lt_el hf
              refine va_iast hx hb hK.1 hP hD hS 14 0 rfl rfl hi23 dX8_givenBy_162 (fun H locs hP hD hS => ?_)
              have hP : va_P D vwCl (kX8 cs a (.ref (nn 0)) M_24) H := by rw [hM_24]; exact hP
              have hD : va_D A (kX8 cs a (.ref (nn 0)) M_24) := by rw [hM_24]; exact hD
              obtain ⟨v25, hv25, hf⟩ := lt_el hf
              refine lv_iinc (v := v25) (lv' := [(3, .int v25), (5, .int v3), (0, .ref (a 0)), (1, .int y1), (2, .int y2), (4, .int y4)]) hx hb dX8_givenBy_163 hl (k := 4) rfl (by rw [hv25]; rfl) (by decide) rfl (fun ls hl => ?_)
              obtain ⟨v26, hv26, hf⟩ := lt_el hf
              refine lv_iinc (v := v26) (lv' := [(4, .int v26), (3, .int v25), (5, .int v3), (0, .ref (a 0)), (1, .int y1), (2, .int y2)]) hx hb dX8_givenBy_166 hl (k := 5) rfl (by rw [hv26]; rfl) (by decide) rfl (fun ls hl => ?_)
              refine lv_goto (tgt := 5) hx hb dX8_givenBy_169 (by decide) ?_
              exact hk5 y1 y2 v25 v26 M_24 _ _ _ hP hD hS (lv_sub hl [3, 4, 5, 1, 0] rfl) hf
            · have hf := in_el hc20 hf
              refine lv_iload hx hb dX8_givenBy_146 (lv_at hl 0 rfl) ?_
              refine lv_goto (tgt := 162) hx hb dX8_givenBy_148 (by decide) ?_
              obtain ⟨hi27, hf⟩ := ck_el hf
              obtain ⟨M_28, hM_28, hf⟩ := lt_el hf
              refine va_iast hx hb hK.1 hP hD hS 14 0 rfl rfl hi27 dX8_givenBy_162 (fun H locs hP hD hS => ?_)
              have hP : va_P D vwCl (kX8 cs a (.ref (nn 0)) M_28) H := by rw [hM_28]; exact hP
              have hD : va_D A (kX8 cs a (.ref (nn 0)) M_28) := by rw [hM_28]; exact hD
              obtain ⟨v29, hv29, hf⟩ := lt_el hf
              refine lv_iinc (v := v29) (lv' := [(3, .int v29), (5, .int v3), (0, .ref (a 0)), (1, .int y1), (2, .int y2), (4, .int y4)]) hx hb dX8_givenBy_163 hl (k := 4) rfl (by rw [hv29]; rfl) (by decide) rfl (fun ls hl => ?_)
              obtain ⟨v30, hv30, hf⟩ := lt_el hf
              refine lv_iinc (v := v30) (lv' := [(4, .int v30), (3, .int v29), (5, .int v3), (0, .ref (a 0)), (1, .int y1), (2, .int y2)]) hx hb dX8_givenBy_166 hl (k := 5) rfl (by rw [hv30]; rfl) (by decide) rfl (fun ls hl => ?_)
              refine lv_goto (tgt := 5) hx hb dX8_givenBy_169 (by decide) ?_
              exact hk5 y1 y2 v29 v30 M_28 _ _ _ hP hD hS (lv_sub hl [3, 4, 5, 1, 0] rfl) hf
          · have hf := ip_el hc19 hf
            exact h90 k5 hk5 y1 y2 y3 y4 v3 M _ _ _ hP hD hS (lv_sub hl [1, 2, 3, 4, 5, 0] rfl) hf
      · have hf := in_el hc4 hf
        obtain ⟨v31, hv31, hf⟩ := lt_el hf
        refine lv_iinc (v := v31) (lv' := [(3, .int v31), (5, .int v3), (0, .ref (a 0)), (1, .int y1), (2, .int y2), (4, .int y4)]) hx hb dX8_givenBy_39 hl (k := 4) rfl (by rw [hv31]; rfl) (by decide) rfl (fun ls hl => ?_)
        refine lv_aload_n hx hb dX8_givenBy_42 rfl (lv_at hl 2 rfl) ?_
        refine va_get (D := D) (ci := 8) (v := .ref (a 26)) (C := RX8) (T := TX8) (N := 26) hx hb hu inX8 hown hK.1 hP 0 rfl rfl 25 (by decide) (hu _ q942) (fun _ h9 => h9) rfl dX8_givenBy_43 ?_
        refine lv_iload_n hx hb dX8_givenBy_46 rfl (lv_at hl 0 rfl) ?_
        refine lv_iconst (v := 1) hx hb dX8_givenBy_47 (by decide) ?_
        refine lv_isub hx hb dX8_givenBy_48 ?_
        refine lv_iload hx hb dX8_givenBy_49 (lv_at hl 1 rfl) ?_
        refine lv_sipush (v := 10000) hx hb dX8_givenBy_51 (by decide) ?_
        refine lv_isub hx hb dX8_givenBy_54 ?_
        refine lv_aload_n hx hb dX8_givenBy_55 rfl (lv_at hl 2 rfl) ?_
        refine va_get (D := D) (ci := 8) (v := .ref (a 26)) (C := RX8) (T := TX8) (N := 26) hx hb hu inX8 hown hK.1 hP 0 rfl rfl 25 (by decide) (hu _ q942) (fun _ h9 => h9) rfl dX8_givenBy_56 ?_
        refine lv_iload_n hx hb dX8_givenBy_59 rfl (lv_at hl 0 rfl) ?_
        refine lv_iconst (v := 1) hx hb dX8_givenBy_60 (by decide) ?_
        refine lv_isub hx hb dX8_givenBy_61 ?_
        obtain ⟨hi32, hf⟩ := ck_el hf
        refine va_iald hx hb hK.1 hP 14 0 rfl rfl hi32 dX8_givenBy_62 ?_
        refine lv_aload_n hx hb dX8_givenBy_63 rfl (lv_at hl 2 rfl) ?_
        refine va_get (D := D) (ci := 8) (v := .ref (a 26)) (C := RX8) (T := TX8) (N := 26) hx hb hu inX8 hown hK.1 hP 0 rfl rfl 25 (by decide) (hu _ q942) (fun _ h9 => h9) rfl dX8_givenBy_64 ?_
        refine lv_iload_n hx hb dX8_givenBy_67 rfl (lv_at hl 0 rfl) ?_
        obtain ⟨hi33, hf⟩ := ck_el hf
        refine va_iald hx hb hK.1 hP 14 0 rfl rfl hi33 dX8_givenBy_68 ?_
        obtain ⟨r34, hg35, hf⟩ := b1_el hf
        refine cc_S0 (st1 := [.int r34, .int (v31 - 1), .ref (a 26)]) [.int (v3 - 10000), .int (M 26 (Int32.toNatClampNeg (v31 - 1))), .int (M 26 (Int32.toNatClampNeg v31))] hx hb hml hown hu (tX8_worked l D cs (v3 - 10000) (M 26 (Int32.toNatClampNeg (v31 - 1))) (M 26 (Int32.toNatClampNeg v31)) r34 hg35) q1065 q62 q1063 q1064 pdX8_worked ⟨rfl, rfl, Nat.le_of_ble_eq_true rfl, Nat.le_of_ble_eq_true rfl⟩ hK hZ hP hD hS hA rfl hl.1 rfl (Nat.le_of_ble_eq_true rfl) dX8_givenBy_69 rfl (fun H locs hP hD hS => ?_)
        obtain ⟨hi36, hf⟩ := ck_el hf
        obtain ⟨M_37, hM_37, hf⟩ := lt_el hf
        refine va_iast hx hb hK.1 hP hD hS 14 0 rfl rfl hi36 dX8_givenBy_72 (fun H locs hP hD hS => ?_)
        have hP : va_P D vwCl (kX8 cs a (.ref (nn 0)) M_37) H := by rw [hM_37]; exact hP
        have hD : va_D A (kX8 cs a (.ref (nn 0)) M_37) := by rw [hM_37]; exact hD
        refine lv_goto (tgt := 166) hx hb dX8_givenBy_73 (by decide) ?_
        obtain ⟨v38, hv38, hf⟩ := lt_el hf
        refine lv_iinc (v := v38) (lv' := [(4, .int v38), (3, .int v31), (5, .int v3), (0, .ref (a 0)), (1, .int y1), (2, .int y2)]) hx hb dX8_givenBy_166 hl (k := 5) rfl (by rw [hv38]; rfl) (by decide) rfl (fun ls hl => ?_)
        refine lv_goto (tgt := 5) hx hb dX8_givenBy_169 (by decide) ?_
        exact hk5 y1 y2 v31 v38 M_37 _ _ _ hP hD hS (lv_sub hl [3, 4, 5, 1, 0] rfl) hf
  have h5 : ∀ (n : Nat), ∀ (y1 : Int32) (y2 : Int32) (y3 : Int32) (y4 : Int32) (M : ST) (H : Heap) (locs : List Loc) (ls : Array Slot), va_P D vwCl (kX8 cs a (.ref (nn 0)) M) H → va_D A (kX8 cs a (.ref (nn 0)) M) → va_S A s.heap H locs → lv_has ls 6 [(0, .ref (a 0)), (1, .int y1), (2, .int y2), (3, .int y3), (4, .int y4)] → fX8_givenBy_5 n y1 y2 y3 y4 M = some (r0, Mz) → W p l e rmX8_givenBy s m [.ref (a 0), .int x1, .int x2].toArray below meth c H locs 0 0 Q (F0 m 5 ls []) := by
    intro n
    induction n with
    | zero => intro y1 y2 y3 y4 M H locs ls hP hD hS hl hf; exact no_el hf
    | succ n ih => intro y1 y2 y3 y4 M H locs ls hP hD hS hl hf; exact hs5 _ ih y1 y2 y3 y4 M _ _ _ hP hD hS hl hf
  have hl : lv_has ls0 6 [(0, .ref (a 0)), (1, .int x1), (2, .int x2)] := hl0
  have hP := hP0
  have hD := hD0
  have hS := hS0
  unfold fX8_givenBy at hf
  refine lv_iconst (v := 0) hx hb dX8_givenBy_0 (by decide) ?_
  refine lv_istore_n (lv' := [(3, .int 0), (0, .ref (a 0)), (1, .int x1), (2, .int x2)]) hx hb dX8_givenBy_1 rfl hl (by decide) rfl (fun ls hl => ?_)
  refine lv_iconst (v := 0) hx hb dX8_givenBy_2 (by decide) ?_
  refine lv_istore (lv' := [(4, .int 0), (3, .int 0), (0, .ref (a 0)), (1, .int x1), (2, .int x2)]) hx hb dX8_givenBy_3 hl (by decide) rfl (fun ls hl => ?_)
  exact h5 400 x1 x2 0 0 M _ _ _ hP hD hS (lv_sub hl [2, 3, 4, 1, 0] rfl) hf

def fX8_isFit (x0 : Int32) (x1 : Int32) : Option Int32 :=
  (if x0 = 0 then dc_b1 (fX8_isIn (x1.toInt64) 0 6) (fun r10 => dc_bl r10 (some r10)) else (if x0 = 1 then dc_b1 (fX8_isIn (x1.toInt64) 20 99) (fun r8 => dc_bl r8 (some r8)) else (if x0 = 2 then dc_b1 (fX8_isIn (x1.toInt64) 0 3) (fun r6 => dc_bl r6 (some r6)) else dc_b1 (fX8_isIn (x1.toInt64) 0 1023) (fun r4 => dc_bl r4 (some r4)))))
abbrev rmX8_isFit : Room := { frames := 1, cells := 0, slots := 0, locals := 25 }
set_option maxRecDepth 100000 in
set_option maxHeartbeats 4000000 in
theorem tX8_isFit (l : Launch) (D : va_G) (cs : Nat → ClassId) (x0 : Int32) (x1 : Int32) (r0 : Int32) (hf : fX8_isFit x0 x1 = some r0) : CG l yX8_isFit (wsm yX8_isFit cX8_isFit 2 (some .boolean)) rmX8_isFit D cs [.int x0, .int x1] (some (.int r0)) ([] : va_W) ([] : va_W) := by
  refine CG.intro (by decide) (Nat.le_of_ble_eq_true rfl) ?_
  intro p e s m below meth c A Q hx hb hml hown hu hK hZ hP0 hD0 hS0 hA hri hrz hrl hrv hra ls0 hl0
  have hl : lv_has ls0 2 [(0, .int x0), (1, .int x1)] := hl0
  have hP := hP0
  have hD := hD0
  have hS := hS0
  unfold fX8_isFit at hf
  refine lv_iload_n hx hb dX8_isFit_0 rfl (lv_at hl 0 rfl) ?_
  refine lv_if_ne (tgt := 16) hx hb dX8_isFit_1 (by decide) (fun hc1 => ?_) (fun hc1 => ?_)
  · have hf := in_el hc1 hf
    refine lv_iload_n hx hb dX8_isFit_16 rfl (lv_at hl 0 rfl) ?_
    refine lv_iconst (v := 1) hx hb dX8_isFit_17 (by decide) ?_
    refine lv_icmp_ne (tgt := 35) hx hb dX8_isFit_18 (by decide) (fun hc2 => ?_) (fun hc2 => ?_)
    · have hf := in_el hc2 hf
      refine lv_iload_n hx hb dX8_isFit_35 rfl (lv_at hl 0 rfl) ?_
      refine lv_iconst (v := 2) hx hb dX8_isFit_36 (by decide) ?_
      refine lv_icmp_ne (tgt := 52) hx hb dX8_isFit_37 (by decide) (fun hc3 => ?_) (fun hc3 => ?_)
      · have hf := in_el hc3 hf
        refine lv_iload_n hx hb dX8_isFit_52 rfl (lv_at hl 1 rfl) ?_
        refine lv_i2l (v := (x1.toInt64)) hx hb dX8_isFit_53 rfl ?_
        refine lv_lconst (v := 0) hx hb dX8_isFit_54 (by decide) ?_
        refine lv_ldc2 (v := 1023) hx hb hown (hu _ q1089) dX8_isFit_55 ?_
        obtain ⟨r4, hg5, hf⟩ := b1_el hf
        refine cc_S0 (st1 := [.int r4]) [.long (x1.toInt64), .long 0, .long 1023] hx hb hml hown hu (tX8_isIn l D cs (x1.toInt64) 0 1023 r4 hg5) q1004 q62 q1002 q1003 pdX8_isIn ⟨rfl, rfl, Nat.le_of_ble_eq_true rfl, Nat.le_of_ble_eq_true rfl⟩ hK hZ hP hD hS hA rfl hl.1 rfl (Nat.le_of_ble_eq_true rfl) dX8_isFit_58 rfl (fun H locs hP hD hS => ?_)
        obtain ⟨hbl, hf⟩ := bl_el hf
        have he := Option.some.inj hf
        have e0 := he
        exact hrz _ _ _ .boolean rfl (bl_nar hbl) (congrArg (fun z => some (Value.int z)) e0.symm) dX8_isFit_61 _ _ _ rfl hP hD hS
      · have hf := ip_el hc3 hf
        refine lv_iload_n hx hb dX8_isFit_40 rfl (lv_at hl 1 rfl) ?_
        refine lv_i2l (v := (x1.toInt64)) hx hb dX8_isFit_41 rfl ?_
        refine lv_lconst (v := 0) hx hb dX8_isFit_42 (by decide) ?_
        refine lv_ldc2 (v := 3) hx hb hown (hu _ q1007) dX8_isFit_43 ?_
        obtain ⟨r6, hg7, hf⟩ := b1_el hf
        refine cc_S0 (st1 := [.int r6]) [.long (x1.toInt64), .long 0, .long 3] hx hb hml hown hu (tX8_isIn l D cs (x1.toInt64) 0 3 r6 hg7) q1004 q62 q1002 q1003 pdX8_isIn ⟨rfl, rfl, Nat.le_of_ble_eq_true rfl, Nat.le_of_ble_eq_true rfl⟩ hK hZ hP hD hS hA rfl hl.1 rfl (Nat.le_of_ble_eq_true rfl) dX8_isFit_46 rfl (fun H locs hP hD hS => ?_)
        refine lv_goto (tgt := 61) hx hb dX8_isFit_49 (by decide) ?_
        obtain ⟨hbl, hf⟩ := bl_el hf
        have he := Option.some.inj hf
        have e0 := he
        exact hrz _ _ _ .boolean rfl (bl_nar hbl) (congrArg (fun z => some (Value.int z)) e0.symm) dX8_isFit_61 _ _ _ rfl hP hD hS
    · have hf := ip_el hc2 hf
      refine lv_iload_n hx hb dX8_isFit_21 rfl (lv_at hl 1 rfl) ?_
      refine lv_i2l (v := (x1.toInt64)) hx hb dX8_isFit_22 rfl ?_
      refine lv_ldc2 (v := 20) hx hb hown (hu _ q1005) dX8_isFit_23 ?_
      refine lv_ldc2 (v := 99) hx hb hown (hu _ q1006) dX8_isFit_26 ?_
      obtain ⟨r8, hg9, hf⟩ := b1_el hf
      refine cc_S0 (st1 := [.int r8]) [.long (x1.toInt64), .long 20, .long 99] hx hb hml hown hu (tX8_isIn l D cs (x1.toInt64) 20 99 r8 hg9) q1004 q62 q1002 q1003 pdX8_isIn ⟨rfl, rfl, Nat.le_of_ble_eq_true rfl, Nat.le_of_ble_eq_true rfl⟩ hK hZ hP hD hS hA rfl hl.1 rfl (Nat.le_of_ble_eq_true rfl) dX8_isFit_29 rfl (fun H locs hP hD hS => ?_)
      refine lv_goto (tgt := 61) hx hb dX8_isFit_32 (by decide) ?_
      obtain ⟨hbl, hf⟩ := bl_el hf
      have he := Option.some.inj hf
      have e0 := he
      exact hrz _ _ _ .boolean rfl (bl_nar hbl) (congrArg (fun z => some (Value.int z)) e0.symm) dX8_isFit_61 _ _ _ rfl hP hD hS
  · have hf := ip_el hc1 hf
    refine lv_iload_n hx hb dX8_isFit_4 rfl (lv_at hl 1 rfl) ?_
    refine lv_i2l (v := (x1.toInt64)) hx hb dX8_isFit_5 rfl ?_
    refine lv_lconst (v := 0) hx hb dX8_isFit_6 (by decide) ?_
    refine lv_ldc2 (v := 6) hx hb hown (hu _ q1001) dX8_isFit_7 ?_
    obtain ⟨r10, hg11, hf⟩ := b1_el hf
    refine cc_S0 (st1 := [.int r10]) [.long (x1.toInt64), .long 0, .long 6] hx hb hml hown hu (tX8_isIn l D cs (x1.toInt64) 0 6 r10 hg11) q1004 q62 q1002 q1003 pdX8_isIn ⟨rfl, rfl, Nat.le_of_ble_eq_true rfl, Nat.le_of_ble_eq_true rfl⟩ hK hZ hP hD hS hA rfl hl.1 rfl (Nat.le_of_ble_eq_true rfl) dX8_isFit_10 rfl (fun H locs hP hD hS => ?_)
    refine lv_goto (tgt := 61) hx hb dX8_isFit_13 (by decide) ?_
    obtain ⟨hbl, hf⟩ := bl_el hf
    have he := Option.some.inj hf
    have e0 := he
    exact hrz _ _ _ .boolean rfl (bl_nar hbl) (congrArg (fun z => some (Value.int z)) e0.symm) dX8_isFit_61 _ _ _ rfl hP hD hS

def fX8_set_28 (M : ST) : Option (Int32 × ST) :=
  dc_b2 (fX8_finds (-1000000001) M) (fun r4 M_5 => some (r4, M_5))
def fX8_set (x1 : Int32) (x2 : Int32) (x3 : Int32) (M : ST) : Option (Int32 × ST) :=
  dc_b1 (fX8_isPerson x1 M) (fun r1 => (if r1 = 0 then fX8_set_28 M else dc_b1 (fX8_isIn (x2.toInt64) 0 3) (fun r7 => (if r7 = 0 then fX8_set_28 M else dc_b1 (fX8_isFit x2 x3) (fun r10 => (if r10 = 0 then fX8_set_28 M else dc_b2 (fX8_becomes ((14 + (6 * x1)) + x2) x3 M) (fun r13 M_14 => some (r13, M_14))))))))
abbrev rmX8_set : Room := { frames := 2, cells := 0, slots := 0, locals := 46 }
set_option maxRecDepth 100000 in
set_option maxHeartbeats 4000000 in
theorem tX8_set (l : Launch) (D : va_G) (cs : Nat → ClassId) (a : Nat → Nat) (nn : Nat → Nat) (x1 : Int32) (x2 : Int32) (x3 : Int32) (M : ST) (r0 : Int32) (Mz : ST) (hf : fX8_set x1 x2 x3 M = some (r0, Mz)) : CG l yX8_set (wsm yX8_set cX8_set 4 (some .int)) rmX8_set D cs [.ref (a 0), .int x1, .int x2, .int x3] (some (.int r0)) (kX8 cs a (.ref (nn 0)) M) (kX8 cs a (.ref (nn 0)) Mz) := by
  refine CG.intro (by decide) (Nat.le_of_ble_eq_true rfl) ?_
  intro p e s m below meth c A Q hx hb hml hown hu hK hZ hP0 hD0 hS0 hA hri hrz hrl hrv hra ls0 hl0
  have h28 : ∀ (M : ST) (H : Heap) (locs : List Loc) (ls : Array Slot), va_P D vwCl (kX8 cs a (.ref (nn 0)) M) H → va_D A (kX8 cs a (.ref (nn 0)) M) → va_S A s.heap H locs → lv_has ls 4 [(0, .ref (a 0))] → fX8_set_28 M = some (r0, Mz) → W p l e rmX8_set s m [.ref (a 0), .int x1, .int x2, .int x3].toArray below meth c H locs 0 0 Q (F0 m 28 ls []) := by
    intro M H locs ls hP hD hS hl hf
    unfold fX8_set_28 at hf
    refine lv_aload_n hx hb dX8_set_28 rfl (lv_at hl 0 rfl) ?_
    refine lv_ldc (v := (-1000000001)) hx hb hown (hu _ q1008) dX8_set_29 ?_
    obtain ⟨r4, M_5, hg6, hf⟩ := b2_el hf
    refine cc_V1 (w' := (kX8 cs a (.ref (nn 0)) M_5)) (st1 := [.int r4]) [.int (-1000000001)] hx hb hml hown hu (tX8_finds l D cs a nn (-1000000001) M r4 M_5 hg6) q1012 q62 q1009 q1011 q19 pdX8_finds ⟨rfl, rfl, Nat.le_of_ble_eq_true rfl, Nat.le_of_ble_eq_true rfl⟩ hK hZ hP hD hS hA rfl rfl rfl rfl hl.1 rfl (Nat.le_of_ble_eq_true rfl) dX8_set_31 rfl (fun H locs hP hD hS => ?_)
    have he := Option.some.inj hf
    obtain ⟨e0, e1⟩ := Prod.mk.inj he
    exact hri _ _ _ rfl (congrArg (fun z => some (Value.int z)) e0.symm) dX8_set_34 _ _ _ (by rw [e1]) hP hD hS
  have hl : lv_has ls0 4 [(0, .ref (a 0)), (1, .int x1), (2, .int x2), (3, .int x3)] := hl0
  have hP := hP0
  have hD := hD0
  have hS := hS0
  unfold fX8_set at hf
  refine lv_aload_n hx hb dX8_set_0 rfl (lv_at hl 0 rfl) ?_
  refine lv_iload_n hx hb dX8_set_1 rfl (lv_at hl 1 rfl) ?_
  obtain ⟨r1, hg2, hf⟩ := b1_el hf
  refine cc_V1 (w' := (kX8 cs a (.ref (nn 0)) M)) (st1 := [.int r1]) [.int x1] hx hb hml hown hu (tX8_isPerson l D cs a nn x1 M r1 hg2) q1021 q62 q1018 q1020 q20 pdX8_isPerson ⟨rfl, rfl, Nat.le_of_ble_eq_true rfl, Nat.le_of_ble_eq_true rfl⟩ hK hZ hP hD hS hA rfl rfl rfl rfl hl.1 rfl (Nat.le_of_ble_eq_true rfl) dX8_set_2 rfl (fun H locs hP hD hS => ?_)
  refine lv_if_eq (tgt := 28) hx hb dX8_set_5 (by decide) (fun hc3 => ?_) (fun hc3 => ?_)
  · have hf := ip_el hc3 hf
    exact h28 M _ _ _ hP hD hS (lv_sub hl [0] rfl) hf
  · have hf := in_el hc3 hf
    refine lv_iload_n hx hb dX8_set_8 rfl (lv_at hl 2 rfl) ?_
    refine lv_i2l (v := (x2.toInt64)) hx hb dX8_set_9 rfl ?_
    refine lv_lconst (v := 0) hx hb dX8_set_10 (by decide) ?_
    refine lv_ldc2 (v := 3) hx hb hown (hu _ q1007) dX8_set_11 ?_
    obtain ⟨r7, hg8, hf⟩ := b1_el hf
    refine cc_S0 (st1 := [.int r7]) [.long (x2.toInt64), .long 0, .long 3] hx hb hml hown hu (tX8_isIn l D cs (x2.toInt64) 0 3 r7 hg8) q1004 q62 q1002 q1003 pdX8_isIn ⟨rfl, rfl, Nat.le_of_ble_eq_true rfl, Nat.le_of_ble_eq_true rfl⟩ hK hZ hP hD hS hA rfl hl.1 rfl (Nat.le_of_ble_eq_true rfl) dX8_set_14 rfl (fun H locs hP hD hS => ?_)
    refine lv_if_eq (tgt := 28) hx hb dX8_set_17 (by decide) (fun hc9 => ?_) (fun hc9 => ?_)
    · have hf := ip_el hc9 hf
      exact h28 M _ _ _ hP hD hS (lv_sub hl [0] rfl) hf
    · have hf := in_el hc9 hf
      refine lv_iload_n hx hb dX8_set_20 rfl (lv_at hl 2 rfl) ?_
      refine lv_iload_n hx hb dX8_set_21 rfl (lv_at hl 3 rfl) ?_
      obtain ⟨r10, hg11, hf⟩ := b1_el hf
      refine cc_S0 (st1 := [.int r10]) [.int x2, .int x3] hx hb hml hown hu (tX8_isFit l D cs x2 x3 r10 hg11) q1088 q62 q1086 q1087 pdX8_isFit ⟨rfl, rfl, Nat.le_of_ble_eq_true rfl, Nat.le_of_ble_eq_true rfl⟩ hK hZ hP hD hS hA rfl hl.1 rfl (Nat.le_of_ble_eq_true rfl) dX8_set_22 rfl (fun H locs hP hD hS => ?_)
      refine lv_if_ne (tgt := 35) hx hb dX8_set_25 (by decide) (fun hc12 => ?_) (fun hc12 => ?_)
      · have hf := in_el hc12 hf
        refine lv_aload_n hx hb dX8_set_35 rfl (lv_at hl 0 rfl) ?_
        refine lv_bipush (v := 14) hx hb dX8_set_36 (by decide) ?_
        refine lv_bipush (v := 6) hx hb dX8_set_38 (by decide) ?_
        refine lv_iload_n hx hb dX8_set_40 rfl (lv_at hl 1 rfl) ?_
        refine lv_imul hx hb dX8_set_41 ?_
        refine lv_iadd hx hb dX8_set_42 ?_
        refine lv_iload_n hx hb dX8_set_43 rfl (lv_at hl 2 rfl) ?_
        refine lv_iadd hx hb dX8_set_44 ?_
        refine lv_iload_n hx hb dX8_set_45 rfl (lv_at hl 3 rfl) ?_
        obtain ⟨r13, M_14, hg15, hf⟩ := b2_el hf
        refine cc_V1 (w' := (kX8 cs a (.ref (nn 0)) M_14)) (st1 := [.int r13]) [.int ((14 + (6 * x1)) + x2), .int x3] hx hb hml hown hu (tX8_becomes l D cs a nn ((14 + (6 * x1)) + x2) x3 M r13 M_14 hg15) q1093 q62 q1090 q1092 q35 pdX8_becomes ⟨rfl, rfl, Nat.le_of_ble_eq_true rfl, Nat.le_of_ble_eq_true rfl⟩ hK hZ hP hD hS hA rfl rfl rfl rfl hl.1 rfl (Nat.le_of_ble_eq_true rfl) dX8_set_46 rfl (fun H locs hP hD hS => ?_)
        have he := Option.some.inj hf
        obtain ⟨e0, e1⟩ := Prod.mk.inj he
        exact hri _ _ _ rfl (congrArg (fun z => some (Value.int z)) e0.symm) dX8_set_49 _ _ _ (by rw [e1]) hP hD hS
      · have hf := ip_el hc12 hf
        exact h28 M _ _ _ hP hD hS (lv_sub hl [0] rfl) hf

def fX8_as_20 (M : ST) : Option (Int32 × ST) :=
  dc_b2 (fX8_finds (-1000000001) M) (fun r4 M_5 => some (r4, M_5))
def fX8_as_53 (y1 : Int32) (M : ST) : Option (Int32 × ST) :=
  dc_b1 (fX8_has0 y1 4 M) (fun r13 => some (r13, M))
def fX8_as_62 (M : ST) : Option (Int32 × ST) :=
  dc_b2 (fX8_finds (-1000000003) M) (fun r17 M_18 => some (r17, M_18))
def fX8_as (x1 : Int32) (x2 : Int32) (M : ST) : Option (Int32 × ST) :=
  dc_b1 (fX8_isPerson x1 M) (fun r1 => (if r1 = 0 then fX8_as_20 M else dc_b1 (fX8_isIn (x2.toInt64) 0 6) (fun r7 => (if r7 = 0 then fX8_as_20 M else dc_b1 (fX8_has0 x1 0 M) (fun r10 => (if x2 = 0 then fX8_as_53 x1 M else (if x2 = r10 then fX8_as_53 x1 M else (if x2 = 1 then (if r10 = 2 then fX8_as_53 x1 M else fX8_as_62 M) else fX8_as_62 M))))))))
abbrev rmX8_as : Room := { frames := 1, cells := 0, slots := 0, locals := 25 }
set_option maxRecDepth 100000 in
set_option maxHeartbeats 4000000 in
theorem tX8_as (l : Launch) (D : va_G) (cs : Nat → ClassId) (a : Nat → Nat) (nn : Nat → Nat) (x1 : Int32) (x2 : Int32) (M : ST) (r0 : Int32) (Mz : ST) (hf : fX8_as x1 x2 M = some (r0, Mz)) : CG l yX8_as (wsm yX8_as cX8_as 4 (some .int)) rmX8_as D cs [.ref (a 0), .int x1, .int x2] (some (.int r0)) (kX8 cs a (.ref (nn 0)) M) (kX8 cs a (.ref (nn 0)) Mz) := by
  refine CG.intro (by decide) (Nat.le_of_ble_eq_true rfl) ?_
  intro p e s m below meth c A Q hx hb hml hown hu hK hZ hP0 hD0 hS0 hA hri hrz hrl hrv hra ls0 hl0
  have h20 : ∀ (M : ST) (H : Heap) (locs : List Loc) (ls : Array Slot), va_P D vwCl (kX8 cs a (.ref (nn 0)) M) H → va_D A (kX8 cs a (.ref (nn 0)) M) → va_S A s.heap H locs → lv_has ls 4 [(0, .ref (a 0))] → fX8_as_20 M = some (r0, Mz) → W p l e rmX8_as s m [.ref (a 0), .int x1, .int x2].toArray below meth c H locs 0 0 Q (F0 m 20 ls []) := by
    intro M H locs ls hP hD hS hl hf
    unfold fX8_as_20 at hf
    refine lv_aload_n hx hb dX8_as_20 rfl (lv_at hl 0 rfl) ?_
    refine lv_ldc (v := (-1000000001)) hx hb hown (hu _ q1008) dX8_as_21 ?_
    obtain ⟨r4, M_5, hg6, hf⟩ := b2_el hf
    refine cc_V1 (w' := (kX8 cs a (.ref (nn 0)) M_5)) (st1 := [.int r4]) [.int (-1000000001)] hx hb hml hown hu (tX8_finds l D cs a nn (-1000000001) M r4 M_5 hg6) q1012 q62 q1009 q1011 q19 pdX8_finds ⟨rfl, rfl, Nat.le_of_ble_eq_true rfl, Nat.le_of_ble_eq_true rfl⟩ hK hZ hP hD hS hA rfl rfl rfl rfl hl.1 rfl (Nat.le_of_ble_eq_true rfl) dX8_as_23 rfl (fun H locs hP hD hS => ?_)
    have he := Option.some.inj hf
    obtain ⟨e0, e1⟩ := Prod.mk.inj he
    exact hri _ _ _ rfl (congrArg (fun z => some (Value.int z)) e0.symm) dX8_as_26 _ _ _ (by rw [e1]) hP hD hS
  have h53 : ∀ (y1 : Int32) (M : ST) (H : Heap) (locs : List Loc) (ls : Array Slot), va_P D vwCl (kX8 cs a (.ref (nn 0)) M) H → va_D A (kX8 cs a (.ref (nn 0)) M) → va_S A s.heap H locs → lv_has ls 4 [(0, .ref (a 0)), (1, .int y1)] → fX8_as_53 y1 M = some (r0, Mz) → W p l e rmX8_as s m [.ref (a 0), .int x1, .int x2].toArray below meth c H locs 0 0 Q (F0 m 53 ls []) := by
    intro y1 M H locs ls hP hD hS hl hf
    unfold fX8_as_53 at hf
    refine lv_aload_n hx hb dX8_as_53 rfl (lv_at hl 0 rfl) ?_
    refine lv_iload_n hx hb dX8_as_54 rfl (lv_at hl 1 rfl) ?_
    refine lv_iconst (v := 4) hx hb dX8_as_55 (by decide) ?_
    obtain ⟨r13, hg14, hf⟩ := b1_el hf
    refine cc_V1 (w' := (kX8 cs a (.ref (nn 0)) M)) (st1 := [.int r13]) [.int y1, .int 4] hx hb hml hown hu (tX8_has0 l D cs a nn y1 4 M r13 hg14) q1026 q62 q1023 q1025 q21 pdX8_has0 ⟨rfl, rfl, Nat.le_of_ble_eq_true rfl, Nat.le_of_ble_eq_true rfl⟩ hK hZ hP hD hS hA rfl rfl rfl rfl hl.1 rfl (Nat.le_of_ble_eq_true rfl) dX8_as_56 rfl (fun H locs hP hD hS => ?_)
    refine lv_goto (tgt := 68) hx hb dX8_as_59 (by decide) ?_
    have he := Option.some.inj hf
    obtain ⟨e0, e1⟩ := Prod.mk.inj he
    exact hri _ _ _ rfl (congrArg (fun z => some (Value.int z)) e0.symm) dX8_as_68 _ _ _ (by rw [e1]) hP hD hS
  have h62 : ∀ (M : ST) (H : Heap) (locs : List Loc) (ls : Array Slot), va_P D vwCl (kX8 cs a (.ref (nn 0)) M) H → va_D A (kX8 cs a (.ref (nn 0)) M) → va_S A s.heap H locs → lv_has ls 4 [(0, .ref (a 0))] → fX8_as_62 M = some (r0, Mz) → W p l e rmX8_as s m [.ref (a 0), .int x1, .int x2].toArray below meth c H locs 0 0 Q (F0 m 62 ls []) := by
    intro M H locs ls hP hD hS hl hf
    unfold fX8_as_62 at hf
    refine lv_aload_n hx hb dX8_as_62 rfl (lv_at hl 0 rfl) ?_
    refine lv_ldc (v := (-1000000003)) hx hb hown (hu _ q1098) dX8_as_63 ?_
    obtain ⟨r17, M_18, hg19, hf⟩ := b2_el hf
    refine cc_V1 (w' := (kX8 cs a (.ref (nn 0)) M_18)) (st1 := [.int r17]) [.int (-1000000003)] hx hb hml hown hu (tX8_finds l D cs a nn (-1000000003) M r17 M_18 hg19) q1012 q62 q1009 q1011 q19 pdX8_finds ⟨rfl, rfl, Nat.le_of_ble_eq_true rfl, Nat.le_of_ble_eq_true rfl⟩ hK hZ hP hD hS hA rfl rfl rfl rfl hl.1 rfl (Nat.le_of_ble_eq_true rfl) dX8_as_65 rfl (fun H locs hP hD hS => ?_)
    have he := Option.some.inj hf
    obtain ⟨e0, e1⟩ := Prod.mk.inj he
    exact hri _ _ _ rfl (congrArg (fun z => some (Value.int z)) e0.symm) dX8_as_68 _ _ _ (by rw [e1]) hP hD hS
  have hl : lv_has ls0 4 [(0, .ref (a 0)), (1, .int x1), (2, .int x2)] := hl0
  have hP := hP0
  have hD := hD0
  have hS := hS0
  unfold fX8_as at hf
  refine lv_aload_n hx hb dX8_as_0 rfl (lv_at hl 0 rfl) ?_
  refine lv_iload_n hx hb dX8_as_1 rfl (lv_at hl 1 rfl) ?_
  obtain ⟨r1, hg2, hf⟩ := b1_el hf
  refine cc_V1 (w' := (kX8 cs a (.ref (nn 0)) M)) (st1 := [.int r1]) [.int x1] hx hb hml hown hu (tX8_isPerson l D cs a nn x1 M r1 hg2) q1021 q62 q1018 q1020 q20 pdX8_isPerson ⟨rfl, rfl, Nat.le_of_ble_eq_true rfl, Nat.le_of_ble_eq_true rfl⟩ hK hZ hP hD hS hA rfl rfl rfl rfl hl.1 rfl (Nat.le_of_ble_eq_true rfl) dX8_as_2 rfl (fun H locs hP hD hS => ?_)
  refine lv_if_eq (tgt := 20) hx hb dX8_as_5 (by decide) (fun hc3 => ?_) (fun hc3 => ?_)
  · have hf := ip_el hc3 hf
    exact h20 M _ _ _ hP hD hS (lv_sub hl [0] rfl) hf
  · have hf := in_el hc3 hf
    refine lv_iload_n hx hb dX8_as_8 rfl (lv_at hl 2 rfl) ?_
    refine lv_i2l (v := (x2.toInt64)) hx hb dX8_as_9 rfl ?_
    refine lv_lconst (v := 0) hx hb dX8_as_10 (by decide) ?_
    refine lv_ldc2 (v := 6) hx hb hown (hu _ q1001) dX8_as_11 ?_
    obtain ⟨r7, hg8, hf⟩ := b1_el hf
    refine cc_S0 (st1 := [.int r7]) [.long (x2.toInt64), .long 0, .long 6] hx hb hml hown hu (tX8_isIn l D cs (x2.toInt64) 0 6 r7 hg8) q1004 q62 q1002 q1003 pdX8_isIn ⟨rfl, rfl, Nat.le_of_ble_eq_true rfl, Nat.le_of_ble_eq_true rfl⟩ hK hZ hP hD hS hA rfl hl.1 rfl (Nat.le_of_ble_eq_true rfl) dX8_as_14 rfl (fun H locs hP hD hS => ?_)
    refine lv_if_ne (tgt := 27) hx hb dX8_as_17 (by decide) (fun hc9 => ?_) (fun hc9 => ?_)
    · have hf := in_el hc9 hf
      refine lv_aload_n hx hb dX8_as_27 rfl (lv_at hl 0 rfl) ?_
      refine lv_iload_n hx hb dX8_as_28 rfl (lv_at hl 1 rfl) ?_
      refine lv_iconst (v := 0) hx hb dX8_as_29 (by decide) ?_
      obtain ⟨r10, hg11, hf⟩ := b1_el hf
      refine cc_V1 (w' := (kX8 cs a (.ref (nn 0)) M)) (st1 := [.int r10]) [.int x1, .int 0] hx hb hml hown hu (tX8_has0 l D cs a nn x1 0 M r10 hg11) q1026 q62 q1023 q1025 q21 pdX8_has0 ⟨rfl, rfl, Nat.le_of_ble_eq_true rfl, Nat.le_of_ble_eq_true rfl⟩ hK hZ hP hD hS hA rfl rfl rfl rfl hl.1 rfl (Nat.le_of_ble_eq_true rfl) dX8_as_30 rfl (fun H locs hP hD hS => ?_)
      refine lv_istore_n (lv' := [(3, .int r10), (0, .ref (a 0)), (1, .int x1), (2, .int x2)]) hx hb dX8_as_33 rfl hl (by decide) rfl (fun ls hl => ?_)
      refine lv_iload_n hx hb dX8_as_34 rfl (lv_at hl 3 rfl) ?_
      refine lv_if_eq (tgt := 53) hx hb dX8_as_35 (by decide) (fun hc12 => ?_) (fun hc12 => ?_)
      · have hf := ip_el hc12 hf
        exact h53 x1 M _ _ _ hP hD hS (lv_sub hl [1, 2] rfl) hf
      · have hf := in_el hc12 hf
        refine lv_iload_n hx hb dX8_as_38 rfl (lv_at hl 3 rfl) ?_
        refine lv_iload_n hx hb dX8_as_39 rfl (lv_at hl 0 rfl) ?_
        refine lv_icmp_eq (tgt := 53) hx hb dX8_as_40 (by decide) (fun hc15 => ?_) (fun hc15 => ?_)
        · have hf := ip_el hc15 hf
          exact h53 x1 M _ _ _ hP hD hS (lv_sub hl [1, 2] rfl) hf
        · have hf := in_el hc15 hf
          refine lv_iload_n hx hb dX8_as_43 rfl (lv_at hl 3 rfl) ?_
          refine lv_iconst (v := 1) hx hb dX8_as_44 (by decide) ?_
          refine lv_icmp_ne (tgt := 62) hx hb dX8_as_45 (by decide) (fun hc16 => ?_) (fun hc16 => ?_)
          · have hf := in_el hc16 hf
            exact h62 M _ _ _ hP hD hS (lv_sub hl [1] rfl) hf
          · have hf := ip_el hc16 hf
            refine lv_iload_n hx hb dX8_as_48 rfl (lv_at hl 0 rfl) ?_
            refine lv_iconst (v := 2) hx hb dX8_as_49 (by decide) ?_
            refine lv_icmp_ne (tgt := 62) hx hb dX8_as_50 (by decide) (fun hc20 => ?_) (fun hc20 => ?_)
            · have hf := in_el hc20 hf
              exact h62 M _ _ _ hP hD hS (lv_sub hl [1] rfl) hf
            · have hf := ip_el hc20 hf
              exact h53 x1 M _ _ _ hP hD hS (lv_sub hl [1, 2] rfl) hf
    · have hf := ip_el hc9 hf
      exact h20 M _ _ _ hP hD hS (lv_sub hl [0] rfl) hf

def fX8_likes_35 (M : ST) : Option (Int32 × ST) :=
  dc_b2 (fX8_finds (-1000000001) M) (fun r4 M_5 => some (r4, M_5))
def fX8_likes (x1 : Int32) (x2 : Int32) (x3 : Int32) (M : ST) : Option (Int32 × ST) :=
  dc_b1 (fX8_isPerson x1 M) (fun r1 => (if r1 = 0 then fX8_likes_35 M else dc_b1 (fX8_isPerson x2 M) (fun r7 => (if r7 = 0 then fX8_likes_35 M else (if x1 = x2 then fX8_likes_35 M else dc_b1 (fX8_isIn (x3.toInt64) (-9) 9) (fun r11 => (if r11 = 0 then fX8_likes_35 M else dc_b2 (fX8_becomes ((74 + (10 * x1)) + x2) x3 M) (fun r14 M_15 => some (r14, M_15)))))))))
abbrev rmX8_likes : Room := { frames := 1, cells := 0, slots := 0, locals := 25 }
set_option maxRecDepth 100000 in
set_option maxHeartbeats 4000000 in
theorem tX8_likes (l : Launch) (D : va_G) (cs : Nat → ClassId) (a : Nat → Nat) (nn : Nat → Nat) (x1 : Int32) (x2 : Int32) (x3 : Int32) (M : ST) (r0 : Int32) (Mz : ST) (hf : fX8_likes x1 x2 x3 M = some (r0, Mz)) : CG l yX8_likes (wsm yX8_likes cX8_likes 4 (some .int)) rmX8_likes D cs [.ref (a 0), .int x1, .int x2, .int x3] (some (.int r0)) (kX8 cs a (.ref (nn 0)) M) (kX8 cs a (.ref (nn 0)) Mz) := by
  refine CG.intro (by decide) (Nat.le_of_ble_eq_true rfl) ?_
  intro p e s m below meth c A Q hx hb hml hown hu hK hZ hP0 hD0 hS0 hA hri hrz hrl hrv hra ls0 hl0
  have h35 : ∀ (M : ST) (H : Heap) (locs : List Loc) (ls : Array Slot), va_P D vwCl (kX8 cs a (.ref (nn 0)) M) H → va_D A (kX8 cs a (.ref (nn 0)) M) → va_S A s.heap H locs → lv_has ls 4 [(0, .ref (a 0))] → fX8_likes_35 M = some (r0, Mz) → W p l e rmX8_likes s m [.ref (a 0), .int x1, .int x2, .int x3].toArray below meth c H locs 0 0 Q (F0 m 35 ls []) := by
    intro M H locs ls hP hD hS hl hf
    unfold fX8_likes_35 at hf
    refine lv_aload_n hx hb dX8_likes_35 rfl (lv_at hl 0 rfl) ?_
    refine lv_ldc (v := (-1000000001)) hx hb hown (hu _ q1008) dX8_likes_36 ?_
    obtain ⟨r4, M_5, hg6, hf⟩ := b2_el hf
    refine cc_V1 (w' := (kX8 cs a (.ref (nn 0)) M_5)) (st1 := [.int r4]) [.int (-1000000001)] hx hb hml hown hu (tX8_finds l D cs a nn (-1000000001) M r4 M_5 hg6) q1012 q62 q1009 q1011 q19 pdX8_finds ⟨rfl, rfl, Nat.le_of_ble_eq_true rfl, Nat.le_of_ble_eq_true rfl⟩ hK hZ hP hD hS hA rfl rfl rfl rfl hl.1 rfl (Nat.le_of_ble_eq_true rfl) dX8_likes_38 rfl (fun H locs hP hD hS => ?_)
    have he := Option.some.inj hf
    obtain ⟨e0, e1⟩ := Prod.mk.inj he
    exact hri _ _ _ rfl (congrArg (fun z => some (Value.int z)) e0.symm) dX8_likes_41 _ _ _ (by rw [e1]) hP hD hS
  have hl : lv_has ls0 4 [(0, .ref (a 0)), (1, .int x1), (2, .int x2), (3, .int x3)] := hl0
  have hP := hP0
  have hD := hD0
  have hS := hS0
  unfold fX8_likes at hf
  refine lv_aload_n hx hb dX8_likes_0 rfl (lv_at hl 0 rfl) ?_
  refine lv_iload_n hx hb dX8_likes_1 rfl (lv_at hl 1 rfl) ?_
  obtain ⟨r1, hg2, hf⟩ := b1_el hf
  refine cc_V1 (w' := (kX8 cs a (.ref (nn 0)) M)) (st1 := [.int r1]) [.int x1] hx hb hml hown hu (tX8_isPerson l D cs a nn x1 M r1 hg2) q1021 q62 q1018 q1020 q20 pdX8_isPerson ⟨rfl, rfl, Nat.le_of_ble_eq_true rfl, Nat.le_of_ble_eq_true rfl⟩ hK hZ hP hD hS hA rfl rfl rfl rfl hl.1 rfl (Nat.le_of_ble_eq_true rfl) dX8_likes_2 rfl (fun H locs hP hD hS => ?_)
  refine lv_if_eq (tgt := 35) hx hb dX8_likes_5 (by decide) (fun hc3 => ?_) (fun hc3 => ?_)
  · have hf := ip_el hc3 hf
    exact h35 M _ _ _ hP hD hS (lv_sub hl [0] rfl) hf
  · have hf := in_el hc3 hf
    refine lv_aload_n hx hb dX8_likes_8 rfl (lv_at hl 0 rfl) ?_
    refine lv_iload_n hx hb dX8_likes_9 rfl (lv_at hl 2 rfl) ?_
    obtain ⟨r7, hg8, hf⟩ := b1_el hf
    refine cc_V1 (w' := (kX8 cs a (.ref (nn 0)) M)) (st1 := [.int r7]) [.int x2] hx hb hml hown hu (tX8_isPerson l D cs a nn x2 M r7 hg8) q1021 q62 q1018 q1020 q20 pdX8_isPerson ⟨rfl, rfl, Nat.le_of_ble_eq_true rfl, Nat.le_of_ble_eq_true rfl⟩ hK hZ hP hD hS hA rfl rfl rfl rfl hl.1 rfl (Nat.le_of_ble_eq_true rfl) dX8_likes_10 rfl (fun H locs hP hD hS => ?_)
    refine lv_if_eq (tgt := 35) hx hb dX8_likes_13 (by decide) (fun hc9 => ?_) (fun hc9 => ?_)
    · have hf := ip_el hc9 hf
      exact h35 M _ _ _ hP hD hS (lv_sub hl [0] rfl) hf
    · have hf := in_el hc9 hf
      refine lv_iload_n hx hb dX8_likes_16 rfl (lv_at hl 1 rfl) ?_
      refine lv_iload_n hx hb dX8_likes_17 rfl (lv_at hl 2 rfl) ?_
      refine lv_icmp_eq (tgt := 35) hx hb dX8_likes_18 (by decide) (fun hc10 => ?_) (fun hc10 => ?_)
      · have hf := ip_el hc10 hf
        exact h35 M _ _ _ hP hD hS (lv_sub hl [0] rfl) hf
      · have hf := in_el hc10 hf
        refine lv_iload_n hx hb dX8_likes_21 rfl (lv_at hl 3 rfl) ?_
        refine lv_i2l (v := (x3.toInt64)) hx hb dX8_likes_22 rfl ?_
        refine lv_ldc2 (v := (-9)) hx hb hown (hu _ q1103) dX8_likes_23 ?_
        refine lv_ldc2 (v := 9) hx hb hown (hu _ q1104) dX8_likes_26 ?_
        obtain ⟨r11, hg12, hf⟩ := b1_el hf
        refine cc_S0 (st1 := [.int r11]) [.long (x3.toInt64), .long (-9), .long 9] hx hb hml hown hu (tX8_isIn l D cs (x3.toInt64) (-9) 9 r11 hg12) q1004 q62 q1002 q1003 pdX8_isIn ⟨rfl, rfl, Nat.le_of_ble_eq_true rfl, Nat.le_of_ble_eq_true rfl⟩ hK hZ hP hD hS hA rfl hl.1 rfl (Nat.le_of_ble_eq_true rfl) dX8_likes_29 rfl (fun H locs hP hD hS => ?_)
        refine lv_if_ne (tgt := 42) hx hb dX8_likes_32 (by decide) (fun hc13 => ?_) (fun hc13 => ?_)
        · have hf := in_el hc13 hf
          refine lv_aload_n hx hb dX8_likes_42 rfl (lv_at hl 0 rfl) ?_
          refine lv_bipush (v := 74) hx hb dX8_likes_43 (by decide) ?_
          refine lv_bipush (v := 10) hx hb dX8_likes_45 (by decide) ?_
          refine lv_iload_n hx hb dX8_likes_47 rfl (lv_at hl 1 rfl) ?_
          refine lv_imul hx hb dX8_likes_48 ?_
          refine lv_iadd hx hb dX8_likes_49 ?_
          refine lv_iload_n hx hb dX8_likes_50 rfl (lv_at hl 2 rfl) ?_
          refine lv_iadd hx hb dX8_likes_51 ?_
          refine lv_iload_n hx hb dX8_likes_52 rfl (lv_at hl 3 rfl) ?_
          obtain ⟨r14, M_15, hg16, hf⟩ := b2_el hf
          refine cc_V1 (w' := (kX8 cs a (.ref (nn 0)) M_15)) (st1 := [.int r14]) [.int ((74 + (10 * x1)) + x2), .int x3] hx hb hml hown hu (tX8_becomes l D cs a nn ((74 + (10 * x1)) + x2) x3 M r14 M_15 hg16) q1093 q62 q1090 q1092 q35 pdX8_becomes ⟨rfl, rfl, Nat.le_of_ble_eq_true rfl, Nat.le_of_ble_eq_true rfl⟩ hK hZ hP hD hS hA rfl rfl rfl rfl hl.1 rfl (Nat.le_of_ble_eq_true rfl) dX8_likes_53 rfl (fun H locs hP hD hS => ?_)
          have he := Option.some.inj hf
          obtain ⟨e0, e1⟩ := Prod.mk.inj he
          exact hri _ _ _ rfl (congrArg (fun z => some (Value.int z)) e0.symm) dX8_likes_56 _ _ _ (by rw [e1]) hP hD hS
        · have hf := ip_el hc13 hf
          exact h35 M _ _ _ hP hD hS (lv_sub hl [0] rfl) hf

def fX8_worth_55 (M : ST) : Option (Int32 × ST) :=
  dc_b2 (fX8_finds (-1000000001) M) (fun r4 M_5 => some (r4, M_5))
def fX8_worth (x1 : Int32) (x2 : Int32) (x3 : Int32) (M : ST) : Option (Int32 × ST) :=
  dc_b1 (fX8_isIn (x1.toInt64) 0 3) (fun r1 => (if r1 = 0 then fX8_worth_55 M else dc_b1 (fX8_isIn (x2.toInt64) 0 3) (fun r7 => (if r7 = 0 then fX8_worth_55 M else dc_b1 (fX8_isIn (x3.toInt64) (-99) 99) (fun r10 => (if r10 = 0 then fX8_worth_55 M else dc_b2 (fX8_becomes ((174 + (4 * x1)) + x2) x3 M) (fun r13 M_14 => some (r13, M_14))))))))
abbrev rmX8_worth : Room := { frames := 1, cells := 0, slots := 0, locals := 25 }
set_option maxRecDepth 100000 in
set_option maxHeartbeats 4000000 in
theorem tX8_worth (l : Launch) (D : va_G) (cs : Nat → ClassId) (a : Nat → Nat) (nn : Nat → Nat) (x1 : Int32) (x2 : Int32) (x3 : Int32) (M : ST) (r0 : Int32) (Mz : ST) (hf : fX8_worth x1 x2 x3 M = some (r0, Mz)) : CG l yX8_worth (wsm yX8_worth cX8_worth 4 (some .int)) rmX8_worth D cs [.ref (a 0), .int x1, .int x2, .int x3] (some (.int r0)) (kX8 cs a (.ref (nn 0)) M) (kX8 cs a (.ref (nn 0)) Mz) := by
  refine CG.intro (by decide) (Nat.le_of_ble_eq_true rfl) ?_
  intro p e s m below meth c A Q hx hb hml hown hu hK hZ hP0 hD0 hS0 hA hri hrz hrl hrv hra ls0 hl0
  have h55 : ∀ (M : ST) (H : Heap) (locs : List Loc) (ls : Array Slot), va_P D vwCl (kX8 cs a (.ref (nn 0)) M) H → va_D A (kX8 cs a (.ref (nn 0)) M) → va_S A s.heap H locs → lv_has ls 4 [(0, .ref (a 0))] → fX8_worth_55 M = some (r0, Mz) → W p l e rmX8_worth s m [.ref (a 0), .int x1, .int x2, .int x3].toArray below meth c H locs 0 0 Q (F0 m 55 ls []) := by
    intro M H locs ls hP hD hS hl hf
    unfold fX8_worth_55 at hf
    refine lv_aload_n hx hb dX8_worth_55 rfl (lv_at hl 0 rfl) ?_
    refine lv_ldc (v := (-1000000001)) hx hb hown (hu _ q1008) dX8_worth_56 ?_
    obtain ⟨r4, M_5, hg6, hf⟩ := b2_el hf
    refine cc_V1 (w' := (kX8 cs a (.ref (nn 0)) M_5)) (st1 := [.int r4]) [.int (-1000000001)] hx hb hml hown hu (tX8_finds l D cs a nn (-1000000001) M r4 M_5 hg6) q1012 q62 q1009 q1011 q19 pdX8_finds ⟨rfl, rfl, Nat.le_of_ble_eq_true rfl, Nat.le_of_ble_eq_true rfl⟩ hK hZ hP hD hS hA rfl rfl rfl rfl hl.1 rfl (Nat.le_of_ble_eq_true rfl) dX8_worth_58 rfl (fun H locs hP hD hS => ?_)
    have he := Option.some.inj hf
    obtain ⟨e0, e1⟩ := Prod.mk.inj he
    exact hri _ _ _ rfl (congrArg (fun z => some (Value.int z)) e0.symm) dX8_worth_61 _ _ _ (by rw [e1]) hP hD hS
  have hl : lv_has ls0 4 [(0, .ref (a 0)), (1, .int x1), (2, .int x2), (3, .int x3)] := hl0
  have hP := hP0
  have hD := hD0
  have hS := hS0
  unfold fX8_worth at hf
  refine lv_iload_n hx hb dX8_worth_0 rfl (lv_at hl 1 rfl) ?_
  refine lv_i2l (v := (x1.toInt64)) hx hb dX8_worth_1 rfl ?_
  refine lv_lconst (v := 0) hx hb dX8_worth_2 (by decide) ?_
  refine lv_ldc2 (v := 3) hx hb hown (hu _ q1007) dX8_worth_3 ?_
  obtain ⟨r1, hg2, hf⟩ := b1_el hf
  refine cc_S0 (st1 := [.int r1]) [.long (x1.toInt64), .long 0, .long 3] hx hb hml hown hu (tX8_isIn l D cs (x1.toInt64) 0 3 r1 hg2) q1004 q62 q1002 q1003 pdX8_isIn ⟨rfl, rfl, Nat.le_of_ble_eq_true rfl, Nat.le_of_ble_eq_true rfl⟩ hK hZ hP hD hS hA rfl hl.1 rfl (Nat.le_of_ble_eq_true rfl) dX8_worth_6 rfl (fun H locs hP hD hS => ?_)
  refine lv_if_eq (tgt := 55) hx hb dX8_worth_9 (by decide) (fun hc3 => ?_) (fun hc3 => ?_)
  · have hf := ip_el hc3 hf
    exact h55 M _ _ _ hP hD hS (lv_sub hl [0] rfl) hf
  · have hf := in_el hc3 hf
    refine lv_iload_n hx hb dX8_worth_12 rfl (lv_at hl 2 rfl) ?_
    refine lv_i2l (v := (x2.toInt64)) hx hb dX8_worth_13 rfl ?_
    refine lv_lconst (v := 0) hx hb dX8_worth_14 (by decide) ?_
    refine lv_ldc2 (v := 3) hx hb hown (hu _ q1007) dX8_worth_15 ?_
    obtain ⟨r7, hg8, hf⟩ := b1_el hf
    refine cc_S0 (st1 := [.int r7]) [.long (x2.toInt64), .long 0, .long 3] hx hb hml hown hu (tX8_isIn l D cs (x2.toInt64) 0 3 r7 hg8) q1004 q62 q1002 q1003 pdX8_isIn ⟨rfl, rfl, Nat.le_of_ble_eq_true rfl, Nat.le_of_ble_eq_true rfl⟩ hK hZ hP hD hS hA rfl hl.1 rfl (Nat.le_of_ble_eq_true rfl) dX8_worth_18 rfl (fun H locs hP hD hS => ?_)
    refine lv_if_eq (tgt := 55) hx hb dX8_worth_21 (by decide) (fun hc9 => ?_) (fun hc9 => ?_)
    · have hf := ip_el hc9 hf
      exact h55 M _ _ _ hP hD hS (lv_sub hl [0] rfl) hf
    · have hf := in_el hc9 hf
      refine lv_iload_n hx hb dX8_worth_24 rfl (lv_at hl 3 rfl) ?_
      refine lv_i2l (v := (x3.toInt64)) hx hb dX8_worth_25 rfl ?_
      refine lv_ldc2 (v := (-99)) hx hb hown (hu _ q1109) dX8_worth_26 ?_
      refine lv_ldc2 (v := 99) hx hb hown (hu _ q1006) dX8_worth_29 ?_
      obtain ⟨r10, hg11, hf⟩ := b1_el hf
      refine cc_S0 (st1 := [.int r10]) [.long (x3.toInt64), .long (-99), .long 99] hx hb hml hown hu (tX8_isIn l D cs (x3.toInt64) (-99) 99 r10 hg11) q1004 q62 q1002 q1003 pdX8_isIn ⟨rfl, rfl, Nat.le_of_ble_eq_true rfl, Nat.le_of_ble_eq_true rfl⟩ hK hZ hP hD hS hA rfl hl.1 rfl (Nat.le_of_ble_eq_true rfl) dX8_worth_32 rfl (fun H locs hP hD hS => ?_)
      refine lv_if_eq (tgt := 55) hx hb dX8_worth_35 (by decide) (fun hc12 => ?_) (fun hc12 => ?_)
      · have hf := ip_el hc12 hf
        exact h55 M _ _ _ hP hD hS (lv_sub hl [0] rfl) hf
      · have hf := in_el hc12 hf
        refine lv_aload_n hx hb dX8_worth_38 rfl (lv_at hl 0 rfl) ?_
        refine lv_sipush (v := 174) hx hb dX8_worth_39 (by decide) ?_
        refine lv_iconst (v := 4) hx hb dX8_worth_42 (by decide) ?_
        refine lv_iload_n hx hb dX8_worth_43 rfl (lv_at hl 1 rfl) ?_
        refine lv_imul hx hb dX8_worth_44 ?_
        refine lv_iadd hx hb dX8_worth_45 ?_
        refine lv_iload_n hx hb dX8_worth_46 rfl (lv_at hl 2 rfl) ?_
        refine lv_iadd hx hb dX8_worth_47 ?_
        refine lv_iload_n hx hb dX8_worth_48 rfl (lv_at hl 3 rfl) ?_
        obtain ⟨r13, M_14, hg15, hf⟩ := b2_el hf
        refine cc_V1 (w' := (kX8 cs a (.ref (nn 0)) M_14)) (st1 := [.int r13]) [.int ((174 + (4 * x1)) + x2), .int x3] hx hb hml hown hu (tX8_becomes l D cs a nn ((174 + (4 * x1)) + x2) x3 M r13 M_14 hg15) q1093 q62 q1090 q1092 q35 pdX8_becomes ⟨rfl, rfl, Nat.le_of_ble_eq_true rfl, Nat.le_of_ble_eq_true rfl⟩ hK hZ hP hD hS hA rfl rfl rfl rfl hl.1 rfl (Nat.le_of_ble_eq_true rfl) dX8_worth_49 rfl (fun H locs hP hD hS => ?_)
        refine lv_goto (tgt := 61) hx hb dX8_worth_52 (by decide) ?_
        have he := Option.some.inj hf
        obtain ⟨e0, e1⟩ := Prod.mk.inj he
        exact hri _ _ _ rfl (congrArg (fun z => some (Value.int z)) e0.symm) dX8_worth_61 _ _ _ (by rw [e1]) hP hD hS

def fX8_isRule_60 (y1 : Int32) : Option Int32 :=
  dc_b1 (fX8_isIn (y1.toInt64) 0 1) (fun r8 => dc_bl r8 (some r8))
def fX8_isRule (x0 : Int32) (x1 : Int32) : Option Int32 :=
  (if x0 = 0 then dc_b1 (fX8_isIn (x1.toInt64) 1 4) (fun r2 => dc_bl r2 (some r2)) else if x0 = 1 then dc_b1 (fX8_isIn (x1.toInt64) 1 40) (fun r5 => dc_bl r5 (some r5)) else if x0 = 2 then fX8_isRule_60 x1 else if x0 = 3 then fX8_isRule_60 x1 else if x0 = 4 then dc_b1 (fX8_isIn (x1.toInt64) 0 2) (fun r12 => dc_bl r12 (some r12)) else if x0 = 5 then dc_b1 (fX8_isIn (x1.toInt64) 0 20) (fun r15 => dc_bl r15 (some r15)) else some 0)
abbrev rmX8_isRule : Room := { frames := 1, cells := 0, slots := 0, locals := 25 }
set_option maxRecDepth 100000 in
set_option maxHeartbeats 4000000 in
theorem tX8_isRule (l : Launch) (D : va_G) (cs : Nat → ClassId) (x0 : Int32) (x1 : Int32) (r0 : Int32) (hf : fX8_isRule x0 x1 = some r0) : CG l yX8_isRule (wsm yX8_isRule cX8_isRule 2 (some .boolean)) rmX8_isRule D cs [.int x0, .int x1] (some (.int r0)) ([] : va_W) ([] : va_W) := by
  refine CG.intro (by decide) (Nat.le_of_ble_eq_true rfl) ?_
  intro p e s m below meth c A Q hx hb hml hown hu hK hZ hP0 hD0 hS0 hA hri hrz hrl hrv hra ls0 hl0
  have h60 : ∀ (y1 : Int32) (H : Heap) (locs : List Loc) (ls : Array Slot), va_P D vwCl ([] : va_W) H → va_D A ([] : va_W) → va_S A s.heap H locs → lv_has ls 2 [(1, .int y1)] → fX8_isRule_60 y1 = some r0 → W p l e rmX8_isRule s m [.int x0, .int x1].toArray below meth c H locs 0 0 Q (F0 m 60 ls []) := by
    intro y1 H locs ls hP hD hS hl hf
    unfold fX8_isRule_60 at hf
    refine lv_iload_n hx hb dX8_isRule_60 rfl (lv_at hl 0 rfl) ?_
    refine lv_i2l (v := (y1.toInt64)) hx hb dX8_isRule_61 rfl ?_
    refine lv_lconst (v := 0) hx hb dX8_isRule_62 (by decide) ?_
    refine lv_lconst (v := 1) hx hb dX8_isRule_63 (by decide) ?_
    obtain ⟨r8, hg9, hf⟩ := b1_el hf
    refine cc_S0 (st1 := [.int r8]) [.long (y1.toInt64), .long 0, .long 1] hx hb hml hown hu (tX8_isIn l D cs (y1.toInt64) 0 1 r8 hg9) q1004 q62 q1002 q1003 pdX8_isIn ⟨rfl, rfl, Nat.le_of_ble_eq_true rfl, Nat.le_of_ble_eq_true rfl⟩ hK hZ hP hD hS hA rfl hl.1 rfl (Nat.le_of_ble_eq_true rfl) dX8_isRule_64 rfl (fun H locs hP hD hS => ?_)
    obtain ⟨hbl, hf⟩ := bl_el hf
    have he := Option.some.inj hf
    have e0 := he
    exact hrz _ _ _ .boolean rfl (bl_nar hbl) (congrArg (fun z => some (Value.int z)) e0.symm) dX8_isRule_67 _ _ _ rfl hP hD hS
  have hl : lv_has ls0 2 [(0, .int x0), (1, .int x1)] := hl0
  have hP := hP0
  have hD := hD0
  have hS := hS0
  unfold fX8_isRule at hf
  refine lv_iload_n hx hb dX8_isRule_0 rfl (lv_at hl 0 rfl) ?_
  by_cases hc1 : x0 = 0
  · have hf := ip_el hc1 hf
    refine lv_tableIn (off := 39) (tgt := 40) hx hb dX8_isRule_1 (by rw [hc1]; decide) (by rw [hc1]; decide) (by rw [hc1]; decide) (by decide) ?_
    refine lv_iload_n hx hb dX8_isRule_40 rfl (lv_at hl 1 rfl) ?_
    refine lv_i2l (v := (x1.toInt64)) hx hb dX8_isRule_41 rfl ?_
    refine lv_lconst (v := 1) hx hb dX8_isRule_42 (by decide) ?_
    refine lv_ldc2 (v := 4) hx hb hown (hu _ q1117) dX8_isRule_43 ?_
    obtain ⟨r2, hg3, hf⟩ := b1_el hf
    refine cc_S0 (st1 := [.int r2]) [.long (x1.toInt64), .long 1, .long 4] hx hb hml hown hu (tX8_isIn l D cs (x1.toInt64) 1 4 r2 hg3) q1004 q62 q1002 q1003 pdX8_isIn ⟨rfl, rfl, Nat.le_of_ble_eq_true rfl, Nat.le_of_ble_eq_true rfl⟩ hK hZ hP hD hS hA rfl hl.1 rfl (Nat.le_of_ble_eq_true rfl) dX8_isRule_46 rfl (fun H locs hP hD hS => ?_)
    obtain ⟨hbl, hf⟩ := bl_el hf
    have he := Option.some.inj hf
    have e0 := he
    exact hrz _ _ _ .boolean rfl (bl_nar hbl) (congrArg (fun z => some (Value.int z)) e0.symm) dX8_isRule_49 _ _ _ rfl hP hD hS
  have hf := in_el hc1 hf
  by_cases hc4 : x0 = 1
  · have hf := ip_el hc4 hf
    refine lv_tableIn (off := 49) (tgt := 50) hx hb dX8_isRule_1 (by rw [hc4]; decide) (by rw [hc4]; decide) (by rw [hc4]; decide) (by decide) ?_
    refine lv_iload_n hx hb dX8_isRule_50 rfl (lv_at hl 1 rfl) ?_
    refine lv_i2l (v := (x1.toInt64)) hx hb dX8_isRule_51 rfl ?_
    refine lv_lconst (v := 1) hx hb dX8_isRule_52 (by decide) ?_
    refine lv_ldc2 (v := 40) hx hb hown (hu _ q1118) dX8_isRule_53 ?_
    obtain ⟨r5, hg6, hf⟩ := b1_el hf
    refine cc_S0 (st1 := [.int r5]) [.long (x1.toInt64), .long 1, .long 40] hx hb hml hown hu (tX8_isIn l D cs (x1.toInt64) 1 40 r5 hg6) q1004 q62 q1002 q1003 pdX8_isIn ⟨rfl, rfl, Nat.le_of_ble_eq_true rfl, Nat.le_of_ble_eq_true rfl⟩ hK hZ hP hD hS hA rfl hl.1 rfl (Nat.le_of_ble_eq_true rfl) dX8_isRule_56 rfl (fun H locs hP hD hS => ?_)
    obtain ⟨hbl, hf⟩ := bl_el hf
    have he := Option.some.inj hf
    have e0 := he
    exact hrz _ _ _ .boolean rfl (bl_nar hbl) (congrArg (fun z => some (Value.int z)) e0.symm) dX8_isRule_59 _ _ _ rfl hP hD hS
  have hf := in_el hc4 hf
  by_cases hc7 : x0 = 2
  · have hf := ip_el hc7 hf
    refine lv_tableIn (off := 59) (tgt := 60) hx hb dX8_isRule_1 (by rw [hc7]; decide) (by rw [hc7]; decide) (by rw [hc7]; decide) (by decide) ?_
    exact h60 x1 _ _ _ hP hD hS (lv_sub hl [1] rfl) hf
  have hf := in_el hc7 hf
  by_cases hc10 : x0 = 3
  · have hf := ip_el hc10 hf
    refine lv_tableIn (off := 59) (tgt := 60) hx hb dX8_isRule_1 (by rw [hc10]; decide) (by rw [hc10]; decide) (by rw [hc10]; decide) (by decide) ?_
    exact h60 x1 _ _ _ hP hD hS (lv_sub hl [1] rfl) hf
  have hf := in_el hc10 hf
  by_cases hc11 : x0 = 4
  · have hf := ip_el hc11 hf
    refine lv_tableIn (off := 67) (tgt := 68) hx hb dX8_isRule_1 (by rw [hc11]; decide) (by rw [hc11]; decide) (by rw [hc11]; decide) (by decide) ?_
    refine lv_iload_n hx hb dX8_isRule_68 rfl (lv_at hl 1 rfl) ?_
    refine lv_i2l (v := (x1.toInt64)) hx hb dX8_isRule_69 rfl ?_
    refine lv_lconst (v := 0) hx hb dX8_isRule_70 (by decide) ?_
    refine lv_ldc2 (v := 2) hx hb hown (hu _ q1119) dX8_isRule_71 ?_
    obtain ⟨r12, hg13, hf⟩ := b1_el hf
    refine cc_S0 (st1 := [.int r12]) [.long (x1.toInt64), .long 0, .long 2] hx hb hml hown hu (tX8_isIn l D cs (x1.toInt64) 0 2 r12 hg13) q1004 q62 q1002 q1003 pdX8_isIn ⟨rfl, rfl, Nat.le_of_ble_eq_true rfl, Nat.le_of_ble_eq_true rfl⟩ hK hZ hP hD hS hA rfl hl.1 rfl (Nat.le_of_ble_eq_true rfl) dX8_isRule_74 rfl (fun H locs hP hD hS => ?_)
    obtain ⟨hbl, hf⟩ := bl_el hf
    have he := Option.some.inj hf
    have e0 := he
    exact hrz _ _ _ .boolean rfl (bl_nar hbl) (congrArg (fun z => some (Value.int z)) e0.symm) dX8_isRule_77 _ _ _ rfl hP hD hS
  have hf := in_el hc11 hf
  by_cases hc14 : x0 = 5
  · have hf := ip_el hc14 hf
    refine lv_tableIn (off := 77) (tgt := 78) hx hb dX8_isRule_1 (by rw [hc14]; decide) (by rw [hc14]; decide) (by rw [hc14]; decide) (by decide) ?_
    refine lv_iload_n hx hb dX8_isRule_78 rfl (lv_at hl 1 rfl) ?_
    refine lv_i2l (v := (x1.toInt64)) hx hb dX8_isRule_79 rfl ?_
    refine lv_lconst (v := 0) hx hb dX8_isRule_80 (by decide) ?_
    refine lv_ldc2 (v := 20) hx hb hown (hu _ q1005) dX8_isRule_81 ?_
    obtain ⟨r15, hg16, hf⟩ := b1_el hf
    refine cc_S0 (st1 := [.int r15]) [.long (x1.toInt64), .long 0, .long 20] hx hb hml hown hu (tX8_isIn l D cs (x1.toInt64) 0 20 r15 hg16) q1004 q62 q1002 q1003 pdX8_isIn ⟨rfl, rfl, Nat.le_of_ble_eq_true rfl, Nat.le_of_ble_eq_true rfl⟩ hK hZ hP hD hS hA rfl hl.1 rfl (Nat.le_of_ble_eq_true rfl) dX8_isRule_84 rfl (fun H locs hP hD hS => ?_)
    obtain ⟨hbl, hf⟩ := bl_el hf
    have he := Option.some.inj hf
    have e0 := he
    exact hrz _ _ _ .boolean rfl (bl_nar hbl) (congrArg (fun z => some (Value.int z)) e0.symm) dX8_isRule_87 _ _ _ rfl hP hD hS
  have hf := in_el hc14 hf
  have nhc1 := sw_ne (a := 0) hc1 (by decide)
  have nhc4 := sw_ne (a := 1) hc4 (by decide)
  have nhc7 := sw_ne (a := 2) hc7 (by decide)
  have nhc10 := sw_ne (a := 3) hc10 (by decide)
  have nhc11 := sw_ne (a := 4) hc11 (by decide)
  have nhc14 := sw_ne (a := 5) hc14 (by decide)
  refine lv_tableOut (tgt := 88) hx hb dX8_isRule_1 (by omega) (by decide) ?_
  refine lv_iconst (v := 0) hx hb dX8_isRule_88 (by decide) ?_
  have he := Option.some.inj hf
  have e0 := he
  exact hrz _ _ _ .boolean rfl rfl (congrArg (fun z => some (Value.int z)) e0.symm) dX8_isRule_89 _ _ _ rfl hP hD hS

def fX8_cutsLine_7_s (k7 : Int32 → ST → Option ST) (y1 : Int32) (M : ST) : Option ST :=
  (if 4 ≤ y1 then some M else dc_ck (10 + y1) 271 (dc_lt (sti M 1 (Int32.toNatClampNeg (10 + y1)) (-1)) (fun M_4 => dc_lt (y1 + 1) (fun v5 => k7 v5 M_4))))
def fX8_cutsLine_7 : Nat → Int32 → ST → Option ST
  | 0 => fun _ _ => none
  | n + 1 => fX8_cutsLine_7_s (fX8_cutsLine_7 n)
def fX8_cutsLine (M : ST) : Option ST :=
  dc_lt (M 1 4) (fun v1 => fX8_cutsLine_7 400 v1 M)
abbrev rmX8_cutsLine : Room := { frames := 0, cells := 0, slots := 0, locals := 0 }
set_option maxRecDepth 100000 in
set_option maxHeartbeats 4000000 in
theorem tX8_cutsLine (l : Launch) (D : va_G) (cs : Nat → ClassId) (a : Nat → Nat) (nn : Nat → Nat) (M : ST) (Mz : ST) (hf : fX8_cutsLine M = some Mz) : CG l yX8_cutsLine (wsm yX8_cutsLine cX8_cutsLine 2 none) rmX8_cutsLine D cs [.ref (a 0)] none (kX8 cs a (.ref (nn 0)) M) (kX8 cs a (.ref (nn 0)) Mz) := by
  refine CG.intro (by decide) (Nat.le_of_ble_eq_true rfl) ?_
  intro p e s m below meth c A Q hx hb hml hown hu hK hZ hP0 hD0 hS0 hA hri hrz hrl hrv hra ls0 hl0
  have hs7 : ∀ (k7 : Int32 → ST → Option ST), (∀ (y1 : Int32) (M : ST) (H : Heap) (locs : List Loc) (ls : Array Slot), va_P D vwCl (kX8 cs a (.ref (nn 0)) M) H → va_D A (kX8 cs a (.ref (nn 0)) M) → va_S A s.heap H locs → lv_has ls 2 [(0, .ref (a 0)), (1, .int y1)] → k7 y1 M = some Mz → W p l e rmX8_cutsLine s m [.ref (a 0)].toArray below meth c H locs 0 0 Q (F0 m 7 ls [])) → ∀ (y1 : Int32) (M : ST) (H : Heap) (locs : List Loc) (ls : Array Slot), va_P D vwCl (kX8 cs a (.ref (nn 0)) M) H → va_D A (kX8 cs a (.ref (nn 0)) M) → va_S A s.heap H locs → lv_has ls 2 [(0, .ref (a 0)), (1, .int y1)] → fX8_cutsLine_7_s k7 y1 M = some Mz → W p l e rmX8_cutsLine s m [.ref (a 0)].toArray below meth c H locs 0 0 Q (F0 m 7 ls []) := by
    intro k7 hk7 y1 M H locs ls hP hD hS hl hf
    unfold fX8_cutsLine_7_s at hf
    refine lv_iload_n hx hb dX8_cutsLine_7 rfl (lv_at hl 1 rfl) ?_
    refine lv_iconst (v := 4) hx hb dX8_cutsLine_8 (by decide) ?_
    refine lv_icmp_ge (tgt := 28) hx hb dX8_cutsLine_9 (by decide) (fun hc2 => ?_) (fun hc2 => ?_)
    · have hf := ip_el hc2 hf
      have he := Option.some.inj hf
      have e0 := he
      exact hrv _ _ rfl rfl dX8_cutsLine_28 _ _ _ (by rw [e0]) hP hD hS
    · have hf := in_el hc2 hf
      refine lv_aload_n hx hb dX8_cutsLine_12 rfl (lv_at hl 0 rfl) ?_
      refine va_get (D := D) (ci := 8) (v := .ref (a 1)) (C := RX8) (T := TX8) (N := 26) hx hb hu inX8 hown hK.1 hP 0 rfl rfl 0 (by decide) (hu _ q917) (fun _ h9 => h9) rfl dX8_cutsLine_13 ?_
      refine lv_bipush (v := 10) hx hb dX8_cutsLine_16 (by decide) ?_
      refine lv_iload_n hx hb dX8_cutsLine_18 rfl (lv_at hl 1 rfl) ?_
      refine lv_iadd hx hb dX8_cutsLine_19 ?_
      refine lv_iconst (v := (-1)) hx hb dX8_cutsLine_20 (by decide) ?_
      obtain ⟨hi3, hf⟩ := ck_el hf
      obtain ⟨M_4, hM_4, hf⟩ := lt_el hf
      refine va_iast hx hb hK.1 hP hD hS 1 0 rfl rfl hi3 dX8_cutsLine_21 (fun H locs hP hD hS => ?_)
      have hP : va_P D vwCl (kX8 cs a (.ref (nn 0)) M_4) H := by rw [hM_4]; exact hP
      have hD : va_D A (kX8 cs a (.ref (nn 0)) M_4) := by rw [hM_4]; exact hD
      obtain ⟨v5, hv5, hf⟩ := lt_el hf
      refine lv_iinc (v := v5) (lv' := [(1, .int v5), (0, .ref (a 0))]) hx hb dX8_cutsLine_22 hl (k := 1) rfl (by rw [hv5]; rfl) (by decide) rfl (fun ls hl => ?_)
      refine lv_goto (tgt := 7) hx hb dX8_cutsLine_25 (by decide) ?_
      exact hk7 v5 M_4 _ _ _ hP hD hS (lv_sub hl [1, 0] rfl) hf
  have h7 : ∀ (n : Nat), ∀ (y1 : Int32) (M : ST) (H : Heap) (locs : List Loc) (ls : Array Slot), va_P D vwCl (kX8 cs a (.ref (nn 0)) M) H → va_D A (kX8 cs a (.ref (nn 0)) M) → va_S A s.heap H locs → lv_has ls 2 [(0, .ref (a 0)), (1, .int y1)] → fX8_cutsLine_7 n y1 M = some Mz → W p l e rmX8_cutsLine s m [.ref (a 0)].toArray below meth c H locs 0 0 Q (F0 m 7 ls []) := by
    intro n
    induction n with
    | zero => intro y1 M H locs ls hP hD hS hl hf; exact no_el hf
    | succ n ih => intro y1 M H locs ls hP hD hS hl hf; exact hs7 _ ih y1 M _ _ _ hP hD hS hl hf
  have hl : lv_has ls0 2 [(0, .ref (a 0))] := hl0
  have hP := hP0
  have hD := hD0
  have hS := hS0
  unfold fX8_cutsLine at hf
  refine lv_aload_n hx hb dX8_cutsLine_0 rfl (lv_at hl 0 rfl) ?_
  refine va_get (D := D) (ci := 8) (v := .ref (a 1)) (C := RX8) (T := TX8) (N := 26) hx hb hu inX8 hown hK.1 hP 0 rfl rfl 0 (by decide) (hu _ q917) (fun _ h9 => h9) rfl dX8_cutsLine_1 ?_
  refine lv_iconst (v := 4) hx hb dX8_cutsLine_4 (by decide) ?_
  refine ia_lit hx hb hK hP 1 4 rfl (by decide) dX8_cutsLine_5 ?_
  obtain ⟨v1, hv1, hf⟩ := lt_el hf
  refine lv_tope hv1 ?_
  refine lv_istore_n (lv' := [(1, .int v1), (0, .ref (a 0))]) hx hb dX8_cutsLine_6 rfl hl (by decide) rfl (fun ls hl => ?_)
  exact h7 400 v1 M _ _ _ hP hD hS (lv_sub hl [1, 0] rfl) hf

def fX8_rule (x1 : Int32) (x2 : Int32) (M : ST) : Option (Int32 × ST) :=
  dc_b1 (fX8_isRule x1 x2) (fun r1 => (if r1 = 0 then dc_b2 (fX8_finds (-1000000001) M) (fun r9 M_10 => some (r9, M_10)) else dc_b2 (fX8_becomes (4 + x1) x2 M) (fun r4 M_5 => dc_b1 (fX8_cutsLine M_5) (fun M_7 => some (r4, M_7)))))
abbrev rmX8_rule : Room := { frames := 2, cells := 0, slots := 0, locals := 46 }
set_option maxRecDepth 100000 in
set_option maxHeartbeats 4000000 in
theorem tX8_rule (l : Launch) (D : va_G) (cs : Nat → ClassId) (a : Nat → Nat) (nn : Nat → Nat) (x1 : Int32) (x2 : Int32) (M : ST) (r0 : Int32) (Mz : ST) (hf : fX8_rule x1 x2 M = some (r0, Mz)) : CG l yX8_rule (wsm yX8_rule cX8_rule 4 (some .int)) rmX8_rule D cs [.ref (a 0), .int x1, .int x2] (some (.int r0)) (kX8 cs a (.ref (nn 0)) M) (kX8 cs a (.ref (nn 0)) Mz) := by
  refine CG.intro (by decide) (Nat.le_of_ble_eq_true rfl) ?_
  intro p e s m below meth c A Q hx hb hml hown hu hK hZ hP0 hD0 hS0 hA hri hrz hrl hrv hra ls0 hl0
  have hl : lv_has ls0 4 [(0, .ref (a 0)), (1, .int x1), (2, .int x2)] := hl0
  have hP := hP0
  have hD := hD0
  have hS := hS0
  unfold fX8_rule at hf
  refine lv_iload_n hx hb dX8_rule_0 rfl (lv_at hl 1 rfl) ?_
  refine lv_iload_n hx hb dX8_rule_1 rfl (lv_at hl 2 rfl) ?_
  obtain ⟨r1, hg2, hf⟩ := b1_el hf
  refine cc_S0 (st1 := [.int r1]) [.int x1, .int x2] hx hb hml hown hu (tX8_isRule l D cs x1 x2 r1 hg2) q1116 q62 q1114 q1115 pdX8_isRule ⟨rfl, rfl, Nat.le_of_ble_eq_true rfl, Nat.le_of_ble_eq_true rfl⟩ hK hZ hP hD hS hA rfl hl.1 rfl (Nat.le_of_ble_eq_true rfl) dX8_rule_2 rfl (fun H locs hP hD hS => ?_)
  refine lv_if_ne (tgt := 15) hx hb dX8_rule_5 (by decide) (fun hc3 => ?_) (fun hc3 => ?_)
  · have hf := in_el hc3 hf
    refine lv_aload_n hx hb dX8_rule_15 rfl (lv_at hl 0 rfl) ?_
    refine lv_iconst (v := 4) hx hb dX8_rule_16 (by decide) ?_
    refine lv_iload_n hx hb dX8_rule_17 rfl (lv_at hl 1 rfl) ?_
    refine lv_iadd hx hb dX8_rule_18 ?_
    refine lv_iload_n hx hb dX8_rule_19 rfl (lv_at hl 2 rfl) ?_
    obtain ⟨r4, M_5, hg6, hf⟩ := b2_el hf
    refine cc_V1 (w' := (kX8 cs a (.ref (nn 0)) M_5)) (st1 := [.int r4]) [.int (4 + x1), .int x2] hx hb hml hown hu (tX8_becomes l D cs a nn (4 + x1) x2 M r4 M_5 hg6) q1093 q62 q1090 q1092 q35 pdX8_becomes ⟨rfl, rfl, Nat.le_of_ble_eq_true rfl, Nat.le_of_ble_eq_true rfl⟩ hK hZ hP hD hS hA rfl rfl rfl rfl hl.1 rfl (Nat.le_of_ble_eq_true rfl) dX8_rule_20 rfl (fun H locs hP hD hS => ?_)
    refine lv_istore_n (lv' := [(3, .int r4), (0, .ref (a 0)), (1, .int x1), (2, .int x2)]) hx hb dX8_rule_23 rfl hl (by decide) rfl (fun ls hl => ?_)
    refine lv_aload_n hx hb dX8_rule_24 rfl (lv_at hl 1 rfl) ?_
    obtain ⟨M_7, hg8, hf⟩ := b1_el hf
    refine cc_V1 (w' := (kX8 cs a (.ref (nn 0)) M_7)) (st1 := []) [] hx hb hml hown hu (tX8_cutsLine l D cs a nn M_5 M_7 hg8) q1123 q62 q1120 q1122 q36 pdX8_cutsLine ⟨rfl, rfl, Nat.le_of_ble_eq_true rfl, Nat.le_of_ble_eq_true rfl⟩ hK hZ hP hD hS hA rfl rfl rfl rfl hl.1 rfl (Nat.le_of_ble_eq_true rfl) dX8_rule_25 rfl (fun H locs hP hD hS => ?_)
    refine lv_iload_n hx hb dX8_rule_28 rfl (lv_at hl 0 rfl) ?_
    have he := Option.some.inj hf
    obtain ⟨e0, e1⟩ := Prod.mk.inj he
    exact hri _ _ _ rfl (congrArg (fun z => some (Value.int z)) e0.symm) dX8_rule_29 _ _ _ (by rw [e1]) hP hD hS
  · have hf := ip_el hc3 hf
    refine lv_aload_n hx hb dX8_rule_8 rfl (lv_at hl 0 rfl) ?_
    refine lv_ldc (v := (-1000000001)) hx hb hown (hu _ q1008) dX8_rule_9 ?_
    obtain ⟨r9, M_10, hg11, hf⟩ := b2_el hf
    refine cc_V1 (w' := (kX8 cs a (.ref (nn 0)) M_10)) (st1 := [.int r9]) [.int (-1000000001)] hx hb hml hown hu (tX8_finds l D cs a nn (-1000000001) M r9 M_10 hg11) q1012 q62 q1009 q1011 q19 pdX8_finds ⟨rfl, rfl, Nat.le_of_ble_eq_true rfl, Nat.le_of_ble_eq_true rfl⟩ hK hZ hP hD hS hA rfl rfl rfl rfl hl.1 rfl (Nat.le_of_ble_eq_true rfl) dX8_rule_11 rfl (fun H locs hP hD hS => ?_)
    have he := Option.some.inj hf
    obtain ⟨e0, e1⟩ := Prod.mk.inj he
    exact hri _ _ _ rfl (congrArg (fun z => some (Value.int z)) e0.symm) dX8_rule_14 _ _ _ (by rw [e1]) hP hD hS

def fX8_sit_48 (y1 : Int32) (M : ST) : Option (Int32 × ST) :=
  dc_lt (sti M 1 2 0) (fun M_3 => dc_b2 (fX8_becomes 1 y1 M_3) (fun r4 M_5 => some (r4, M_5)))
def fX8_sit_41 (M : ST) : Option (Int32 × ST) :=
  dc_b2 (fX8_finds (-1000000005) M) (fun r10 M_11 => some (r10, M_11))
def fX8_sit_20 (y1 : Int32) (M : ST) : Option (Int32 × ST) :=
  (if y1 = (-1) then fX8_sit_48 y1 M else dc_b1 (fX8_isAlive y1 M) (fun r7 => (if r7 = 0 then fX8_sit_41 M else dc_b1 (fX8_placeOf y1 M) (fun r13 => (if r13 < 0 then fX8_sit_48 y1 M else fX8_sit_41 M)))))
def fX8_sit (x1 : Int32) (M : ST) : Option (Int32 × ST) :=
  (if x1 = (-1) then fX8_sit_20 x1 M else dc_b1 (fX8_isPerson x1 M) (fun r16 => (if r16 = 0 then dc_b2 (fX8_finds (-1000000001) M) (fun r19 M_20 => some (r19, M_20)) else fX8_sit_20 x1 M)))
abbrev rmX8_sit : Room := { frames := 2, cells := 0, slots := 0, locals := 43 }
set_option maxRecDepth 100000 in
set_option maxHeartbeats 4000000 in
theorem tX8_sit (l : Launch) (D : va_G) (cs : Nat → ClassId) (a : Nat → Nat) (nn : Nat → Nat) (x1 : Int32) (M : ST) (r0 : Int32) (Mz : ST) (hf : fX8_sit x1 M = some (r0, Mz)) : CG l yX8_sit (wsm yX8_sit cX8_sit 2 (some .int)) rmX8_sit D cs [.ref (a 0), .int x1] (some (.int r0)) (kX8 cs a (.ref (nn 0)) M) (kX8 cs a (.ref (nn 0)) Mz) := by
  refine CG.intro (by decide) (Nat.le_of_ble_eq_true rfl) ?_
  intro p e s m below meth c A Q hx hb hml hown hu hK hZ hP0 hD0 hS0 hA hri hrz hrl hrv hra ls0 hl0
  have h48 : ∀ (y1 : Int32) (M : ST) (H : Heap) (locs : List Loc) (ls : Array Slot), va_P D vwCl (kX8 cs a (.ref (nn 0)) M) H → va_D A (kX8 cs a (.ref (nn 0)) M) → va_S A s.heap H locs → lv_has ls 2 [(0, .ref (a 0)), (1, .int y1)] → fX8_sit_48 y1 M = some (r0, Mz) → W p l e rmX8_sit s m [.ref (a 0), .int x1].toArray below meth c H locs 0 0 Q (F0 m 48 ls []) := by
    intro y1 M H locs ls hP hD hS hl hf
    unfold fX8_sit_48 at hf
    refine lv_aload_n hx hb dX8_sit_48 rfl (lv_at hl 0 rfl) ?_
    refine va_get (D := D) (ci := 8) (v := .ref (a 1)) (C := RX8) (T := TX8) (N := 26) hx hb hu inX8 hown hK.1 hP 0 rfl rfl 0 (by decide) (hu _ q917) (fun _ h9 => h9) rfl dX8_sit_49 ?_
    refine lv_iconst (v := 2) hx hb dX8_sit_52 (by decide) ?_
    refine lv_iconst (v := 0) hx hb dX8_sit_53 (by decide) ?_
    obtain ⟨M_3, hM_3, hf⟩ := lt_el hf
    refine is_lit hx hb hK hP hD hS 1 2 rfl (by decide) dX8_sit_54 (fun H locs hP hD hS => ?_)
    have hP : va_P D vwCl (kX8 cs a (.ref (nn 0)) M_3) H := by rw [hM_3]; exact hP
    have hD : va_D A (kX8 cs a (.ref (nn 0)) M_3) := by rw [hM_3]; exact hD
    refine lv_aload_n hx hb dX8_sit_55 rfl (lv_at hl 0 rfl) ?_
    refine lv_iconst (v := 1) hx hb dX8_sit_56 (by decide) ?_
    refine lv_iload_n hx hb dX8_sit_57 rfl (lv_at hl 1 rfl) ?_
    obtain ⟨r4, M_5, hg6, hf⟩ := b2_el hf
    refine cc_V1 (w' := (kX8 cs a (.ref (nn 0)) M_5)) (st1 := [.int r4]) [.int 1, .int y1] hx hb hml hown hu (tX8_becomes l D cs a nn 1 y1 M_3 r4 M_5 hg6) q1093 q62 q1090 q1092 q35 pdX8_becomes ⟨rfl, rfl, Nat.le_of_ble_eq_true rfl, Nat.le_of_ble_eq_true rfl⟩ hK hZ hP hD hS hA rfl rfl rfl rfl hl.1 rfl (Nat.le_of_ble_eq_true rfl) dX8_sit_58 rfl (fun H locs hP hD hS => ?_)
    have he := Option.some.inj hf
    obtain ⟨e0, e1⟩ := Prod.mk.inj he
    exact hri _ _ _ rfl (congrArg (fun z => some (Value.int z)) e0.symm) dX8_sit_61 _ _ _ (by rw [e1]) hP hD hS
  have h41 : ∀ (M : ST) (H : Heap) (locs : List Loc) (ls : Array Slot), va_P D vwCl (kX8 cs a (.ref (nn 0)) M) H → va_D A (kX8 cs a (.ref (nn 0)) M) → va_S A s.heap H locs → lv_has ls 2 [(0, .ref (a 0))] → fX8_sit_41 M = some (r0, Mz) → W p l e rmX8_sit s m [.ref (a 0), .int x1].toArray below meth c H locs 0 0 Q (F0 m 41 ls []) := by
    intro M H locs ls hP hD hS hl hf
    unfold fX8_sit_41 at hf
    refine lv_aload_n hx hb dX8_sit_41 rfl (lv_at hl 0 rfl) ?_
    refine lv_ldc (v := (-1000000005)) hx hb hown (hu _ q1128) dX8_sit_42 ?_
    obtain ⟨r10, M_11, hg12, hf⟩ := b2_el hf
    refine cc_V1 (w' := (kX8 cs a (.ref (nn 0)) M_11)) (st1 := [.int r10]) [.int (-1000000005)] hx hb hml hown hu (tX8_finds l D cs a nn (-1000000005) M r10 M_11 hg12) q1012 q62 q1009 q1011 q19 pdX8_finds ⟨rfl, rfl, Nat.le_of_ble_eq_true rfl, Nat.le_of_ble_eq_true rfl⟩ hK hZ hP hD hS hA rfl rfl rfl rfl hl.1 rfl (Nat.le_of_ble_eq_true rfl) dX8_sit_44 rfl (fun H locs hP hD hS => ?_)
    have he := Option.some.inj hf
    obtain ⟨e0, e1⟩ := Prod.mk.inj he
    exact hri _ _ _ rfl (congrArg (fun z => some (Value.int z)) e0.symm) dX8_sit_47 _ _ _ (by rw [e1]) hP hD hS
  have h20 : ∀ (y1 : Int32) (M : ST) (H : Heap) (locs : List Loc) (ls : Array Slot), va_P D vwCl (kX8 cs a (.ref (nn 0)) M) H → va_D A (kX8 cs a (.ref (nn 0)) M) → va_S A s.heap H locs → lv_has ls 2 [(0, .ref (a 0)), (1, .int y1)] → fX8_sit_20 y1 M = some (r0, Mz) → W p l e rmX8_sit s m [.ref (a 0), .int x1].toArray below meth c H locs 0 0 Q (F0 m 20 ls []) := by
    intro y1 M H locs ls hP hD hS hl hf
    unfold fX8_sit_20 at hf
    refine lv_iload_n hx hb dX8_sit_20 rfl (lv_at hl 1 rfl) ?_
    refine lv_iconst (v := (-1)) hx hb dX8_sit_21 (by decide) ?_
    refine lv_icmp_eq (tgt := 48) hx hb dX8_sit_22 (by decide) (fun hc2 => ?_) (fun hc2 => ?_)
    · have hf := ip_el hc2 hf
      exact h48 y1 M _ _ _ hP hD hS (lv_sub hl [0, 1] rfl) hf
    · have hf := in_el hc2 hf
      refine lv_aload_n hx hb dX8_sit_25 rfl (lv_at hl 0 rfl) ?_
      refine lv_iload_n hx hb dX8_sit_26 rfl (lv_at hl 1 rfl) ?_
      obtain ⟨r7, hg8, hf⟩ := b1_el hf
      refine cc_V1 (w' := (kX8 cs a (.ref (nn 0)) M)) (st1 := [.int r7]) [.int y1] hx hb hml hown hu (tX8_isAlive l D cs a nn y1 M r7 hg8) q1042 q62 q1039 q1041 q25 pdX8_isAlive ⟨rfl, rfl, Nat.le_of_ble_eq_true rfl, Nat.le_of_ble_eq_true rfl⟩ hK hZ hP hD hS hA rfl rfl rfl rfl hl.1 rfl (Nat.le_of_ble_eq_true rfl) dX8_sit_27 rfl (fun H locs hP hD hS => ?_)
      refine lv_if_eq (tgt := 41) hx hb dX8_sit_30 (by decide) (fun hc9 => ?_) (fun hc9 => ?_)
      · have hf := ip_el hc9 hf
        exact h41 M _ _ _ hP hD hS (lv_sub hl [0] rfl) hf
      · have hf := in_el hc9 hf
        refine lv_aload_n hx hb dX8_sit_33 rfl (lv_at hl 0 rfl) ?_
        refine lv_iload_n hx hb dX8_sit_34 rfl (lv_at hl 1 rfl) ?_
        obtain ⟨r13, hg14, hf⟩ := b1_el hf
        refine cc_V1 (w' := (kX8 cs a (.ref (nn 0)) M)) (st1 := [.int r13]) [.int y1] hx hb hml hown hu (tX8_placeOf l D cs a nn y1 M r13 hg14) q1030 q62 q1027 q1029 q22 pdX8_placeOf ⟨rfl, rfl, Nat.le_of_ble_eq_true rfl, Nat.le_of_ble_eq_true rfl⟩ hK hZ hP hD hS hA rfl rfl rfl rfl hl.1 rfl (Nat.le_of_ble_eq_true rfl) dX8_sit_35 rfl (fun H locs hP hD hS => ?_)
        refine lv_if_lt (tgt := 48) hx hb dX8_sit_38 (by decide) (fun hc15 => ?_) (fun hc15 => ?_)
        · have hf := ip_el hc15 hf
          exact h48 y1 M _ _ _ hP hD hS (lv_sub hl [0, 1] rfl) hf
        · have hf := in_el hc15 hf
          exact h41 M _ _ _ hP hD hS (lv_sub hl [0] rfl) hf
  have hl : lv_has ls0 2 [(0, .ref (a 0)), (1, .int x1)] := hl0
  have hP := hP0
  have hD := hD0
  have hS := hS0
  unfold fX8_sit at hf
  refine lv_iload_n hx hb dX8_sit_0 rfl (lv_at hl 1 rfl) ?_
  refine lv_iconst (v := (-1)) hx hb dX8_sit_1 (by decide) ?_
  refine lv_icmp_eq (tgt := 20) hx hb dX8_sit_2 (by decide) (fun hc1 => ?_) (fun hc1 => ?_)
  · have hf := ip_el hc1 hf
    exact h20 x1 M _ _ _ hP hD hS (lv_sub hl [0, 1] rfl) hf
  · have hf := in_el hc1 hf
    refine lv_aload_n hx hb dX8_sit_5 rfl (lv_at hl 0 rfl) ?_
    refine lv_iload_n hx hb dX8_sit_6 rfl (lv_at hl 1 rfl) ?_
    obtain ⟨r16, hg17, hf⟩ := b1_el hf
    refine cc_V1 (w' := (kX8 cs a (.ref (nn 0)) M)) (st1 := [.int r16]) [.int x1] hx hb hml hown hu (tX8_isPerson l D cs a nn x1 M r16 hg17) q1021 q62 q1018 q1020 q20 pdX8_isPerson ⟨rfl, rfl, Nat.le_of_ble_eq_true rfl, Nat.le_of_ble_eq_true rfl⟩ hK hZ hP hD hS hA rfl rfl rfl rfl hl.1 rfl (Nat.le_of_ble_eq_true rfl) dX8_sit_7 rfl (fun H locs hP hD hS => ?_)
    refine lv_if_ne (tgt := 20) hx hb dX8_sit_10 (by decide) (fun hc18 => ?_) (fun hc18 => ?_)
    · have hf := in_el hc18 hf
      exact h20 x1 M _ _ _ hP hD hS (lv_sub hl [0, 1] rfl) hf
    · have hf := ip_el hc18 hf
      refine lv_aload_n hx hb dX8_sit_13 rfl (lv_at hl 0 rfl) ?_
      refine lv_ldc (v := (-1000000001)) hx hb hown (hu _ q1008) dX8_sit_14 ?_
      obtain ⟨r19, M_20, hg21, hf⟩ := b2_el hf
      refine cc_V1 (w' := (kX8 cs a (.ref (nn 0)) M_20)) (st1 := [.int r19]) [.int (-1000000001)] hx hb hml hown hu (tX8_finds l D cs a nn (-1000000001) M r19 M_20 hg21) q1012 q62 q1009 q1011 q19 pdX8_finds ⟨rfl, rfl, Nat.le_of_ble_eq_true rfl, Nat.le_of_ble_eq_true rfl⟩ hK hZ hP hD hS hA rfl rfl rfl rfl hl.1 rfl (Nat.le_of_ble_eq_true rfl) dX8_sit_16 rfl (fun H locs hP hD hS => ?_)
      have he := Option.some.inj hf
      obtain ⟨e0, e1⟩ := Prod.mk.inj he
      exact hri _ _ _ rfl (congrArg (fun z => some (Value.int z)) e0.symm) dX8_sit_19 _ _ _ (by rw [e1]) hP hD hS

def fX8_line_31 (M : ST) : Option (Int32 × ST) :=
  dc_b2 (fX8_finds (-1000000001) M) (fun r4 M_5 => some (r4, M_5))
def fX8_line_86 (y1 : Int32) (y2 : Int32) (M : ST) : Option (Int32 × ST) :=
  dc_b2 (fX8_becomes (10 + y1) y2 M) (fun r9 M_10 => some (r9, M_10))
def fX8_line_79 (M : ST) : Option (Int32 × ST) :=
  dc_b2 (fX8_finds (-1000000005) M) (fun r15 M_16 => some (r15, M_16))
def fX8_line_38 (y1 : Int32) (y2 : Int32) (M : ST) : Option (Int32 × ST) :=
  (if y2 = (-1) then fX8_line_86 y1 y2 M else dc_b1 (fX8_isAlive y2 M) (fun r12 => (if r12 = 0 then fX8_line_79 M else dc_b1 (fX8_placeOf y2 M) (fun r18 => (if 0 ≤ r18 then fX8_line_79 M else (if (M 1 1) = y2 then (if (M 1 6) = 0 then fX8_line_79 M else fX8_line_86 y1 y2 M) else fX8_line_86 y1 y2 M))))))
def fX8_line (x1 : Int32) (x2 : Int32) (M : ST) : Option (Int32 × ST) :=
  dc_b1 (fX8_isIn (x1.toInt64) 0 (((M 1 4) - 1).toInt64)) (fun r1 => (if r1 = 0 then fX8_line_31 M else (if x2 = (-1) then fX8_line_38 x1 x2 M else dc_b1 (fX8_isPerson x2 M) (fun r23 => (if r23 = 0 then fX8_line_31 M else fX8_line_38 x1 x2 M)))))
abbrev rmX8_line : Room := { frames := 2, cells := 0, slots := 0, locals := 43 }
set_option maxRecDepth 100000 in
set_option maxHeartbeats 4000000 in
theorem tX8_line (l : Launch) (D : va_G) (cs : Nat → ClassId) (a : Nat → Nat) (nn : Nat → Nat) (x1 : Int32) (x2 : Int32) (M : ST) (r0 : Int32) (Mz : ST) (hf : fX8_line x1 x2 M = some (r0, Mz)) : CG l yX8_line (wsm yX8_line cX8_line 3 (some .int)) rmX8_line D cs [.ref (a 0), .int x1, .int x2] (some (.int r0)) (kX8 cs a (.ref (nn 0)) M) (kX8 cs a (.ref (nn 0)) Mz) := by
  refine CG.intro (by decide) (Nat.le_of_ble_eq_true rfl) ?_
  intro p e s m below meth c A Q hx hb hml hown hu hK hZ hP0 hD0 hS0 hA hri hrz hrl hrv hra ls0 hl0
  have h31 : ∀ (M : ST) (H : Heap) (locs : List Loc) (ls : Array Slot), va_P D vwCl (kX8 cs a (.ref (nn 0)) M) H → va_D A (kX8 cs a (.ref (nn 0)) M) → va_S A s.heap H locs → lv_has ls 3 [(0, .ref (a 0))] → fX8_line_31 M = some (r0, Mz) → W p l e rmX8_line s m [.ref (a 0), .int x1, .int x2].toArray below meth c H locs 0 0 Q (F0 m 31 ls []) := by
    intro M H locs ls hP hD hS hl hf
    unfold fX8_line_31 at hf
    refine lv_aload_n hx hb dX8_line_31 rfl (lv_at hl 0 rfl) ?_
    refine lv_ldc (v := (-1000000001)) hx hb hown (hu _ q1008) dX8_line_32 ?_
    obtain ⟨r4, M_5, hg6, hf⟩ := b2_el hf
    refine cc_V1 (w' := (kX8 cs a (.ref (nn 0)) M_5)) (st1 := [.int r4]) [.int (-1000000001)] hx hb hml hown hu (tX8_finds l D cs a nn (-1000000001) M r4 M_5 hg6) q1012 q62 q1009 q1011 q19 pdX8_finds ⟨rfl, rfl, Nat.le_of_ble_eq_true rfl, Nat.le_of_ble_eq_true rfl⟩ hK hZ hP hD hS hA rfl rfl rfl rfl hl.1 rfl (Nat.le_of_ble_eq_true rfl) dX8_line_34 rfl (fun H locs hP hD hS => ?_)
    have he := Option.some.inj hf
    obtain ⟨e0, e1⟩ := Prod.mk.inj he
    exact hri _ _ _ rfl (congrArg (fun z => some (Value.int z)) e0.symm) dX8_line_37 _ _ _ (by rw [e1]) hP hD hS
  have h86 : ∀ (y1 : Int32) (y2 : Int32) (M : ST) (H : Heap) (locs : List Loc) (ls : Array Slot), va_P D vwCl (kX8 cs a (.ref (nn 0)) M) H → va_D A (kX8 cs a (.ref (nn 0)) M) → va_S A s.heap H locs → lv_has ls 3 [(0, .ref (a 0)), (1, .int y1), (2, .int y2)] → fX8_line_86 y1 y2 M = some (r0, Mz) → W p l e rmX8_line s m [.ref (a 0), .int x1, .int x2].toArray below meth c H locs 0 0 Q (F0 m 86 ls []) := by
    intro y1 y2 M H locs ls hP hD hS hl hf
    unfold fX8_line_86 at hf
    refine lv_aload_n hx hb dX8_line_86 rfl (lv_at hl 0 rfl) ?_
    refine lv_bipush (v := 10) hx hb dX8_line_87 (by decide) ?_
    refine lv_iload_n hx hb dX8_line_89 rfl (lv_at hl 1 rfl) ?_
    refine lv_iadd hx hb dX8_line_90 ?_
    refine lv_iload_n hx hb dX8_line_91 rfl (lv_at hl 2 rfl) ?_
    obtain ⟨r9, M_10, hg11, hf⟩ := b2_el hf
    refine cc_V1 (w' := (kX8 cs a (.ref (nn 0)) M_10)) (st1 := [.int r9]) [.int (10 + y1), .int y2] hx hb hml hown hu (tX8_becomes l D cs a nn (10 + y1) y2 M r9 M_10 hg11) q1093 q62 q1090 q1092 q35 pdX8_becomes ⟨rfl, rfl, Nat.le_of_ble_eq_true rfl, Nat.le_of_ble_eq_true rfl⟩ hK hZ hP hD hS hA rfl rfl rfl rfl hl.1 rfl (Nat.le_of_ble_eq_true rfl) dX8_line_92 rfl (fun H locs hP hD hS => ?_)
    have he := Option.some.inj hf
    obtain ⟨e0, e1⟩ := Prod.mk.inj he
    exact hri _ _ _ rfl (congrArg (fun z => some (Value.int z)) e0.symm) dX8_line_95 _ _ _ (by rw [e1]) hP hD hS
  have h79 : ∀ (M : ST) (H : Heap) (locs : List Loc) (ls : Array Slot), va_P D vwCl (kX8 cs a (.ref (nn 0)) M) H → va_D A (kX8 cs a (.ref (nn 0)) M) → va_S A s.heap H locs → lv_has ls 3 [(0, .ref (a 0))] → fX8_line_79 M = some (r0, Mz) → W p l e rmX8_line s m [.ref (a 0), .int x1, .int x2].toArray below meth c H locs 0 0 Q (F0 m 79 ls []) := by
    intro M H locs ls hP hD hS hl hf
    unfold fX8_line_79 at hf
    refine lv_aload_n hx hb dX8_line_79 rfl (lv_at hl 0 rfl) ?_
    refine lv_ldc (v := (-1000000005)) hx hb hown (hu _ q1128) dX8_line_80 ?_
    obtain ⟨r15, M_16, hg17, hf⟩ := b2_el hf
    refine cc_V1 (w' := (kX8 cs a (.ref (nn 0)) M_16)) (st1 := [.int r15]) [.int (-1000000005)] hx hb hml hown hu (tX8_finds l D cs a nn (-1000000005) M r15 M_16 hg17) q1012 q62 q1009 q1011 q19 pdX8_finds ⟨rfl, rfl, Nat.le_of_ble_eq_true rfl, Nat.le_of_ble_eq_true rfl⟩ hK hZ hP hD hS hA rfl rfl rfl rfl hl.1 rfl (Nat.le_of_ble_eq_true rfl) dX8_line_82 rfl (fun H locs hP hD hS => ?_)
    have he := Option.some.inj hf
    obtain ⟨e0, e1⟩ := Prod.mk.inj he
    exact hri _ _ _ rfl (congrArg (fun z => some (Value.int z)) e0.symm) dX8_line_85 _ _ _ (by rw [e1]) hP hD hS
  have h38 : ∀ (y1 : Int32) (y2 : Int32) (M : ST) (H : Heap) (locs : List Loc) (ls : Array Slot), va_P D vwCl (kX8 cs a (.ref (nn 0)) M) H → va_D A (kX8 cs a (.ref (nn 0)) M) → va_S A s.heap H locs → lv_has ls 3 [(0, .ref (a 0)), (1, .int y1), (2, .int y2)] → fX8_line_38 y1 y2 M = some (r0, Mz) → W p l e rmX8_line s m [.ref (a 0), .int x1, .int x2].toArray below meth c H locs 0 0 Q (F0 m 38 ls []) := by
    intro y1 y2 M H locs ls hP hD hS hl hf
    unfold fX8_line_38 at hf
    refine lv_iload_n hx hb dX8_line_38 rfl (lv_at hl 2 rfl) ?_
    refine lv_iconst (v := (-1)) hx hb dX8_line_39 (by decide) ?_
    refine lv_icmp_eq (tgt := 86) hx hb dX8_line_40 (by decide) (fun hc8 => ?_) (fun hc8 => ?_)
    · have hf := ip_el hc8 hf
      exact h86 y1 y2 M _ _ _ hP hD hS (lv_sub hl [0, 1, 2] rfl) hf
    · have hf := in_el hc8 hf
      refine lv_aload_n hx hb dX8_line_43 rfl (lv_at hl 0 rfl) ?_
      refine lv_iload_n hx hb dX8_line_44 rfl (lv_at hl 2 rfl) ?_
      obtain ⟨r12, hg13, hf⟩ := b1_el hf
      refine cc_V1 (w' := (kX8 cs a (.ref (nn 0)) M)) (st1 := [.int r12]) [.int y2] hx hb hml hown hu (tX8_isAlive l D cs a nn y2 M r12 hg13) q1042 q62 q1039 q1041 q25 pdX8_isAlive ⟨rfl, rfl, Nat.le_of_ble_eq_true rfl, Nat.le_of_ble_eq_true rfl⟩ hK hZ hP hD hS hA rfl rfl rfl rfl hl.1 rfl (Nat.le_of_ble_eq_true rfl) dX8_line_45 rfl (fun H locs hP hD hS => ?_)
      refine lv_if_eq (tgt := 79) hx hb dX8_line_48 (by decide) (fun hc14 => ?_) (fun hc14 => ?_)
      · have hf := ip_el hc14 hf
        exact h79 M _ _ _ hP hD hS (lv_sub hl [0] rfl) hf
      · have hf := in_el hc14 hf
        refine lv_aload_n hx hb dX8_line_51 rfl (lv_at hl 0 rfl) ?_
        refine lv_iload_n hx hb dX8_line_52 rfl (lv_at hl 2 rfl) ?_
        obtain ⟨r18, hg19, hf⟩ := b1_el hf
        refine cc_V1 (w' := (kX8 cs a (.ref (nn 0)) M)) (st1 := [.int r18]) [.int y2] hx hb hml hown hu (tX8_placeOf l D cs a nn y2 M r18 hg19) q1030 q62 q1027 q1029 q22 pdX8_placeOf ⟨rfl, rfl, Nat.le_of_ble_eq_true rfl, Nat.le_of_ble_eq_true rfl⟩ hK hZ hP hD hS hA rfl rfl rfl rfl hl.1 rfl (Nat.le_of_ble_eq_true rfl) dX8_line_53 rfl (fun H locs hP hD hS => ?_)
        refine lv_if_ge (tgt := 79) hx hb dX8_line_56 (by decide) (fun hc20 => ?_) (fun hc20 => ?_)
        · have hf := ip_el hc20 hf
          exact h79 M _ _ _ hP hD hS (lv_sub hl [0] rfl) hf
        · have hf := in_el hc20 hf
          refine lv_aload_n hx hb dX8_line_59 rfl (lv_at hl 0 rfl) ?_
          refine va_get (D := D) (ci := 8) (v := .ref (a 1)) (C := RX8) (T := TX8) (N := 26) hx hb hu inX8 hown hK.1 hP 0 rfl rfl 0 (by decide) (hu _ q917) (fun _ h9 => h9) rfl dX8_line_60 ?_
          refine lv_iconst (v := 1) hx hb dX8_line_63 (by decide) ?_
          refine ia_lit hx hb hK hP 1 1 rfl (by decide) dX8_line_64 ?_
          refine lv_iload_n hx hb dX8_line_65 rfl (lv_at hl 2 rfl) ?_
          refine lv_icmp_ne (tgt := 86) hx hb dX8_line_66 (by decide) (fun hc21 => ?_) (fun hc21 => ?_)
          · have hf := in_el hc21 hf
            exact h86 y1 y2 M _ _ _ hP hD hS (lv_sub hl [0, 1, 2] rfl) hf
          · have hf := ip_el hc21 hf
            refine lv_aload_n hx hb dX8_line_69 rfl (lv_at hl 0 rfl) ?_
            refine va_get (D := D) (ci := 8) (v := .ref (a 1)) (C := RX8) (T := TX8) (N := 26) hx hb hu inX8 hown hK.1 hP 0 rfl rfl 0 (by decide) (hu _ q917) (fun _ h9 => h9) rfl dX8_line_70 ?_
            refine lv_bipush (v := 6) hx hb dX8_line_73 (by decide) ?_
            refine ia_lit hx hb hK hP 1 6 rfl (by decide) dX8_line_75 ?_
            refine lv_if_ne (tgt := 86) hx hb dX8_line_76 (by decide) (fun hc22 => ?_) (fun hc22 => ?_)
            · have hf := in_el hc22 hf
              exact h86 y1 y2 M _ _ _ hP hD hS (lv_sub hl [0, 1, 2] rfl) hf
            · have hf := ip_el hc22 hf
              exact h79 M _ _ _ hP hD hS (lv_sub hl [0] rfl) hf
  have hl : lv_has ls0 3 [(0, .ref (a 0)), (1, .int x1), (2, .int x2)] := hl0
  have hP := hP0
  have hD := hD0
  have hS := hS0
  unfold fX8_line at hf
  refine lv_iload_n hx hb dX8_line_0 rfl (lv_at hl 1 rfl) ?_
  refine lv_i2l (v := (x1.toInt64)) hx hb dX8_line_1 rfl ?_
  refine lv_lconst (v := 0) hx hb dX8_line_2 (by decide) ?_
  refine lv_aload_n hx hb dX8_line_3 rfl (lv_at hl 0 rfl) ?_
  refine va_get (D := D) (ci := 8) (v := .ref (a 1)) (C := RX8) (T := TX8) (N := 26) hx hb hu inX8 hown hK.1 hP 0 rfl rfl 0 (by decide) (hu _ q917) (fun _ h9 => h9) rfl dX8_line_4 ?_
  refine lv_iconst (v := 4) hx hb dX8_line_7 (by decide) ?_
  refine ia_lit hx hb hK hP 1 4 rfl (by decide) dX8_line_8 ?_
  refine lv_iconst (v := 1) hx hb dX8_line_9 (by decide) ?_
  refine lv_isub hx hb dX8_line_10 ?_
  refine lv_i2l (v := (((M 1 4) - 1).toInt64)) hx hb dX8_line_11 rfl ?_
  obtain ⟨r1, hg2, hf⟩ := b1_el hf
  refine cc_S0 (st1 := [.int r1]) [.long (x1.toInt64), .long 0, .long (((M 1 4) - 1).toInt64)] hx hb hml hown hu (tX8_isIn l D cs (x1.toInt64) 0 (((M 1 4) - 1).toInt64) r1 hg2) q1004 q62 q1002 q1003 pdX8_isIn ⟨rfl, rfl, Nat.le_of_ble_eq_true rfl, Nat.le_of_ble_eq_true rfl⟩ hK hZ hP hD hS hA rfl hl.1 rfl (Nat.le_of_ble_eq_true rfl) dX8_line_12 rfl (fun H locs hP hD hS => ?_)
  refine lv_if_eq (tgt := 31) hx hb dX8_line_15 (by decide) (fun hc3 => ?_) (fun hc3 => ?_)
  · have hf := ip_el hc3 hf
    exact h31 M _ _ _ hP hD hS (lv_sub hl [0] rfl) hf
  · have hf := in_el hc3 hf
    refine lv_iload_n hx hb dX8_line_18 rfl (lv_at hl 2 rfl) ?_
    refine lv_iconst (v := (-1)) hx hb dX8_line_19 (by decide) ?_
    refine lv_icmp_eq (tgt := 38) hx hb dX8_line_20 (by decide) (fun hc7 => ?_) (fun hc7 => ?_)
    · have hf := ip_el hc7 hf
      exact h38 x1 x2 M _ _ _ hP hD hS (lv_sub hl [0, 1, 2] rfl) hf
    · have hf := in_el hc7 hf
      refine lv_aload_n hx hb dX8_line_23 rfl (lv_at hl 0 rfl) ?_
      refine lv_iload_n hx hb dX8_line_24 rfl (lv_at hl 2 rfl) ?_
      obtain ⟨r23, hg24, hf⟩ := b1_el hf
      refine cc_V1 (w' := (kX8 cs a (.ref (nn 0)) M)) (st1 := [.int r23]) [.int x2] hx hb hml hown hu (tX8_isPerson l D cs a nn x2 M r23 hg24) q1021 q62 q1018 q1020 q20 pdX8_isPerson ⟨rfl, rfl, Nat.le_of_ble_eq_true rfl, Nat.le_of_ble_eq_true rfl⟩ hK hZ hP hD hS hA rfl rfl rfl rfl hl.1 rfl (Nat.le_of_ble_eq_true rfl) dX8_line_25 rfl (fun H locs hP hD hS => ?_)
      refine lv_if_ne (tgt := 38) hx hb dX8_line_28 (by decide) (fun hc25 => ?_) (fun hc25 => ?_)
      · have hf := in_el hc25 hf
        exact h38 x1 x2 M _ _ _ hP hD hS (lv_sub hl [0, 1, 2] rfl) hf
      · have hf := ip_el hc25 hf
        exact h31 M _ _ _ hP hD hS (lv_sub hl [0] rfl) hf

def fX8_may_34_s (k34 : Int32 → Int32 → Int32 → ST → Option (Int32 × ST)) (y1 : Int32) (y2 : Int32) (y3 : Int32) (M : ST) : Option (Int32 × ST) :=
  (if (M 1 0) ≤ y3 then some (y2, M) else dc_b1 (fX8_mayName y1 y3 M) (fun r8 => (if r8 = 0 then dc_lt (y2 ||| 0) (fun v11 => dc_lt (y3 + 1) (fun v12 => k34 y1 v11 v12 M)) else dc_lt (y2 ||| ((1 : Int32) <<< (y3 &&& 31))) (fun v13 => dc_lt (y3 + 1) (fun v14 => k34 y1 v13 v14 M)))))
def fX8_may_34 : Nat → Int32 → Int32 → Int32 → ST → Option (Int32 × ST)
  | 0 => fun _ _ _ _ => none
  | n + 1 => fX8_may_34_s (fX8_may_34 n)
def fX8_may (x1 : Int32) (M : ST) : Option (Int32 × ST) :=
  dc_b1 (fX8_isPerson x1 M) (fun r1 => (if r1 = 0 then dc_b2 (fX8_finds (-1000000001) M) (fun r18 M_19 => some (r18, M_19)) else dc_b1 (fX8_isAlive x1 M) (fun r4 => (if r4 = 0 then dc_b2 (fX8_finds (-1000000005) M) (fun r15 M_16 => some (r15, M_16)) else fX8_may_34 400 x1 0 0 M))))
abbrev rmX8_may : Room := { frames := 3, cells := 0, slots := 0, locals := 65 }
set_option maxRecDepth 100000 in
set_option maxHeartbeats 4000000 in
theorem tX8_may (l : Launch) (D : va_G) (cs : Nat → ClassId) (a : Nat → Nat) (nn : Nat → Nat) (x1 : Int32) (M : ST) (r0 : Int32) (Mz : ST) (hf : fX8_may x1 M = some (r0, Mz)) : CG l yX8_may (wsm yX8_may cX8_may 4 (some .int)) rmX8_may D cs [.ref (a 0), .int x1] (some (.int r0)) (kX8 cs a (.ref (nn 0)) M) (kX8 cs a (.ref (nn 0)) Mz) := by
  refine CG.intro (by decide) (Nat.le_of_ble_eq_true rfl) ?_
  intro p e s m below meth c A Q hx hb hml hown hu hK hZ hP0 hD0 hS0 hA hri hrz hrl hrv hra ls0 hl0
  have hs34 : ∀ (k34 : Int32 → Int32 → Int32 → ST → Option (Int32 × ST)), (∀ (y1 : Int32) (y2 : Int32) (y3 : Int32) (M : ST) (H : Heap) (locs : List Loc) (ls : Array Slot), va_P D vwCl (kX8 cs a (.ref (nn 0)) M) H → va_D A (kX8 cs a (.ref (nn 0)) M) → va_S A s.heap H locs → lv_has ls 4 [(0, .ref (a 0)), (1, .int y1), (2, .int y2), (3, .int y3)] → k34 y1 y2 y3 M = some (r0, Mz) → W p l e rmX8_may s m [.ref (a 0), .int x1].toArray below meth c H locs 0 0 Q (F0 m 34 ls [])) → ∀ (y1 : Int32) (y2 : Int32) (y3 : Int32) (M : ST) (H : Heap) (locs : List Loc) (ls : Array Slot), va_P D vwCl (kX8 cs a (.ref (nn 0)) M) H → va_D A (kX8 cs a (.ref (nn 0)) M) → va_S A s.heap H locs → lv_has ls 4 [(0, .ref (a 0)), (1, .int y1), (2, .int y2), (3, .int y3)] → fX8_may_34_s k34 y1 y2 y3 M = some (r0, Mz) → W p l e rmX8_may s m [.ref (a 0), .int x1].toArray below meth c H locs 0 0 Q (F0 m 34 ls []) := by
    intro k34 hk34 y1 y2 y3 M H locs ls hP hD hS hl hf
    unfold fX8_may_34_s at hf
    refine lv_iload_n hx hb dX8_may_34 rfl (lv_at hl 3 rfl) ?_
    refine lv_aload_n hx hb dX8_may_35 rfl (lv_at hl 0 rfl) ?_
    refine va_get (D := D) (ci := 8) (v := .ref (a 1)) (C := RX8) (T := TX8) (N := 26) hx hb hu inX8 hown hK.1 hP 0 rfl rfl 0 (by decide) (hu _ q917) (fun _ h9 => h9) rfl dX8_may_36 ?_
    refine lv_iconst (v := 0) hx hb dX8_may_39 (by decide) ?_
    refine ia_lit hx hb hK hP 1 0 rfl (by decide) dX8_may_40 ?_
    refine lv_icmp_ge (tgt := 69) hx hb dX8_may_41 (by decide) (fun hc7 => ?_) (fun hc7 => ?_)
    · have hf := ip_el hc7 hf
      refine lv_iload_n hx hb dX8_may_69 rfl (lv_at hl 2 rfl) ?_
      have he := Option.some.inj hf
      obtain ⟨e0, e1⟩ := Prod.mk.inj he
      exact hri _ _ _ rfl (congrArg (fun z => some (Value.int z)) e0.symm) dX8_may_70 _ _ _ (by rw [e1]) hP hD hS
    · have hf := in_el hc7 hf
      refine lv_iload_n hx hb dX8_may_44 rfl (lv_at hl 2 rfl) ?_
      refine lv_aload_n hx hb dX8_may_45 rfl (lv_at hl 0 rfl) ?_
      refine lv_iload_n hx hb dX8_may_46 rfl (lv_at hl 1 rfl) ?_
      refine lv_iload_n hx hb dX8_may_47 rfl (lv_at hl 3 rfl) ?_
      obtain ⟨r8, hg9, hf⟩ := b1_el hf
      refine cc_V1 (w' := (kX8 cs a (.ref (nn 0)) M)) (st1 := [.int r8, .int y2]) [.int y1, .int y3] hx hb hml hown hu (tX8_mayName l D cs a nn y1 y3 M r8 hg9) q1038 q62 q1035 q1037 q24 pdX8_mayName ⟨rfl, rfl, Nat.le_of_ble_eq_true rfl, Nat.le_of_ble_eq_true rfl⟩ hK hZ hP hD hS hA rfl rfl rfl rfl hl.1 rfl (Nat.le_of_ble_eq_true rfl) dX8_may_48 rfl (fun H locs hP hD hS => ?_)
      refine lv_if_eq (tgt := 60) hx hb dX8_may_51 (by decide) (fun hc10 => ?_) (fun hc10 => ?_)
      · have hf := ip_el hc10 hf
        refine lv_iconst (v := 0) hx hb dX8_may_60 (by decide) ?_
        refine lv_ior hx hb dX8_may_61 ?_
        obtain ⟨v11, hv11, hf⟩ := lt_el hf
        refine lv_tope hv11 ?_
        refine lv_istore_n (lv' := [(2, .int v11), (0, .ref (a 0)), (1, .int y1), (3, .int y3)]) hx hb dX8_may_62 rfl hl (by decide) rfl (fun ls hl => ?_)
        obtain ⟨v12, hv12, hf⟩ := lt_el hf
        refine lv_iinc (v := v12) (lv' := [(3, .int v12), (2, .int v11), (0, .ref (a 0)), (1, .int y1)]) hx hb dX8_may_63 hl (k := 3) rfl (by rw [hv12]; rfl) (by decide) rfl (fun ls hl => ?_)
        refine lv_goto (tgt := 34) hx hb dX8_may_66 (by decide) ?_
        exact hk34 y1 v11 v12 M _ _ _ hP hD hS (lv_sub hl [2, 3, 1, 0] rfl) hf
      · have hf := in_el hc10 hf
        refine lv_iconst (v := 1) hx hb dX8_may_54 (by decide) ?_
        refine lv_iload_n hx hb dX8_may_55 rfl (lv_at hl 3 rfl) ?_
        refine lv_ishl hx hb dX8_may_56 ?_
        refine lv_goto (tgt := 61) hx hb dX8_may_57 (by decide) ?_
        refine lv_ior hx hb dX8_may_61 ?_
        obtain ⟨v13, hv13, hf⟩ := lt_el hf
        refine lv_tope hv13 ?_
        refine lv_istore_n (lv' := [(2, .int v13), (0, .ref (a 0)), (1, .int y1), (3, .int y3)]) hx hb dX8_may_62 rfl hl (by decide) rfl (fun ls hl => ?_)
        obtain ⟨v14, hv14, hf⟩ := lt_el hf
        refine lv_iinc (v := v14) (lv' := [(3, .int v14), (2, .int v13), (0, .ref (a 0)), (1, .int y1)]) hx hb dX8_may_63 hl (k := 3) rfl (by rw [hv14]; rfl) (by decide) rfl (fun ls hl => ?_)
        refine lv_goto (tgt := 34) hx hb dX8_may_66 (by decide) ?_
        exact hk34 y1 v13 v14 M _ _ _ hP hD hS (lv_sub hl [2, 3, 1, 0] rfl) hf
  have h34 : ∀ (n : Nat), ∀ (y1 : Int32) (y2 : Int32) (y3 : Int32) (M : ST) (H : Heap) (locs : List Loc) (ls : Array Slot), va_P D vwCl (kX8 cs a (.ref (nn 0)) M) H → va_D A (kX8 cs a (.ref (nn 0)) M) → va_S A s.heap H locs → lv_has ls 4 [(0, .ref (a 0)), (1, .int y1), (2, .int y2), (3, .int y3)] → fX8_may_34 n y1 y2 y3 M = some (r0, Mz) → W p l e rmX8_may s m [.ref (a 0), .int x1].toArray below meth c H locs 0 0 Q (F0 m 34 ls []) := by
    intro n
    induction n with
    | zero => intro y1 y2 y3 M H locs ls hP hD hS hl hf; exact no_el hf
    | succ n ih => intro y1 y2 y3 M H locs ls hP hD hS hl hf; exact hs34 _ ih y1 y2 y3 M _ _ _ hP hD hS hl hf
  have hl : lv_has ls0 4 [(0, .ref (a 0)), (1, .int x1)] := hl0
  have hP := hP0
  have hD := hD0
  have hS := hS0
  unfold fX8_may at hf
  refine lv_aload_n hx hb dX8_may_0 rfl (lv_at hl 0 rfl) ?_
  refine lv_iload_n hx hb dX8_may_1 rfl (lv_at hl 1 rfl) ?_
  obtain ⟨r1, hg2, hf⟩ := b1_el hf
  refine cc_V1 (w' := (kX8 cs a (.ref (nn 0)) M)) (st1 := [.int r1]) [.int x1] hx hb hml hown hu (tX8_isPerson l D cs a nn x1 M r1 hg2) q1021 q62 q1018 q1020 q20 pdX8_isPerson ⟨rfl, rfl, Nat.le_of_ble_eq_true rfl, Nat.le_of_ble_eq_true rfl⟩ hK hZ hP hD hS hA rfl rfl rfl rfl hl.1 rfl (Nat.le_of_ble_eq_true rfl) dX8_may_2 rfl (fun H locs hP hD hS => ?_)
  refine lv_if_ne (tgt := 15) hx hb dX8_may_5 (by decide) (fun hc3 => ?_) (fun hc3 => ?_)
  · have hf := in_el hc3 hf
    refine lv_aload_n hx hb dX8_may_15 rfl (lv_at hl 0 rfl) ?_
    refine lv_iload_n hx hb dX8_may_16 rfl (lv_at hl 1 rfl) ?_
    obtain ⟨r4, hg5, hf⟩ := b1_el hf
    refine cc_V1 (w' := (kX8 cs a (.ref (nn 0)) M)) (st1 := [.int r4]) [.int x1] hx hb hml hown hu (tX8_isAlive l D cs a nn x1 M r4 hg5) q1042 q62 q1039 q1041 q25 pdX8_isAlive ⟨rfl, rfl, Nat.le_of_ble_eq_true rfl, Nat.le_of_ble_eq_true rfl⟩ hK hZ hP hD hS hA rfl rfl rfl rfl hl.1 rfl (Nat.le_of_ble_eq_true rfl) dX8_may_17 rfl (fun H locs hP hD hS => ?_)
    refine lv_if_ne (tgt := 30) hx hb dX8_may_20 (by decide) (fun hc6 => ?_) (fun hc6 => ?_)
    · have hf := in_el hc6 hf
      refine lv_iconst (v := 0) hx hb dX8_may_30 (by decide) ?_
      refine lv_istore_n (lv' := [(2, .int 0), (0, .ref (a 0)), (1, .int x1)]) hx hb dX8_may_31 rfl hl (by decide) rfl (fun ls hl => ?_)
      refine lv_iconst (v := 0) hx hb dX8_may_32 (by decide) ?_
      refine lv_istore_n (lv' := [(3, .int 0), (2, .int 0), (0, .ref (a 0)), (1, .int x1)]) hx hb dX8_may_33 rfl hl (by decide) rfl (fun ls hl => ?_)
      exact h34 400 x1 0 0 M _ _ _ hP hD hS (lv_sub hl [2, 3, 1, 0] rfl) hf
    · have hf := ip_el hc6 hf
      refine lv_aload_n hx hb dX8_may_23 rfl (lv_at hl 0 rfl) ?_
      refine lv_ldc (v := (-1000000005)) hx hb hown (hu _ q1128) dX8_may_24 ?_
      obtain ⟨r15, M_16, hg17, hf⟩ := b2_el hf
      refine cc_V1 (w' := (kX8 cs a (.ref (nn 0)) M_16)) (st1 := [.int r15]) [.int (-1000000005)] hx hb hml hown hu (tX8_finds l D cs a nn (-1000000005) M r15 M_16 hg17) q1012 q62 q1009 q1011 q19 pdX8_finds ⟨rfl, rfl, Nat.le_of_ble_eq_true rfl, Nat.le_of_ble_eq_true rfl⟩ hK hZ hP hD hS hA rfl rfl rfl rfl hl.1 rfl (Nat.le_of_ble_eq_true rfl) dX8_may_26 rfl (fun H locs hP hD hS => ?_)
      have he := Option.some.inj hf
      obtain ⟨e0, e1⟩ := Prod.mk.inj he
      exact hri _ _ _ rfl (congrArg (fun z => some (Value.int z)) e0.symm) dX8_may_29 _ _ _ (by rw [e1]) hP hD hS
  · have hf := ip_el hc3 hf
    refine lv_aload_n hx hb dX8_may_8 rfl (lv_at hl 0 rfl) ?_
    refine lv_ldc (v := (-1000000001)) hx hb hown (hu _ q1008) dX8_may_9 ?_
    obtain ⟨r18, M_19, hg20, hf⟩ := b2_el hf
    refine cc_V1 (w' := (kX8 cs a (.ref (nn 0)) M_19)) (st1 := [.int r18]) [.int (-1000000001)] hx hb hml hown hu (tX8_finds l D cs a nn (-1000000001) M r18 M_19 hg20) q1012 q62 q1009 q1011 q19 pdX8_finds ⟨rfl, rfl, Nat.le_of_ble_eq_true rfl, Nat.le_of_ble_eq_true rfl⟩ hK hZ hP hD hS hA rfl rfl rfl rfl hl.1 rfl (Nat.le_of_ble_eq_true rfl) dX8_may_11 rfl (fun H locs hP hD hS => ?_)
    have he := Option.some.inj hf
    obtain ⟨e0, e1⟩ := Prod.mk.inj he
    exact hri _ _ _ rfl (congrArg (fun z => some (Value.int z)) e0.symm) dX8_may_14 _ _ _ (by rw [e1]) hP hD hS

def fX8_seed (x1 : Int32) (M : ST) : Option (Int32 × ST) :=
  dc_b2 (fX8_becomes 3 x1 M) (fun r1 M_2 => some (r1, M_2))
abbrev rmX8_seed : Room := { frames := 1, cells := 0, slots := 0, locals := 23 }
set_option maxRecDepth 100000 in
set_option maxHeartbeats 4000000 in
theorem tX8_seed (l : Launch) (D : va_G) (cs : Nat → ClassId) (a : Nat → Nat) (nn : Nat → Nat) (x1 : Int32) (M : ST) (r0 : Int32) (Mz : ST) (hf : fX8_seed x1 M = some (r0, Mz)) : CG l yX8_seed (wsm yX8_seed cX8_seed 2 (some .int)) rmX8_seed D cs [.ref (a 0), .int x1] (some (.int r0)) (kX8 cs a (.ref (nn 0)) M) (kX8 cs a (.ref (nn 0)) Mz) := by
  refine CG.intro (by decide) (Nat.le_of_ble_eq_true rfl) ?_
  intro p e s m below meth c A Q hx hb hml hown hu hK hZ hP0 hD0 hS0 hA hri hrz hrl hrv hra ls0 hl0
  have hl : lv_has ls0 2 [(0, .ref (a 0)), (1, .int x1)] := hl0
  have hP := hP0
  have hD := hD0
  have hS := hS0
  unfold fX8_seed at hf
  refine lv_aload_n hx hb dX8_seed_0 rfl (lv_at hl 0 rfl) ?_
  refine lv_iconst (v := 3) hx hb dX8_seed_1 (by decide) ?_
  refine lv_iload_n hx hb dX8_seed_2 rfl (lv_at hl 1 rfl) ?_
  obtain ⟨r1, M_2, hg3, hf⟩ := b2_el hf
  refine cc_V1 (w' := (kX8 cs a (.ref (nn 0)) M_2)) (st1 := [.int r1]) [.int 3, .int x1] hx hb hml hown hu (tX8_becomes l D cs a nn 3 x1 M r1 M_2 hg3) q1093 q62 q1090 q1092 q35 pdX8_becomes ⟨rfl, rfl, Nat.le_of_ble_eq_true rfl, Nat.le_of_ble_eq_true rfl⟩ hK hZ hP hD hS hA rfl rfl rfl rfl hl.1 rfl (Nat.le_of_ble_eq_true rfl) dX8_seed_3 rfl (fun H locs hP hD hS => ?_)
  have he := Option.some.inj hf
  obtain ⟨e0, e1⟩ := Prod.mk.inj he
  exact hri _ _ _ rfl (congrArg (fun z => some (Value.int z)) e0.symm) dX8_seed_6 _ _ _ (by rw [e1]) hP hD hS

def fX8_now (x1 : Int32) (M : ST) : Option (Int32 × ST) :=
  dc_b1 (fX8_isIn (x1.toInt64) 0 ((1 + (M 1 4)).toInt64)) (fun r1 => (if r1 = 0 then dc_b2 (fX8_finds (-1000000001) M) (fun r7 M_8 => some (r7, M_8)) else (if 2 ≤ x1 then dc_ck ((10 + x1) - 2) 271 (some ((M 1 (Int32.toNatClampNeg ((10 + x1) - 2))), M)) else dc_ck (1 + x1) 271 (some ((M 1 (Int32.toNatClampNeg (1 + x1))), M)))))
abbrev rmX8_now : Room := { frames := 1, cells := 0, slots := 0, locals := 25 }
set_option maxRecDepth 100000 in
set_option maxHeartbeats 4000000 in
theorem tX8_now (l : Launch) (D : va_G) (cs : Nat → ClassId) (a : Nat → Nat) (nn : Nat → Nat) (x1 : Int32) (M : ST) (r0 : Int32) (Mz : ST) (hf : fX8_now x1 M = some (r0, Mz)) : CG l yX8_now (wsm yX8_now cX8_now 2 (some .int)) rmX8_now D cs [.ref (a 0), .int x1] (some (.int r0)) (kX8 cs a (.ref (nn 0)) M) (kX8 cs a (.ref (nn 0)) Mz) := by
  refine CG.intro (by decide) (Nat.le_of_ble_eq_true rfl) ?_
  intro p e s m below meth c A Q hx hb hml hown hu hK hZ hP0 hD0 hS0 hA hri hrz hrl hrv hra ls0 hl0
  have hl : lv_has ls0 2 [(0, .ref (a 0)), (1, .int x1)] := hl0
  have hP := hP0
  have hD := hD0
  have hS := hS0
  unfold fX8_now at hf
  refine lv_iload_n hx hb dX8_now_0 rfl (lv_at hl 1 rfl) ?_
  refine lv_i2l (v := (x1.toInt64)) hx hb dX8_now_1 rfl ?_
  refine lv_lconst (v := 0) hx hb dX8_now_2 (by decide) ?_
  refine lv_iconst (v := 1) hx hb dX8_now_3 (by decide) ?_
  refine lv_aload_n hx hb dX8_now_4 rfl (lv_at hl 0 rfl) ?_
  refine va_get (D := D) (ci := 8) (v := .ref (a 1)) (C := RX8) (T := TX8) (N := 26) hx hb hu inX8 hown hK.1 hP 0 rfl rfl 0 (by decide) (hu _ q917) (fun _ h9 => h9) rfl dX8_now_5 ?_
  refine lv_iconst (v := 4) hx hb dX8_now_8 (by decide) ?_
  refine ia_lit hx hb hK hP 1 4 rfl (by decide) dX8_now_9 ?_
  refine lv_iadd hx hb dX8_now_10 ?_
  refine lv_i2l (v := ((1 + (M 1 4)).toInt64)) hx hb dX8_now_11 rfl ?_
  obtain ⟨r1, hg2, hf⟩ := b1_el hf
  refine cc_S0 (st1 := [.int r1]) [.long (x1.toInt64), .long 0, .long ((1 + (M 1 4)).toInt64)] hx hb hml hown hu (tX8_isIn l D cs (x1.toInt64) 0 ((1 + (M 1 4)).toInt64) r1 hg2) q1004 q62 q1002 q1003 pdX8_isIn ⟨rfl, rfl, Nat.le_of_ble_eq_true rfl, Nat.le_of_ble_eq_true rfl⟩ hK hZ hP hD hS hA rfl hl.1 rfl (Nat.le_of_ble_eq_true rfl) dX8_now_12 rfl (fun H locs hP hD hS => ?_)
  refine lv_if_ne (tgt := 25) hx hb dX8_now_15 (by decide) (fun hc3 => ?_) (fun hc3 => ?_)
  · have hf := in_el hc3 hf
    refine lv_iload_n hx hb dX8_now_25 rfl (lv_at hl 1 rfl) ?_
    refine lv_iconst (v := 2) hx hb dX8_now_26 (by decide) ?_
    refine lv_icmp_ge (tgt := 41) hx hb dX8_now_27 (by decide) (fun hc4 => ?_) (fun hc4 => ?_)
    · have hf := ip_el hc4 hf
      refine lv_aload_n hx hb dX8_now_41 rfl (lv_at hl 0 rfl) ?_
      refine va_get (D := D) (ci := 8) (v := .ref (a 1)) (C := RX8) (T := TX8) (N := 26) hx hb hu inX8 hown hK.1 hP 0 rfl rfl 0 (by decide) (hu _ q917) (fun _ h9 => h9) rfl dX8_now_42 ?_
      refine lv_bipush (v := 10) hx hb dX8_now_45 (by decide) ?_
      refine lv_iload_n hx hb dX8_now_47 rfl (lv_at hl 1 rfl) ?_
      refine lv_iadd hx hb dX8_now_48 ?_
      refine lv_iconst (v := 2) hx hb dX8_now_49 (by decide) ?_
      refine lv_isub hx hb dX8_now_50 ?_
      obtain ⟨hi5, hf⟩ := ck_el hf
      refine va_iald hx hb hK.1 hP 1 0 rfl rfl hi5 dX8_now_51 ?_
      have he := Option.some.inj hf
      obtain ⟨e0, e1⟩ := Prod.mk.inj he
      exact hri _ _ _ rfl (congrArg (fun z => some (Value.int z)) e0.symm) dX8_now_52 _ _ _ (by rw [e1]) hP hD hS
    · have hf := in_el hc4 hf
      refine lv_aload_n hx hb dX8_now_30 rfl (lv_at hl 0 rfl) ?_
      refine va_get (D := D) (ci := 8) (v := .ref (a 1)) (C := RX8) (T := TX8) (N := 26) hx hb hu inX8 hown hK.1 hP 0 rfl rfl 0 (by decide) (hu _ q917) (fun _ h9 => h9) rfl dX8_now_31 ?_
      refine lv_iconst (v := 1) hx hb dX8_now_34 (by decide) ?_
      refine lv_iload_n hx hb dX8_now_35 rfl (lv_at hl 1 rfl) ?_
      refine lv_iadd hx hb dX8_now_36 ?_
      obtain ⟨hi6, hf⟩ := ck_el hf
      refine va_iald hx hb hK.1 hP 1 0 rfl rfl hi6 dX8_now_37 ?_
      refine lv_goto (tgt := 52) hx hb dX8_now_38 (by decide) ?_
      have he := Option.some.inj hf
      obtain ⟨e0, e1⟩ := Prod.mk.inj he
      exact hri _ _ _ rfl (congrArg (fun z => some (Value.int z)) e0.symm) dX8_now_52 _ _ _ (by rw [e1]) hP hD hS
  · have hf := ip_el hc3 hf
    refine lv_aload_n hx hb dX8_now_18 rfl (lv_at hl 0 rfl) ?_
    refine lv_ldc (v := (-1000000001)) hx hb hown (hu _ q1008) dX8_now_19 ?_
    obtain ⟨r7, M_8, hg9, hf⟩ := b2_el hf
    refine cc_V1 (w' := (kX8 cs a (.ref (nn 0)) M_8)) (st1 := [.int r7]) [.int (-1000000001)] hx hb hml hown hu (tX8_finds l D cs a nn (-1000000001) M r7 M_8 hg9) q1012 q62 q1009 q1011 q19 pdX8_finds ⟨rfl, rfl, Nat.le_of_ble_eq_true rfl, Nat.le_of_ble_eq_true rfl⟩ hK hZ hP hD hS hA rfl rfl rfl rfl hl.1 rfl (Nat.le_of_ble_eq_true rfl) dX8_now_21 rfl (fun H locs hP hD hS => ?_)
    have he := Option.some.inj hf
    obtain ⟨e0, e1⟩ := Prod.mk.inj he
    exact hri _ _ _ rfl (congrArg (fun z => some (Value.int z)) e0.symm) dX8_now_24 _ _ _ (by rw [e1]) hP hD hS

def fX8_laysBy_2_s (k2 : Int32 → ST → Option ST) (y1 : Int32) (M : ST) : Option ST :=
  (if 74 ≤ y1 then some M else dc_ck y1 271 (dc_ck y1 74 (dc_lt (sti M 14 (Int32.toNatClampNeg y1) (M 1 (Int32.toNatClampNeg y1))) (fun M_4 => dc_lt (y1 + 1) (fun v5 => k2 v5 M_4)))))
def fX8_laysBy_2 : Nat → Int32 → ST → Option ST
  | 0 => fun _ _ => none
  | n + 1 => fX8_laysBy_2_s (fX8_laysBy_2 n)
def fX8_laysBy (M : ST) : Option ST :=
  fX8_laysBy_2 400 0 M
abbrev rmX8_laysBy : Room := { frames := 0, cells := 0, slots := 0, locals := 0 }
set_option maxRecDepth 100000 in
set_option maxHeartbeats 4000000 in
theorem tX8_laysBy (l : Launch) (D : va_G) (cs : Nat → ClassId) (a : Nat → Nat) (nn : Nat → Nat) (M : ST) (Mz : ST) (hf : fX8_laysBy M = some Mz) : CG l yX8_laysBy (wsm yX8_laysBy cX8_laysBy 2 none) rmX8_laysBy D cs [.ref (a 0)] none (kX8 cs a (.ref (nn 0)) M) (kX8 cs a (.ref (nn 0)) Mz) := by
  refine CG.intro (by decide) (Nat.le_of_ble_eq_true rfl) ?_
  intro p e s m below meth c A Q hx hb hml hown hu hK hZ hP0 hD0 hS0 hA hri hrz hrl hrv hra ls0 hl0
  have hs2 : ∀ (k2 : Int32 → ST → Option ST), (∀ (y1 : Int32) (M : ST) (H : Heap) (locs : List Loc) (ls : Array Slot), va_P D vwCl (kX8 cs a (.ref (nn 0)) M) H → va_D A (kX8 cs a (.ref (nn 0)) M) → va_S A s.heap H locs → lv_has ls 2 [(0, .ref (a 0)), (1, .int y1)] → k2 y1 M = some Mz → W p l e rmX8_laysBy s m [.ref (a 0)].toArray below meth c H locs 0 0 Q (F0 m 2 ls [])) → ∀ (y1 : Int32) (M : ST) (H : Heap) (locs : List Loc) (ls : Array Slot), va_P D vwCl (kX8 cs a (.ref (nn 0)) M) H → va_D A (kX8 cs a (.ref (nn 0)) M) → va_S A s.heap H locs → lv_has ls 2 [(0, .ref (a 0)), (1, .int y1)] → fX8_laysBy_2_s k2 y1 M = some Mz → W p l e rmX8_laysBy s m [.ref (a 0)].toArray below meth c H locs 0 0 Q (F0 m 2 ls []) := by
    intro k2 hk2 y1 M H locs ls hP hD hS hl hf
    unfold fX8_laysBy_2_s at hf
    refine lv_iload_n hx hb dX8_laysBy_2 rfl (lv_at hl 1 rfl) ?_
    refine lv_bipush (v := 74) hx hb dX8_laysBy_3 (by decide) ?_
    refine lv_icmp_ge (tgt := 26) hx hb dX8_laysBy_5 (by decide) (fun hc1 => ?_) (fun hc1 => ?_)
    · have hf := ip_el hc1 hf
      have he := Option.some.inj hf
      have e0 := he
      exact hrv _ _ rfl rfl dX8_laysBy_26 _ _ _ (by rw [e0]) hP hD hS
    · have hf := in_el hc1 hf
      refine lv_aload_n hx hb dX8_laysBy_8 rfl (lv_at hl 0 rfl) ?_
      refine va_get (D := D) (ci := 8) (v := .ref (a 14)) (C := RX8) (T := TX8) (N := 26) hx hb hu inX8 hown hK.1 hP 0 rfl rfl 13 (by decide) (hu _ q930) (fun _ h9 => h9) rfl dX8_laysBy_9 ?_
      refine lv_iload_n hx hb dX8_laysBy_12 rfl (lv_at hl 1 rfl) ?_
      refine lv_aload_n hx hb dX8_laysBy_13 rfl (lv_at hl 0 rfl) ?_
      refine va_get (D := D) (ci := 8) (v := .ref (a 1)) (C := RX8) (T := TX8) (N := 26) hx hb hu inX8 hown hK.1 hP 0 rfl rfl 0 (by decide) (hu _ q917) (fun _ h9 => h9) rfl dX8_laysBy_14 ?_
      refine lv_iload_n hx hb dX8_laysBy_17 rfl (lv_at hl 1 rfl) ?_
      obtain ⟨hi2, hf⟩ := ck_el hf
      refine va_iald hx hb hK.1 hP 1 0 rfl rfl hi2 dX8_laysBy_18 ?_
      obtain ⟨hi3, hf⟩ := ck_el hf
      obtain ⟨M_4, hM_4, hf⟩ := lt_el hf
      refine va_iast hx hb hK.1 hP hD hS 8 0 rfl rfl hi3 dX8_laysBy_19 (fun H locs hP hD hS => ?_)
      have hP : va_P D vwCl (kX8 cs a (.ref (nn 0)) M_4) H := by rw [hM_4]; exact hP
      have hD : va_D A (kX8 cs a (.ref (nn 0)) M_4) := by rw [hM_4]; exact hD
      obtain ⟨v5, hv5, hf⟩ := lt_el hf
      refine lv_iinc (v := v5) (lv' := [(1, .int v5), (0, .ref (a 0))]) hx hb dX8_laysBy_20 hl (k := 1) rfl (by rw [hv5]; rfl) (by decide) rfl (fun ls hl => ?_)
      refine lv_goto (tgt := 2) hx hb dX8_laysBy_23 (by decide) ?_
      exact hk2 v5 M_4 _ _ _ hP hD hS (lv_sub hl [1, 0] rfl) hf
  have h2 : ∀ (n : Nat), ∀ (y1 : Int32) (M : ST) (H : Heap) (locs : List Loc) (ls : Array Slot), va_P D vwCl (kX8 cs a (.ref (nn 0)) M) H → va_D A (kX8 cs a (.ref (nn 0)) M) → va_S A s.heap H locs → lv_has ls 2 [(0, .ref (a 0)), (1, .int y1)] → fX8_laysBy_2 n y1 M = some Mz → W p l e rmX8_laysBy s m [.ref (a 0)].toArray below meth c H locs 0 0 Q (F0 m 2 ls []) := by
    intro n
    induction n with
    | zero => intro y1 M H locs ls hP hD hS hl hf; exact no_el hf
    | succ n ih => intro y1 M H locs ls hP hD hS hl hf; exact hs2 _ ih y1 M _ _ _ hP hD hS hl hf
  have hl : lv_has ls0 2 [(0, .ref (a 0))] := hl0
  have hP := hP0
  have hD := hD0
  have hS := hS0
  unfold fX8_laysBy at hf
  refine lv_iconst (v := 0) hx hb dX8_laysBy_0 (by decide) ?_
  refine lv_istore_n (lv' := [(1, .int 0), (0, .ref (a 0))]) hx hb dX8_laysBy_1 rfl hl (by decide) rfl (fun ls hl => ?_)
  exact h2 400 0 M _ _ _ hP hD hS (lv_sub hl [1, 0] rfl) hf

def fX8_laysBack_2_s (k2 : Int32 → ST → Option ST) (y1 : Int32) (M : ST) : Option ST :=
  (if 74 ≤ y1 then some M else dc_ck y1 74 (dc_ck y1 271 (dc_lt (sti M 1 (Int32.toNatClampNeg y1) (M 14 (Int32.toNatClampNeg y1))) (fun M_4 => dc_lt (y1 + 1) (fun v5 => k2 v5 M_4)))))
def fX8_laysBack_2 : Nat → Int32 → ST → Option ST
  | 0 => fun _ _ => none
  | n + 1 => fX8_laysBack_2_s (fX8_laysBack_2 n)
def fX8_laysBack (M : ST) : Option ST :=
  fX8_laysBack_2 400 0 M
abbrev rmX8_laysBack : Room := { frames := 0, cells := 0, slots := 0, locals := 0 }
set_option maxRecDepth 100000 in
set_option maxHeartbeats 4000000 in
theorem tX8_laysBack (l : Launch) (D : va_G) (cs : Nat → ClassId) (a : Nat → Nat) (nn : Nat → Nat) (M : ST) (Mz : ST) (hf : fX8_laysBack M = some Mz) : CG l yX8_laysBack (wsm yX8_laysBack cX8_laysBack 2 none) rmX8_laysBack D cs [.ref (a 0)] none (kX8 cs a (.ref (nn 0)) M) (kX8 cs a (.ref (nn 0)) Mz) := by
  refine CG.intro (by decide) (Nat.le_of_ble_eq_true rfl) ?_
  intro p e s m below meth c A Q hx hb hml hown hu hK hZ hP0 hD0 hS0 hA hri hrz hrl hrv hra ls0 hl0
  have hs2 : ∀ (k2 : Int32 → ST → Option ST), (∀ (y1 : Int32) (M : ST) (H : Heap) (locs : List Loc) (ls : Array Slot), va_P D vwCl (kX8 cs a (.ref (nn 0)) M) H → va_D A (kX8 cs a (.ref (nn 0)) M) → va_S A s.heap H locs → lv_has ls 2 [(0, .ref (a 0)), (1, .int y1)] → k2 y1 M = some Mz → W p l e rmX8_laysBack s m [.ref (a 0)].toArray below meth c H locs 0 0 Q (F0 m 2 ls [])) → ∀ (y1 : Int32) (M : ST) (H : Heap) (locs : List Loc) (ls : Array Slot), va_P D vwCl (kX8 cs a (.ref (nn 0)) M) H → va_D A (kX8 cs a (.ref (nn 0)) M) → va_S A s.heap H locs → lv_has ls 2 [(0, .ref (a 0)), (1, .int y1)] → fX8_laysBack_2_s k2 y1 M = some Mz → W p l e rmX8_laysBack s m [.ref (a 0)].toArray below meth c H locs 0 0 Q (F0 m 2 ls []) := by
    intro k2 hk2 y1 M H locs ls hP hD hS hl hf
    unfold fX8_laysBack_2_s at hf
    refine lv_iload_n hx hb dX8_laysBack_2 rfl (lv_at hl 1 rfl) ?_
    refine lv_bipush (v := 74) hx hb dX8_laysBack_3 (by decide) ?_
    refine lv_icmp_ge (tgt := 26) hx hb dX8_laysBack_5 (by decide) (fun hc1 => ?_) (fun hc1 => ?_)
    · have hf := ip_el hc1 hf
      have he := Option.some.inj hf
      have e0 := he
      exact hrv _ _ rfl rfl dX8_laysBack_26 _ _ _ (by rw [e0]) hP hD hS
    · have hf := in_el hc1 hf
      refine lv_aload_n hx hb dX8_laysBack_8 rfl (lv_at hl 0 rfl) ?_
      refine va_get (D := D) (ci := 8) (v := .ref (a 1)) (C := RX8) (T := TX8) (N := 26) hx hb hu inX8 hown hK.1 hP 0 rfl rfl 0 (by decide) (hu _ q917) (fun _ h9 => h9) rfl dX8_laysBack_9 ?_
      refine lv_iload_n hx hb dX8_laysBack_12 rfl (lv_at hl 1 rfl) ?_
      refine lv_aload_n hx hb dX8_laysBack_13 rfl (lv_at hl 0 rfl) ?_
      refine va_get (D := D) (ci := 8) (v := .ref (a 14)) (C := RX8) (T := TX8) (N := 26) hx hb hu inX8 hown hK.1 hP 0 rfl rfl 13 (by decide) (hu _ q930) (fun _ h9 => h9) rfl dX8_laysBack_14 ?_
      refine lv_iload_n hx hb dX8_laysBack_17 rfl (lv_at hl 1 rfl) ?_
      obtain ⟨hi2, hf⟩ := ck_el hf
      refine va_iald hx hb hK.1 hP 8 0 rfl rfl hi2 dX8_laysBack_18 ?_
      obtain ⟨hi3, hf⟩ := ck_el hf
      obtain ⟨M_4, hM_4, hf⟩ := lt_el hf
      refine va_iast hx hb hK.1 hP hD hS 1 0 rfl rfl hi3 dX8_laysBack_19 (fun H locs hP hD hS => ?_)
      have hP : va_P D vwCl (kX8 cs a (.ref (nn 0)) M_4) H := by rw [hM_4]; exact hP
      have hD : va_D A (kX8 cs a (.ref (nn 0)) M_4) := by rw [hM_4]; exact hD
      obtain ⟨v5, hv5, hf⟩ := lt_el hf
      refine lv_iinc (v := v5) (lv' := [(1, .int v5), (0, .ref (a 0))]) hx hb dX8_laysBack_20 hl (k := 1) rfl (by rw [hv5]; rfl) (by decide) rfl (fun ls hl => ?_)
      refine lv_goto (tgt := 2) hx hb dX8_laysBack_23 (by decide) ?_
      exact hk2 v5 M_4 _ _ _ hP hD hS (lv_sub hl [1, 0] rfl) hf
  have h2 : ∀ (n : Nat), ∀ (y1 : Int32) (M : ST) (H : Heap) (locs : List Loc) (ls : Array Slot), va_P D vwCl (kX8 cs a (.ref (nn 0)) M) H → va_D A (kX8 cs a (.ref (nn 0)) M) → va_S A s.heap H locs → lv_has ls 2 [(0, .ref (a 0)), (1, .int y1)] → fX8_laysBack_2 n y1 M = some Mz → W p l e rmX8_laysBack s m [.ref (a 0)].toArray below meth c H locs 0 0 Q (F0 m 2 ls []) := by
    intro n
    induction n with
    | zero => intro y1 M H locs ls hP hD hS hl hf; exact no_el hf
    | succ n ih => intro y1 M H locs ls hP hD hS hl hf; exact hs2 _ ih y1 M _ _ _ hP hD hS hl hf
  have hl : lv_has ls0 2 [(0, .ref (a 0))] := hl0
  have hP := hP0
  have hD := hD0
  have hS := hS0
  unfold fX8_laysBack at hf
  refine lv_iconst (v := 0) hx hb dX8_laysBack_0 (by decide) ?_
  refine lv_istore_n (lv' := [(1, .int 0), (0, .ref (a 0))]) hx hb dX8_laysBack_1 rfl hl (by decide) rfl (fun ls hl => ?_)
  exact h2 400 0 M _ _ _ hP hD hS (lv_sub hl [1, 0] rfl) hf

def fX8_isChairs (x0 : Int32) : Option Int32 :=
  dc_b1 (fX8_isIn (x0.toInt64) 1 200) (fun r1 => dc_bl r1 (some r1))
abbrev rmX8_isChairs : Room := { frames := 1, cells := 0, slots := 0, locals := 25 }
set_option maxRecDepth 100000 in
set_option maxHeartbeats 4000000 in
theorem tX8_isChairs (l : Launch) (D : va_G) (cs : Nat → ClassId) (x0 : Int32) (r0 : Int32) (hf : fX8_isChairs x0 = some r0) : CG l yX8_isChairs (wsm yX8_isChairs cX8_isChairs 1 (some .boolean)) rmX8_isChairs D cs [.int x0] (some (.int r0)) ([] : va_W) ([] : va_W) := by
  refine CG.intro (by decide) (Nat.le_of_ble_eq_true rfl) ?_
  intro p e s m below meth c A Q hx hb hml hown hu hK hZ hP0 hD0 hS0 hA hri hrz hrl hrv hra ls0 hl0
  have hl : lv_has ls0 1 [(0, .int x0)] := hl0
  have hP := hP0
  have hD := hD0
  have hS := hS0
  unfold fX8_isChairs at hf
  refine lv_iload_n hx hb dX8_isChairs_0 rfl (lv_at hl 0 rfl) ?_
  refine lv_i2l (v := (x0.toInt64)) hx hb dX8_isChairs_1 rfl ?_
  refine lv_lconst (v := 1) hx hb dX8_isChairs_2 (by decide) ?_
  refine lv_ldc2 (v := 200) hx hb hown (hu _ q1174) dX8_isChairs_3 ?_
  obtain ⟨r1, hg2, hf⟩ := b1_el hf
  refine cc_S0 (st1 := [.int r1]) [.long (x0.toInt64), .long 1, .long 200] hx hb hml hown hu (tX8_isIn l D cs (x0.toInt64) 1 200 r1 hg2) q1004 q62 q1002 q1003 pdX8_isIn ⟨rfl, rfl, Nat.le_of_ble_eq_true rfl, Nat.le_of_ble_eq_true rfl⟩ hK hZ hP hD hS hA rfl hl.1 rfl (Nat.le_of_ble_eq_true rfl) dX8_isChairs_6 rfl (fun H locs hP hD hS => ?_)
  obtain ⟨hbl, hf⟩ := bl_el hf
  have he := Option.some.inj hf
  have e0 := he
  exact hrz _ _ _ .boolean rfl (bl_nar hbl) (congrArg (fun z => some (Value.int z)) e0.symm) dX8_isChairs_9 _ _ _ rfl hP hD hS

def fX8_asOne_11_s (M : ST) (k11 : Int32 → Int32 → Option Int32) (y1 : Int32) (y2 : Int32) : Option Int32 :=
  (if 4 ≤ y2 then some y1 else dc_ck (10 + y2) 271 (dc_lt (((11 * y1) + (M 1 (Int32.toNatClampNeg (10 + y2)))) + 1) (fun v4 => dc_lt (y2 + 1) (fun v5 => k11 v4 v5))))
def fX8_asOne_11 (M : ST) : Nat → Int32 → Int32 → Option Int32
  | 0 => fun _ _ => none
  | n + 1 => fX8_asOne_11_s M (fX8_asOne_11 M n)
def fX8_asOne (M : ST) : Option Int32 :=
  dc_lt ((M 1 1) + 1) (fun v1 => fX8_asOne_11 M 400 v1 0)
abbrev rmX8_asOne : Room := { frames := 0, cells := 0, slots := 0, locals := 0 }
set_option maxRecDepth 100000 in
set_option maxHeartbeats 4000000 in
theorem tX8_asOne (l : Launch) (D : va_G) (cs : Nat → ClassId) (a : Nat → Nat) (nn : Nat → Nat) (M : ST) (r0 : Int32) (hf : fX8_asOne M = some r0) : CG l yX8_asOne (wsm yX8_asOne cX8_asOne 3 (some .int)) rmX8_asOne D cs [.ref (a 0)] (some (.int r0)) (kX8 cs a (.ref (nn 0)) M) (kX8 cs a (.ref (nn 0)) M) := by
  refine CG.intro (by decide) (Nat.le_of_ble_eq_true rfl) ?_
  intro p e s m below meth c A Q hx hb hml hown hu hK hZ hP0 hD0 hS0 hA hri hrz hrl hrv hra ls0 hl0
  have hs11 : ∀ (k11 : Int32 → Int32 → Option Int32), (∀ (y1 : Int32) (y2 : Int32) (H : Heap) (locs : List Loc) (ls : Array Slot), va_P D vwCl (kX8 cs a (.ref (nn 0)) M) H → va_D A (kX8 cs a (.ref (nn 0)) M) → va_S A s.heap H locs → lv_has ls 3 [(0, .ref (a 0)), (1, .int y1), (2, .int y2)] → k11 y1 y2 = some r0 → W p l e rmX8_asOne s m [.ref (a 0)].toArray below meth c H locs 0 0 Q (F0 m 11 ls [])) → ∀ (y1 : Int32) (y2 : Int32) (H : Heap) (locs : List Loc) (ls : Array Slot), va_P D vwCl (kX8 cs a (.ref (nn 0)) M) H → va_D A (kX8 cs a (.ref (nn 0)) M) → va_S A s.heap H locs → lv_has ls 3 [(0, .ref (a 0)), (1, .int y1), (2, .int y2)] → fX8_asOne_11_s M k11 y1 y2 = some r0 → W p l e rmX8_asOne s m [.ref (a 0)].toArray below meth c H locs 0 0 Q (F0 m 11 ls []) := by
    intro k11 hk11 y1 y2 H locs ls hP hD hS hl hf
    unfold fX8_asOne_11_s at hf
    refine lv_iload_n hx hb dX8_asOne_11 rfl (lv_at hl 2 rfl) ?_
    refine lv_iconst (v := 4) hx hb dX8_asOne_12 (by decide) ?_
    refine lv_icmp_ge (tgt := 39) hx hb dX8_asOne_13 (by decide) (fun hc2 => ?_) (fun hc2 => ?_)
    · have hf := ip_el hc2 hf
      refine lv_iload_n hx hb dX8_asOne_39 rfl (lv_at hl 1 rfl) ?_
      have he := Option.some.inj hf
      have e0 := he
      exact hri _ _ _ rfl (congrArg (fun z => some (Value.int z)) e0.symm) dX8_asOne_40 _ _ _ rfl hP hD hS
    · have hf := in_el hc2 hf
      refine lv_bipush (v := 11) hx hb dX8_asOne_16 (by decide) ?_
      refine lv_iload_n hx hb dX8_asOne_18 rfl (lv_at hl 1 rfl) ?_
      refine lv_imul hx hb dX8_asOne_19 ?_
      refine lv_aload_n hx hb dX8_asOne_20 rfl (lv_at hl 0 rfl) ?_
      refine va_get (D := D) (ci := 8) (v := .ref (a 1)) (C := RX8) (T := TX8) (N := 26) hx hb hu inX8 hown hK.1 hP 0 rfl rfl 0 (by decide) (hu _ q917) (fun _ h9 => h9) rfl dX8_asOne_21 ?_
      refine lv_bipush (v := 10) hx hb dX8_asOne_24 (by decide) ?_
      refine lv_iload_n hx hb dX8_asOne_26 rfl (lv_at hl 2 rfl) ?_
      refine lv_iadd hx hb dX8_asOne_27 ?_
      obtain ⟨hi3, hf⟩ := ck_el hf
      refine va_iald hx hb hK.1 hP 1 0 rfl rfl hi3 dX8_asOne_28 ?_
      refine lv_iadd hx hb dX8_asOne_29 ?_
      refine lv_iconst (v := 1) hx hb dX8_asOne_30 (by decide) ?_
      refine lv_iadd hx hb dX8_asOne_31 ?_
      obtain ⟨v4, hv4, hf⟩ := lt_el hf
      refine lv_tope hv4 ?_
      refine lv_istore_n (lv' := [(1, .int v4), (0, .ref (a 0)), (2, .int y2)]) hx hb dX8_asOne_32 rfl hl (by decide) rfl (fun ls hl => ?_)
      obtain ⟨v5, hv5, hf⟩ := lt_el hf
      refine lv_iinc (v := v5) (lv' := [(2, .int v5), (1, .int v4), (0, .ref (a 0))]) hx hb dX8_asOne_33 hl (k := 2) rfl (by rw [hv5]; rfl) (by decide) rfl (fun ls hl => ?_)
      refine lv_goto (tgt := 11) hx hb dX8_asOne_36 (by decide) ?_
      exact hk11 v4 v5 _ _ _ hP hD hS (lv_sub hl [2, 1, 0] rfl) hf
  have h11 : ∀ (n : Nat), ∀ (y1 : Int32) (y2 : Int32) (H : Heap) (locs : List Loc) (ls : Array Slot), va_P D vwCl (kX8 cs a (.ref (nn 0)) M) H → va_D A (kX8 cs a (.ref (nn 0)) M) → va_S A s.heap H locs → lv_has ls 3 [(0, .ref (a 0)), (1, .int y1), (2, .int y2)] → fX8_asOne_11 M n y1 y2 = some r0 → W p l e rmX8_asOne s m [.ref (a 0)].toArray below meth c H locs 0 0 Q (F0 m 11 ls []) := by
    intro n
    induction n with
    | zero => intro y1 y2 H locs ls hP hD hS hl hf; exact no_el hf
    | succ n ih => intro y1 y2 H locs ls hP hD hS hl hf; exact hs11 _ ih y1 y2 _ _ _ hP hD hS hl hf
  have hl : lv_has ls0 3 [(0, .ref (a 0))] := hl0
  have hP := hP0
  have hD := hD0
  have hS := hS0
  unfold fX8_asOne at hf
  refine lv_aload_n hx hb dX8_asOne_0 rfl (lv_at hl 0 rfl) ?_
  refine va_get (D := D) (ci := 8) (v := .ref (a 1)) (C := RX8) (T := TX8) (N := 26) hx hb hu inX8 hown hK.1 hP 0 rfl rfl 0 (by decide) (hu _ q917) (fun _ h9 => h9) rfl dX8_asOne_1 ?_
  refine lv_iconst (v := 1) hx hb dX8_asOne_4 (by decide) ?_
  refine ia_lit hx hb hK hP 1 1 rfl (by decide) dX8_asOne_5 ?_
  refine lv_iconst (v := 1) hx hb dX8_asOne_6 (by decide) ?_
  refine lv_iadd hx hb dX8_asOne_7 ?_
  obtain ⟨v1, hv1, hf⟩ := lt_el hf
  refine lv_tope hv1 ?_
  refine lv_istore_n (lv' := [(1, .int v1), (0, .ref (a 0))]) hx hb dX8_asOne_8 rfl hl (by decide) rfl (fun ls hl => ?_)
  refine lv_iconst (v := 0) hx hb dX8_asOne_9 (by decide) ?_
  refine lv_istore_n (lv' := [(2, .int 0), (1, .int v1), (0, .ref (a 0))]) hx hb dX8_asOne_10 rfl hl (by decide) rfl (fun ls hl => ?_)
  exact h11 400 v1 0 _ _ _ hP hD hS (lv_sub hl [2, 1, 0] rfl) hf

def fX8_dies_35 (y1 : Int32) (M : ST) : Option ST :=
  (if (M 1 1) = y1 then dc_lt (sti M 1 1 (-1)) (fun M_8 => some M_8) else dc_lt (sti M 1 1 (M 1 1)) (fun M_7 => some M_7))
def fX8_dies (x1 : Int32) (M : ST) : Option ST :=
  dc_ck ((14 + (6 * x1)) + 5) 271 (dc_lt (sti M 1 (Int32.toNatClampNeg ((14 + (6 * x1)) + 5)) 1) (fun M_2 => dc_b1 (fX8_placeOf x1 M_2) (fun r3 => (if r3 < 0 then fX8_dies_35 x1 M_2 else dc_ck (10 + r3) 271 (dc_lt (sti M_2 1 (Int32.toNatClampNeg (10 + r3)) (-1)) (fun M_10 => fX8_dies_35 x1 M_10))))))
abbrev rmX8_dies : Room := { frames := 1, cells := 0, slots := 0, locals := 22 }
set_option maxRecDepth 100000 in
set_option maxHeartbeats 4000000 in
theorem tX8_dies (l : Launch) (D : va_G) (cs : Nat → ClassId) (a : Nat → Nat) (nn : Nat → Nat) (x1 : Int32) (M : ST) (Mz : ST) (hf : fX8_dies x1 M = some Mz) : CG l yX8_dies (wsm yX8_dies cX8_dies 3 none) rmX8_dies D cs [.ref (a 0), .int x1] none (kX8 cs a (.ref (nn 0)) M) (kX8 cs a (.ref (nn 0)) Mz) := by
  refine CG.intro (by decide) (Nat.le_of_ble_eq_true rfl) ?_
  intro p e s m below meth c A Q hx hb hml hown hu hK hZ hP0 hD0 hS0 hA hri hrz hrl hrv hra ls0 hl0
  have h35 : ∀ (y1 : Int32) (M : ST) (H : Heap) (locs : List Loc) (ls : Array Slot), va_P D vwCl (kX8 cs a (.ref (nn 0)) M) H → va_D A (kX8 cs a (.ref (nn 0)) M) → va_S A s.heap H locs → lv_has ls 3 [(0, .ref (a 0)), (1, .int y1)] → fX8_dies_35 y1 M = some Mz → W p l e rmX8_dies s m [.ref (a 0), .int x1].toArray below meth c H locs 0 0 Q (F0 m 35 ls []) := by
    intro y1 M H locs ls hP hD hS hl hf
    unfold fX8_dies_35 at hf
    refine lv_aload_n hx hb dX8_dies_35 rfl (lv_at hl 0 rfl) ?_
    refine va_get (D := D) (ci := 8) (v := .ref (a 1)) (C := RX8) (T := TX8) (N := 26) hx hb hu inX8 hown hK.1 hP 0 rfl rfl 0 (by decide) (hu _ q917) (fun _ h9 => h9) rfl dX8_dies_36 ?_
    refine lv_iconst (v := 1) hx hb dX8_dies_39 (by decide) ?_
    refine lv_aload_n hx hb dX8_dies_40 rfl (lv_at hl 0 rfl) ?_
    refine va_get (D := D) (ci := 8) (v := .ref (a 1)) (C := RX8) (T := TX8) (N := 26) hx hb hu inX8 hown hK.1 hP 0 rfl rfl 0 (by decide) (hu _ q917) (fun _ h9 => h9) rfl dX8_dies_41 ?_
    refine lv_iconst (v := 1) hx hb dX8_dies_44 (by decide) ?_
    refine ia_lit hx hb hK hP 1 1 rfl (by decide) dX8_dies_45 ?_
    refine lv_iload_n hx hb dX8_dies_46 rfl (lv_at hl 1 rfl) ?_
    refine lv_icmp_ne (tgt := 54) hx hb dX8_dies_47 (by decide) (fun hc6 => ?_) (fun hc6 => ?_)
    · have hf := in_el hc6 hf
      refine lv_aload_n hx hb dX8_dies_54 rfl (lv_at hl 0 rfl) ?_
      refine va_get (D := D) (ci := 8) (v := .ref (a 1)) (C := RX8) (T := TX8) (N := 26) hx hb hu inX8 hown hK.1 hP 0 rfl rfl 0 (by decide) (hu _ q917) (fun _ h9 => h9) rfl dX8_dies_55 ?_
      refine lv_iconst (v := 1) hx hb dX8_dies_58 (by decide) ?_
      refine ia_lit hx hb hK hP 1 1 rfl (by decide) dX8_dies_59 ?_
      obtain ⟨M_7, hM_7, hf⟩ := lt_el hf
      refine is_lit hx hb hK hP hD hS 1 1 rfl (by decide) dX8_dies_60 (fun H locs hP hD hS => ?_)
      have hP : va_P D vwCl (kX8 cs a (.ref (nn 0)) M_7) H := by rw [hM_7]; exact hP
      have hD : va_D A (kX8 cs a (.ref (nn 0)) M_7) := by rw [hM_7]; exact hD
      have he := Option.some.inj hf
      have e0 := he
      exact hrv _ _ rfl rfl dX8_dies_61 _ _ _ (by rw [e0]) hP hD hS
    · have hf := ip_el hc6 hf
      refine lv_iconst (v := (-1)) hx hb dX8_dies_50 (by decide) ?_
      refine lv_goto (tgt := 60) hx hb dX8_dies_51 (by decide) ?_
      obtain ⟨M_8, hM_8, hf⟩ := lt_el hf
      refine is_lit hx hb hK hP hD hS 1 1 rfl (by decide) dX8_dies_60 (fun H locs hP hD hS => ?_)
      have hP : va_P D vwCl (kX8 cs a (.ref (nn 0)) M_8) H := by rw [hM_8]; exact hP
      have hD : va_D A (kX8 cs a (.ref (nn 0)) M_8) := by rw [hM_8]; exact hD
      have he := Option.some.inj hf
      have e0 := he
      exact hrv _ _ rfl rfl dX8_dies_61 _ _ _ (by rw [e0]) hP hD hS
  have hl : lv_has ls0 3 [(0, .ref (a 0)), (1, .int x1)] := hl0
  have hP := hP0
  have hD := hD0
  have hS := hS0
  unfold fX8_dies at hf
  refine lv_aload_n hx hb dX8_dies_0 rfl (lv_at hl 0 rfl) ?_
  refine va_get (D := D) (ci := 8) (v := .ref (a 1)) (C := RX8) (T := TX8) (N := 26) hx hb hu inX8 hown hK.1 hP 0 rfl rfl 0 (by decide) (hu _ q917) (fun _ h9 => h9) rfl dX8_dies_1 ?_
  refine lv_bipush (v := 14) hx hb dX8_dies_4 (by decide) ?_
  refine lv_bipush (v := 6) hx hb dX8_dies_6 (by decide) ?_
  refine lv_iload_n hx hb dX8_dies_8 rfl (lv_at hl 1 rfl) ?_
  refine lv_imul hx hb dX8_dies_9 ?_
  refine lv_iadd hx hb dX8_dies_10 ?_
  refine lv_iconst (v := 5) hx hb dX8_dies_11 (by decide) ?_
  refine lv_iadd hx hb dX8_dies_12 ?_
  refine lv_iconst (v := 1) hx hb dX8_dies_13 (by decide) ?_
  obtain ⟨hi1, hf⟩ := ck_el hf
  obtain ⟨M_2, hM_2, hf⟩ := lt_el hf
  refine va_iast hx hb hK.1 hP hD hS 1 0 rfl rfl hi1 dX8_dies_14 (fun H locs hP hD hS => ?_)
  have hP : va_P D vwCl (kX8 cs a (.ref (nn 0)) M_2) H := by rw [hM_2]; exact hP
  have hD : va_D A (kX8 cs a (.ref (nn 0)) M_2) := by rw [hM_2]; exact hD
  refine lv_aload_n hx hb dX8_dies_15 rfl (lv_at hl 0 rfl) ?_
  refine lv_iload_n hx hb dX8_dies_16 rfl (lv_at hl 1 rfl) ?_
  obtain ⟨r3, hg4, hf⟩ := b1_el hf
  refine cc_V1 (w' := (kX8 cs a (.ref (nn 0)) M_2)) (st1 := [.int r3]) [.int x1] hx hb hml hown hu (tX8_placeOf l D cs a nn x1 M_2 r3 hg4) q1030 q62 q1027 q1029 q22 pdX8_placeOf ⟨rfl, rfl, Nat.le_of_ble_eq_true rfl, Nat.le_of_ble_eq_true rfl⟩ hK hZ hP hD hS hA rfl rfl rfl rfl hl.1 rfl (Nat.le_of_ble_eq_true rfl) dX8_dies_17 rfl (fun H locs hP hD hS => ?_)
  refine lv_istore_n (lv' := [(2, .int r3), (0, .ref (a 0)), (1, .int x1)]) hx hb dX8_dies_20 rfl hl (by decide) rfl (fun ls hl => ?_)
  refine lv_iload_n hx hb dX8_dies_21 rfl (lv_at hl 0 rfl) ?_
  refine lv_if_lt (tgt := 35) hx hb dX8_dies_22 (by decide) (fun hc5 => ?_) (fun hc5 => ?_)
  · have hf := ip_el hc5 hf
    exact h35 x1 M_2 _ _ _ hP hD hS (lv_sub hl [1, 2] rfl) hf
  · have hf := in_el hc5 hf
    refine lv_aload_n hx hb dX8_dies_25 rfl (lv_at hl 1 rfl) ?_
    refine va_get (D := D) (ci := 8) (v := .ref (a 1)) (C := RX8) (T := TX8) (N := 26) hx hb hu inX8 hown hK.1 hP 0 rfl rfl 0 (by decide) (hu _ q917) (fun _ h9 => h9) rfl dX8_dies_26 ?_
    refine lv_bipush (v := 10) hx hb dX8_dies_29 (by decide) ?_
    refine lv_iload_n hx hb dX8_dies_31 rfl (lv_at hl 0 rfl) ?_
    refine lv_iadd hx hb dX8_dies_32 ?_
    refine lv_iconst (v := (-1)) hx hb dX8_dies_33 (by decide) ?_
    obtain ⟨hi9, hf⟩ := ck_el hf
    obtain ⟨M_10, hM_10, hf⟩ := lt_el hf
    refine va_iast hx hb hK.1 hP hD hS 1 0 rfl rfl hi9 dX8_dies_34 (fun H locs hP hD hS => ?_)
    have hP : va_P D vwCl (kX8 cs a (.ref (nn 0)) M_10) H := by rw [hM_10]; exact hP
    have hD : va_D A (kX8 cs a (.ref (nn 0)) M_10) := by rw [hM_10]; exact hD
    exact h35 x1 M_10 _ _ _ hP hD hS (lv_sub hl [1, 2] rfl) hf

def fX8_vote_30_s (k6 : Int32 → Int32 → Int32 → ST → Option (Int32 × ST)) (k30 : Int32 → Int32 → Int32 → Int32 → Int32 → ST → Option (Int32 × ST)) (y1 : Int32) (y2 : Int32) (y3 : Int32) (y4 : Int32) (y5 : Int32) (M : ST) : Option (Int32 × ST) :=
  (if (M 1 0) ≤ y5 then (if y1 < 0 then dc_lt (y3 + 1) (fun v12 => k6 y3 y4 v12 M) else (if y4 ≤ y2 then dc_lt (y3 + 1) (fun v14 => k6 y1 y2 v14 M) else dc_lt (y3 + 1) (fun v15 => k6 y3 y4 v15 M))) else dc_b1 (fX8_isAlive y5 M) (fun r16 => (if r16 = 0 then dc_lt (y4 + 0) (fun v19 => dc_lt (y5 + 1) (fun v20 => k30 y1 y2 y3 v19 v20 M)) else dc_b1 (fX8_likesOf y5 y3 M) (fun r21 => dc_lt (y4 + r21) (fun v23 => dc_lt (y5 + 1) (fun v24 => k30 y1 y2 y3 v23 v24 M))))))
def fX8_vote_30 (k6 : Int32 → Int32 → Int32 → ST → Option (Int32 × ST)) : Nat → Int32 → Int32 → Int32 → Int32 → Int32 → ST → Option (Int32 × ST)
  | 0 => fun _ _ _ _ _ _ => none
  | n + 1 => fX8_vote_30_s k6 (fX8_vote_30 k6 n)
def fX8_vote_6_s (k6 : Int32 → Int32 → Int32 → ST → Option (Int32 × ST)) (y1 : Int32) (y2 : Int32) (y3 : Int32) (M : ST) : Option (Int32 × ST) :=
  (if (M 1 0) ≤ y3 then (if 0 ≤ y1 then some (y1, M) else dc_b2 (fX8_finds (-1000000004) M) (fun r3 M_4 => some (r3, M_4))) else dc_b1 (fX8_isAlive y3 M) (fun r6 => (if r6 = 0 then dc_lt (y3 + 1) (fun v9 => k6 y1 y2 v9 M) else fX8_vote_30 k6 400 y1 y2 y3 0 0 M)))
def fX8_vote_6 : Nat → Int32 → Int32 → Int32 → ST → Option (Int32 × ST)
  | 0 => fun _ _ _ _ => none
  | n + 1 => fX8_vote_6_s (fX8_vote_6 n)
def fX8_vote (M : ST) : Option (Int32 × ST) :=
  fX8_vote_6 400 (-1) 0 0 M
abbrev rmX8_vote : Room := { frames := 2, cells := 0, slots := 0, locals := 43 }
set_option maxRecDepth 100000 in
set_option maxHeartbeats 4000000 in
theorem tX8_vote (l : Launch) (D : va_G) (cs : Nat → ClassId) (a : Nat → Nat) (nn : Nat → Nat) (M : ST) (r0 : Int32) (Mz : ST) (hf : fX8_vote M = some (r0, Mz)) : CG l yX8_vote (wsm yX8_vote cX8_vote 6 (some .int)) rmX8_vote D cs [.ref (a 0)] (some (.int r0)) (kX8 cs a (.ref (nn 0)) M) (kX8 cs a (.ref (nn 0)) Mz) := by
  refine CG.intro (by decide) (Nat.le_of_ble_eq_true rfl) ?_
  intro p e s m below meth c A Q hx hb hml hown hu hK hZ hP0 hD0 hS0 hA hri hrz hrl hrv hra ls0 hl0
  have hs30 : ∀ (k6 : Int32 → Int32 → Int32 → ST → Option (Int32 × ST)), (∀ (y1 : Int32) (y2 : Int32) (y3 : Int32) (M : ST) (H : Heap) (locs : List Loc) (ls : Array Slot), va_P D vwCl (kX8 cs a (.ref (nn 0)) M) H → va_D A (kX8 cs a (.ref (nn 0)) M) → va_S A s.heap H locs → lv_has ls 6 [(0, .ref (a 0)), (1, .int y1), (2, .int y2), (3, .int y3)] → k6 y1 y2 y3 M = some (r0, Mz) → W p l e rmX8_vote s m [.ref (a 0)].toArray below meth c H locs 0 0 Q (F0 m 6 ls [])) → ∀ (k30 : Int32 → Int32 → Int32 → Int32 → Int32 → ST → Option (Int32 × ST)), (∀ (y1 : Int32) (y2 : Int32) (y3 : Int32) (y4 : Int32) (y5 : Int32) (M : ST) (H : Heap) (locs : List Loc) (ls : Array Slot), va_P D vwCl (kX8 cs a (.ref (nn 0)) M) H → va_D A (kX8 cs a (.ref (nn 0)) M) → va_S A s.heap H locs → lv_has ls 6 [(0, .ref (a 0)), (1, .int y1), (2, .int y2), (3, .int y3), (4, .int y4), (5, .int y5)] → k30 y1 y2 y3 y4 y5 M = some (r0, Mz) → W p l e rmX8_vote s m [.ref (a 0)].toArray below meth c H locs 0 0 Q (F0 m 30 ls [])) → ∀ (y1 : Int32) (y2 : Int32) (y3 : Int32) (y4 : Int32) (y5 : Int32) (M : ST) (H : Heap) (locs : List Loc) (ls : Array Slot), va_P D vwCl (kX8 cs a (.ref (nn 0)) M) H → va_D A (kX8 cs a (.ref (nn 0)) M) → va_S A s.heap H locs → lv_has ls 6 [(0, .ref (a 0)), (1, .int y1), (2, .int y2), (3, .int y3), (4, .int y4), (5, .int y5)] → fX8_vote_30_s k6 k30 y1 y2 y3 y4 y5 M = some (r0, Mz) → W p l e rmX8_vote s m [.ref (a 0)].toArray below meth c H locs 0 0 Q (F0 m 30 ls []) := by
    intro k6 hk6 k30 hk30 y1 y2 y3 y4 y5 M H locs ls hP hD hS hl hf
    unfold fX8_vote_30_s at hf
    refine lv_iload hx hb dX8_vote_30 (lv_at hl 5 rfl) ?_
    refine lv_aload_n hx hb dX8_vote_32 rfl (lv_at hl 0 rfl) ?_
    refine va_get (D := D) (ci := 8) (v := .ref (a 1)) (C := RX8) (T := TX8) (N := 26) hx hb hu inX8 hown hK.1 hP 0 rfl rfl 0 (by decide) (hu _ q917) (fun _ h9 => h9) rfl dX8_vote_33 ?_
    refine lv_iconst (v := 0) hx hb dX8_vote_36 (by decide) ?_
    refine ia_lit hx hb hK hP 1 0 rfl (by decide) dX8_vote_37 ?_
    refine lv_icmp_ge (tgt := 72) hx hb dX8_vote_38 (by decide) (fun hc10 => ?_) (fun hc10 => ?_)
    · have hf := ip_el hc10 hf
      refine lv_iload_n hx hb dX8_vote_72 rfl (lv_at hl 1 rfl) ?_
      refine lv_if_lt (tgt := 82) hx hb dX8_vote_73 (by decide) (fun hc11 => ?_) (fun hc11 => ?_)
      · have hf := ip_el hc11 hf
        refine lv_iload_n hx hb dX8_vote_82 rfl (lv_at hl 3 rfl) ?_
        refine lv_istore_n (lv' := [(1, .int y3), (0, .ref (a 0)), (2, .int y2), (3, .int y3), (4, .int y4), (5, .int y5)]) hx hb dX8_vote_83 rfl hl (by decide) rfl (fun ls hl => ?_)
        refine lv_iload hx hb dX8_vote_84 (lv_at hl 4 rfl) ?_
        refine lv_istore_n (lv' := [(2, .int y4), (1, .int y3), (0, .ref (a 0)), (3, .int y3), (4, .int y4), (5, .int y5)]) hx hb dX8_vote_86 rfl hl (by decide) rfl (fun ls hl => ?_)
        obtain ⟨v12, hv12, hf⟩ := lt_el hf
        refine lv_iinc (v := v12) (lv' := [(3, .int v12), (2, .int y4), (1, .int y3), (0, .ref (a 0)), (4, .int y4), (5, .int y5)]) hx hb dX8_vote_87 hl (k := 3) rfl (by rw [hv12]; rfl) (by decide) rfl (fun ls hl => ?_)
        refine lv_goto (tgt := 6) hx hb dX8_vote_90 (by decide) ?_
        exact hk6 y3 y4 v12 M _ _ _ hP hD hS (lv_sub hl [3, 2, 1, 0] rfl) hf
      · have hf := in_el hc11 hf
        refine lv_iload hx hb dX8_vote_76 (lv_at hl 4 rfl) ?_
        refine lv_iload_n hx hb dX8_vote_78 rfl (lv_at hl 2 rfl) ?_
        refine lv_icmp_le (tgt := 87) hx hb dX8_vote_79 (by decide) (fun hc13 => ?_) (fun hc13 => ?_)
        · have hf := ip_el hc13 hf
          obtain ⟨v14, hv14, hf⟩ := lt_el hf
          refine lv_iinc (v := v14) (lv' := [(3, .int v14), (0, .ref (a 0)), (1, .int y1), (2, .int y2), (4, .int y4), (5, .int y5)]) hx hb dX8_vote_87 hl (k := 3) rfl (by rw [hv14]; rfl) (by decide) rfl (fun ls hl => ?_)
          refine lv_goto (tgt := 6) hx hb dX8_vote_90 (by decide) ?_
          exact hk6 y1 y2 v14 M _ _ _ hP hD hS (lv_sub hl [1, 2, 3, 0] rfl) hf
        · have hf := in_el hc13 hf
          refine lv_iload_n hx hb dX8_vote_82 rfl (lv_at hl 3 rfl) ?_
          refine lv_istore_n (lv' := [(1, .int y3), (0, .ref (a 0)), (2, .int y2), (3, .int y3), (4, .int y4), (5, .int y5)]) hx hb dX8_vote_83 rfl hl (by decide) rfl (fun ls hl => ?_)
          refine lv_iload hx hb dX8_vote_84 (lv_at hl 4 rfl) ?_
          refine lv_istore_n (lv' := [(2, .int y4), (1, .int y3), (0, .ref (a 0)), (3, .int y3), (4, .int y4), (5, .int y5)]) hx hb dX8_vote_86 rfl hl (by decide) rfl (fun ls hl => ?_)
          obtain ⟨v15, hv15, hf⟩ := lt_el hf
          refine lv_iinc (v := v15) (lv' := [(3, .int v15), (2, .int y4), (1, .int y3), (0, .ref (a 0)), (4, .int y4), (5, .int y5)]) hx hb dX8_vote_87 hl (k := 3) rfl (by rw [hv15]; rfl) (by decide) rfl (fun ls hl => ?_)
          refine lv_goto (tgt := 6) hx hb dX8_vote_90 (by decide) ?_
          exact hk6 y3 y4 v15 M _ _ _ hP hD hS (lv_sub hl [3, 2, 1, 0] rfl) hf
    · have hf := in_el hc10 hf
      refine lv_iload hx hb dX8_vote_41 (lv_at hl 4 rfl) ?_
      refine lv_aload_n hx hb dX8_vote_43 rfl (lv_at hl 0 rfl) ?_
      refine lv_iload hx hb dX8_vote_44 (lv_at hl 5 rfl) ?_
      obtain ⟨r16, hg17, hf⟩ := b1_el hf
      refine cc_V1 (w' := (kX8 cs a (.ref (nn 0)) M)) (st1 := [.int r16, .int y4]) [.int y5] hx hb hml hown hu (tX8_isAlive l D cs a nn y5 M r16 hg17) q1042 q62 q1039 q1041 q25 pdX8_isAlive ⟨rfl, rfl, Nat.le_of_ble_eq_true rfl, Nat.le_of_ble_eq_true rfl⟩ hK hZ hP hD hS hA rfl rfl rfl rfl hl.1 rfl (Nat.le_of_ble_eq_true rfl) dX8_vote_46 rfl (fun H locs hP hD hS => ?_)
      refine lv_if_eq (tgt := 62) hx hb dX8_vote_49 (by decide) (fun hc18 => ?_) (fun hc18 => ?_)
      · have hf := ip_el hc18 hf
        refine lv_iconst (v := 0) hx hb dX8_vote_62 (by decide) ?_
        refine lv_iadd hx hb dX8_vote_63 ?_
        obtain ⟨v19, hv19, hf⟩ := lt_el hf
        refine lv_tope hv19 ?_
        refine lv_istore (lv' := [(4, .int v19), (0, .ref (a 0)), (1, .int y1), (2, .int y2), (3, .int y3), (5, .int y5)]) hx hb dX8_vote_64 hl (by decide) rfl (fun ls hl => ?_)
        obtain ⟨v20, hv20, hf⟩ := lt_el hf
        refine lv_iinc (v := v20) (lv' := [(5, .int v20), (4, .int v19), (0, .ref (a 0)), (1, .int y1), (2, .int y2), (3, .int y3)]) hx hb dX8_vote_66 hl (k := 5) rfl (by rw [hv20]; rfl) (by decide) rfl (fun ls hl => ?_)
        refine lv_goto (tgt := 30) hx hb dX8_vote_69 (by decide) ?_
        exact hk30 y1 y2 y3 v19 v20 M _ _ _ hP hD hS (lv_sub hl [2, 3, 4, 5, 1, 0] rfl) hf
      · have hf := in_el hc18 hf
        refine lv_aload_n hx hb dX8_vote_52 rfl (lv_at hl 0 rfl) ?_
        refine lv_iload hx hb dX8_vote_53 (lv_at hl 5 rfl) ?_
        refine lv_iload_n hx hb dX8_vote_55 rfl (lv_at hl 3 rfl) ?_
        obtain ⟨r21, hg22, hf⟩ := b1_el hf
        refine cc_V1 (w' := (kX8 cs a (.ref (nn 0)) M)) (st1 := [.int r21, .int y4]) [.int y5, .int y3] hx hb hml hown hu (tX8_likesOf l D cs a nn y5 y3 M r21 hg22) q1058 q62 q1055 q1057 q29 pdX8_likesOf ⟨rfl, rfl, Nat.le_of_ble_eq_true rfl, Nat.le_of_ble_eq_true rfl⟩ hK hZ hP hD hS hA rfl rfl rfl rfl hl.1 rfl (Nat.le_of_ble_eq_true rfl) dX8_vote_56 rfl (fun H locs hP hD hS => ?_)
        refine lv_goto (tgt := 63) hx hb dX8_vote_59 (by decide) ?_
        refine lv_iadd hx hb dX8_vote_63 ?_
        obtain ⟨v23, hv23, hf⟩ := lt_el hf
        refine lv_tope hv23 ?_
        refine lv_istore (lv' := [(4, .int v23), (0, .ref (a 0)), (1, .int y1), (2, .int y2), (3, .int y3), (5, .int y5)]) hx hb dX8_vote_64 hl (by decide) rfl (fun ls hl => ?_)
        obtain ⟨v24, hv24, hf⟩ := lt_el hf
        refine lv_iinc (v := v24) (lv' := [(5, .int v24), (4, .int v23), (0, .ref (a 0)), (1, .int y1), (2, .int y2), (3, .int y3)]) hx hb dX8_vote_66 hl (k := 5) rfl (by rw [hv24]; rfl) (by decide) rfl (fun ls hl => ?_)
        refine lv_goto (tgt := 30) hx hb dX8_vote_69 (by decide) ?_
        exact hk30 y1 y2 y3 v23 v24 M _ _ _ hP hD hS (lv_sub hl [2, 3, 4, 5, 1, 0] rfl) hf
  have h30 : ∀ (k6 : Int32 → Int32 → Int32 → ST → Option (Int32 × ST)), (∀ (y1 : Int32) (y2 : Int32) (y3 : Int32) (M : ST) (H : Heap) (locs : List Loc) (ls : Array Slot), va_P D vwCl (kX8 cs a (.ref (nn 0)) M) H → va_D A (kX8 cs a (.ref (nn 0)) M) → va_S A s.heap H locs → lv_has ls 6 [(0, .ref (a 0)), (1, .int y1), (2, .int y2), (3, .int y3)] → k6 y1 y2 y3 M = some (r0, Mz) → W p l e rmX8_vote s m [.ref (a 0)].toArray below meth c H locs 0 0 Q (F0 m 6 ls [])) → ∀ (n : Nat), ∀ (y1 : Int32) (y2 : Int32) (y3 : Int32) (y4 : Int32) (y5 : Int32) (M : ST) (H : Heap) (locs : List Loc) (ls : Array Slot), va_P D vwCl (kX8 cs a (.ref (nn 0)) M) H → va_D A (kX8 cs a (.ref (nn 0)) M) → va_S A s.heap H locs → lv_has ls 6 [(0, .ref (a 0)), (1, .int y1), (2, .int y2), (3, .int y3), (4, .int y4), (5, .int y5)] → fX8_vote_30 k6 n y1 y2 y3 y4 y5 M = some (r0, Mz) → W p l e rmX8_vote s m [.ref (a 0)].toArray below meth c H locs 0 0 Q (F0 m 30 ls []) := by
    intro k6 hk6 n
    induction n with
    | zero => intro y1 y2 y3 y4 y5 M H locs ls hP hD hS hl hf; exact no_el hf
    | succ n ih => intro y1 y2 y3 y4 y5 M H locs ls hP hD hS hl hf; exact hs30 k6 hk6 _ ih y1 y2 y3 y4 y5 M _ _ _ hP hD hS hl hf
  have hs6 : ∀ (k6 : Int32 → Int32 → Int32 → ST → Option (Int32 × ST)), (∀ (y1 : Int32) (y2 : Int32) (y3 : Int32) (M : ST) (H : Heap) (locs : List Loc) (ls : Array Slot), va_P D vwCl (kX8 cs a (.ref (nn 0)) M) H → va_D A (kX8 cs a (.ref (nn 0)) M) → va_S A s.heap H locs → lv_has ls 6 [(0, .ref (a 0)), (1, .int y1), (2, .int y2), (3, .int y3)] → k6 y1 y2 y3 M = some (r0, Mz) → W p l e rmX8_vote s m [.ref (a 0)].toArray below meth c H locs 0 0 Q (F0 m 6 ls [])) → ∀ (y1 : Int32) (y2 : Int32) (y3 : Int32) (M : ST) (H : Heap) (locs : List Loc) (ls : Array Slot), va_P D vwCl (kX8 cs a (.ref (nn 0)) M) H → va_D A (kX8 cs a (.ref (nn 0)) M) → va_S A s.heap H locs → lv_has ls 6 [(0, .ref (a 0)), (1, .int y1), (2, .int y2), (3, .int y3)] → fX8_vote_6_s k6 y1 y2 y3 M = some (r0, Mz) → W p l e rmX8_vote s m [.ref (a 0)].toArray below meth c H locs 0 0 Q (F0 m 6 ls []) := by
    intro k6 hk6 y1 y2 y3 M H locs ls hP hD hS hl hf
    unfold fX8_vote_6_s at hf
    refine lv_iload_n hx hb dX8_vote_6 rfl (lv_at hl 3 rfl) ?_
    refine lv_aload_n hx hb dX8_vote_7 rfl (lv_at hl 0 rfl) ?_
    refine va_get (D := D) (ci := 8) (v := .ref (a 1)) (C := RX8) (T := TX8) (N := 26) hx hb hu inX8 hown hK.1 hP 0 rfl rfl 0 (by decide) (hu _ q917) (fun _ h9 => h9) rfl dX8_vote_8 ?_
    refine lv_iconst (v := 0) hx hb dX8_vote_11 (by decide) ?_
    refine ia_lit hx hb hK hP 1 0 rfl (by decide) dX8_vote_12 ?_
    refine lv_icmp_ge (tgt := 93) hx hb dX8_vote_13 (by decide) (fun hc1 => ?_) (fun hc1 => ?_)
    · have hf := ip_el hc1 hf
      refine lv_iload_n hx hb dX8_vote_93 rfl (lv_at hl 1 rfl) ?_
      refine lv_if_ge (tgt := 106) hx hb dX8_vote_94 (by decide) (fun hc2 => ?_) (fun hc2 => ?_)
      · have hf := ip_el hc2 hf
        refine lv_iload_n hx hb dX8_vote_106 rfl (lv_at hl 1 rfl) ?_
        have he := Option.some.inj hf
        obtain ⟨e0, e1⟩ := Prod.mk.inj he
        exact hri _ _ _ rfl (congrArg (fun z => some (Value.int z)) e0.symm) dX8_vote_107 _ _ _ (by rw [e1]) hP hD hS
      · have hf := in_el hc2 hf
        refine lv_aload_n hx hb dX8_vote_97 rfl (lv_at hl 0 rfl) ?_
        refine lv_ldc (v := (-1000000004)) hx hb hown (hu _ q1195) dX8_vote_98 ?_
        obtain ⟨r3, M_4, hg5, hf⟩ := b2_el hf
        refine cc_V1 (w' := (kX8 cs a (.ref (nn 0)) M_4)) (st1 := [.int r3]) [.int (-1000000004)] hx hb hml hown hu (tX8_finds l D cs a nn (-1000000004) M r3 M_4 hg5) q1012 q62 q1009 q1011 q19 pdX8_finds ⟨rfl, rfl, Nat.le_of_ble_eq_true rfl, Nat.le_of_ble_eq_true rfl⟩ hK hZ hP hD hS hA rfl rfl rfl rfl hl.1 rfl (Nat.le_of_ble_eq_true rfl) dX8_vote_100 rfl (fun H locs hP hD hS => ?_)
        refine lv_goto (tgt := 107) hx hb dX8_vote_103 (by decide) ?_
        have he := Option.some.inj hf
        obtain ⟨e0, e1⟩ := Prod.mk.inj he
        exact hri _ _ _ rfl (congrArg (fun z => some (Value.int z)) e0.symm) dX8_vote_107 _ _ _ (by rw [e1]) hP hD hS
    · have hf := in_el hc1 hf
      refine lv_aload_n hx hb dX8_vote_16 rfl (lv_at hl 0 rfl) ?_
      refine lv_iload_n hx hb dX8_vote_17 rfl (lv_at hl 3 rfl) ?_
      obtain ⟨r6, hg7, hf⟩ := b1_el hf
      refine cc_V1 (w' := (kX8 cs a (.ref (nn 0)) M)) (st1 := [.int r6]) [.int y3] hx hb hml hown hu (tX8_isAlive l D cs a nn y3 M r6 hg7) q1042 q62 q1039 q1041 q25 pdX8_isAlive ⟨rfl, rfl, Nat.le_of_ble_eq_true rfl, Nat.le_of_ble_eq_true rfl⟩ hK hZ hP hD hS hA rfl rfl rfl rfl hl.1 rfl (Nat.le_of_ble_eq_true rfl) dX8_vote_18 rfl (fun H locs hP hD hS => ?_)
      refine lv_if_eq (tgt := 87) hx hb dX8_vote_21 (by decide) (fun hc8 => ?_) (fun hc8 => ?_)
      · have hf := ip_el hc8 hf
        obtain ⟨v9, hv9, hf⟩ := lt_el hf
        refine lv_iinc (v := v9) (lv' := [(3, .int v9), (0, .ref (a 0)), (1, .int y1), (2, .int y2)]) hx hb dX8_vote_87 hl (k := 3) rfl (by rw [hv9]; rfl) (by decide) rfl (fun ls hl => ?_)
        refine lv_goto (tgt := 6) hx hb dX8_vote_90 (by decide) ?_
        exact hk6 y1 y2 v9 M _ _ _ hP hD hS (lv_sub hl [1, 2, 3, 0] rfl) hf
      · have hf := in_el hc8 hf
        refine lv_iconst (v := 0) hx hb dX8_vote_24 (by decide) ?_
        refine lv_istore (lv' := [(4, .int 0), (0, .ref (a 0)), (1, .int y1), (2, .int y2), (3, .int y3)]) hx hb dX8_vote_25 hl (by decide) rfl (fun ls hl => ?_)
        refine lv_iconst (v := 0) hx hb dX8_vote_27 (by decide) ?_
        refine lv_istore (lv' := [(5, .int 0), (4, .int 0), (0, .ref (a 0)), (1, .int y1), (2, .int y2), (3, .int y3)]) hx hb dX8_vote_28 hl (by decide) rfl (fun ls hl => ?_)
        exact h30 k6 hk6 400 y1 y2 y3 0 0 M _ _ _ hP hD hS (lv_sub hl [2, 3, 4, 5, 1, 0] rfl) hf
  have h6 : ∀ (n : Nat), ∀ (y1 : Int32) (y2 : Int32) (y3 : Int32) (M : ST) (H : Heap) (locs : List Loc) (ls : Array Slot), va_P D vwCl (kX8 cs a (.ref (nn 0)) M) H → va_D A (kX8 cs a (.ref (nn 0)) M) → va_S A s.heap H locs → lv_has ls 6 [(0, .ref (a 0)), (1, .int y1), (2, .int y2), (3, .int y3)] → fX8_vote_6 n y1 y2 y3 M = some (r0, Mz) → W p l e rmX8_vote s m [.ref (a 0)].toArray below meth c H locs 0 0 Q (F0 m 6 ls []) := by
    intro n
    induction n with
    | zero => intro y1 y2 y3 M H locs ls hP hD hS hl hf; exact no_el hf
    | succ n ih => intro y1 y2 y3 M H locs ls hP hD hS hl hf; exact hs6 _ ih y1 y2 y3 M _ _ _ hP hD hS hl hf
  have hl : lv_has ls0 6 [(0, .ref (a 0))] := hl0
  have hP := hP0
  have hD := hD0
  have hS := hS0
  unfold fX8_vote at hf
  refine lv_iconst (v := (-1)) hx hb dX8_vote_0 (by decide) ?_
  refine lv_istore_n (lv' := [(1, .int (-1)), (0, .ref (a 0))]) hx hb dX8_vote_1 rfl hl (by decide) rfl (fun ls hl => ?_)
  refine lv_iconst (v := 0) hx hb dX8_vote_2 (by decide) ?_
  refine lv_istore_n (lv' := [(2, .int 0), (1, .int (-1)), (0, .ref (a 0))]) hx hb dX8_vote_3 rfl hl (by decide) rfl (fun ls hl => ?_)
  refine lv_iconst (v := 0) hx hb dX8_vote_4 (by decide) ?_
  refine lv_istore_n (lv' := [(3, .int 0), (2, .int 0), (1, .int (-1)), (0, .ref (a 0))]) hx hb dX8_vote_5 rfl hl (by decide) rfl (fun ls hl => ?_)
  exact h6 400 (-1) 0 0 M _ _ _ hP hD hS (lv_sub hl [3, 2, 1, 0] rfl) hf

def fX8_feed_41_s (k41 : Int32 → Int32 → ST → Option (Int32 × ST)) (y1 : Int32) (y3 : Int32) (M : ST) : Option (Int32 × ST) :=
  (if y3 < 0 then some ((M 0 5), M) else dc_ck (M 0 5) 80 (dc_lt (sti M 5 (Int32.toNatClampNeg (M 0 5)) ((y1 >>> ((8 * y3) &&& 31)) &&& 255)) (fun M_8 => dc_lt (sti M_8 0 5 ((M_8 0 5) + 1)) (fun M_9 => dc_lt (y3 + (-1)) (fun v10 => k41 y1 v10 M_9)))))
def fX8_feed_41 : Nat → Int32 → Int32 → ST → Option (Int32 × ST)
  | 0 => fun _ _ _ => none
  | n + 1 => fX8_feed_41_s (fX8_feed_41 n)
def fX8_feed (x1 : Int32) (x2 : Int32) (M : ST) : Option (Int32 × ST) :=
  dc_b1 (fX8_isIn (x2.toInt64) 1 4) (fun r1 => (if r1 = 0 then dc_b2 (fX8_finds (-1000000001) M) (fun r14 M_15 => some (r14, M_15)) else (if ((M 0 5) + x2) ≤ 80 then dc_lt (x2 - 1) (fun v5 => fX8_feed_41 400 x1 v5 M) else dc_b2 (fX8_finds (-1000000002) M) (fun r11 M_12 => some (r11, M_12)))))
abbrev rmX8_feed : Room := { frames := 1, cells := 0, slots := 0, locals := 25 }
set_option maxRecDepth 100000 in
set_option maxHeartbeats 4000000 in
theorem tX8_feed (l : Launch) (D : va_G) (cs : Nat → ClassId) (a : Nat → Nat) (nn : Nat → Nat) (x1 : Int32) (x2 : Int32) (M : ST) (r0 : Int32) (Mz : ST) (hf : fX8_feed x1 x2 M = some (r0, Mz)) : CG l yX8_feed (wsm yX8_feed cX8_feed 4 (some .int)) rmX8_feed D cs [.ref (a 0), .int x1, .int x2] (some (.int r0)) (kX8 cs a (.ref (nn 0)) M) (kX8 cs a (.ref (nn 0)) Mz) := by
  refine CG.intro (by decide) (Nat.le_of_ble_eq_true rfl) ?_
  intro p e s m below meth c A Q hx hb hml hown hu hK hZ hP0 hD0 hS0 hA hri hrz hrl hrv hra ls0 hl0
  have hs41 : ∀ (k41 : Int32 → Int32 → ST → Option (Int32 × ST)), (∀ (y1 : Int32) (y3 : Int32) (M : ST) (H : Heap) (locs : List Loc) (ls : Array Slot), va_P D vwCl (kX8 cs a (.ref (nn 0)) M) H → va_D A (kX8 cs a (.ref (nn 0)) M) → va_S A s.heap H locs → lv_has ls 4 [(0, .ref (a 0)), (1, .int y1), (3, .int y3)] → k41 y1 y3 M = some (r0, Mz) → W p l e rmX8_feed s m [.ref (a 0), .int x1, .int x2].toArray below meth c H locs 0 0 Q (F0 m 41 ls [])) → ∀ (y1 : Int32) (y3 : Int32) (M : ST) (H : Heap) (locs : List Loc) (ls : Array Slot), va_P D vwCl (kX8 cs a (.ref (nn 0)) M) H → va_D A (kX8 cs a (.ref (nn 0)) M) → va_S A s.heap H locs → lv_has ls 4 [(0, .ref (a 0)), (1, .int y1), (3, .int y3)] → fX8_feed_41_s k41 y1 y3 M = some (r0, Mz) → W p l e rmX8_feed s m [.ref (a 0), .int x1, .int x2].toArray below meth c H locs 0 0 Q (F0 m 41 ls []) := by
    intro k41 hk41 y1 y3 M H locs ls hP hD hS hl hf
    unfold fX8_feed_41_s at hf
    refine lv_iload_n hx hb dX8_feed_41 rfl (lv_at hl 2 rfl) ?_
    refine lv_if_lt (tgt := 80) hx hb dX8_feed_42 (by decide) (fun hc6 => ?_) (fun hc6 => ?_)
    · have hf := ip_el hc6 hf
      refine lv_aload_n hx hb dX8_feed_80 rfl (lv_at hl 0 rfl) ?_
      refine va_get (D := D) (ci := 8) (v := .int (M 0 5)) (C := RX8) (T := TX8) (N := 26) hx hb hu inX8 hown hK.1 hP 0 rfl rfl 5 (by decide) (hu _ q922) (fun _ h9 => h9) rfl dX8_feed_81 ?_
      have he := Option.some.inj hf
      obtain ⟨e0, e1⟩ := Prod.mk.inj he
      exact hri _ _ _ rfl (congrArg (fun z => some (Value.int z)) e0.symm) dX8_feed_84 _ _ _ (by rw [e1]) hP hD hS
    · have hf := in_el hc6 hf
      refine lv_aload_n hx hb dX8_feed_45 rfl (lv_at hl 0 rfl) ?_
      refine va_get (D := D) (ci := 8) (v := .ref (a 5)) (C := RX8) (T := TX8) (N := 26) hx hb hu inX8 hown hK.1 hP 0 rfl rfl 4 (by decide) (hu _ q921) (fun _ h9 => h9) rfl dX8_feed_46 ?_
      refine lv_aload_n hx hb dX8_feed_49 rfl (lv_at hl 0 rfl) ?_
      refine va_get (D := D) (ci := 8) (v := .int (M 0 5)) (C := RX8) (T := TX8) (N := 26) hx hb hu inX8 hown hK.1 hP 0 rfl rfl 5 (by decide) (hu _ q922) (fun _ h9 => h9) rfl dX8_feed_50 ?_
      refine lv_iload_n hx hb dX8_feed_53 rfl (lv_at hl 1 rfl) ?_
      refine lv_bipush (v := 8) hx hb dX8_feed_54 (by decide) ?_
      refine lv_iload_n hx hb dX8_feed_56 rfl (lv_at hl 2 rfl) ?_
      refine lv_imul hx hb dX8_feed_57 ?_
      refine lv_ishr hx hb dX8_feed_58 ?_
      refine lv_sipush (v := 255) hx hb dX8_feed_59 (by decide) ?_
      refine lv_iand hx hb dX8_feed_62 ?_
      obtain ⟨hi7, hf⟩ := ck_el hf
      obtain ⟨M_8, hM_8, hf⟩ := lt_el hf
      refine va_iast hx hb hK.1 hP hD hS 4 0 rfl rfl hi7 dX8_feed_63 (fun H locs hP hD hS => ?_)
      have hP : va_P D vwCl (kX8 cs a (.ref (nn 0)) M_8) H := by rw [hM_8]; exact hP
      have hD : va_D A (kX8 cs a (.ref (nn 0)) M_8) := by rw [hM_8]; exact hD
      refine lv_aload_n hx hb dX8_feed_64 rfl (lv_at hl 0 rfl) ?_
      refine lv_dup hx hb dX8_feed_65 rfl ?_
      refine va_get (D := D) (ci := 8) (v := .int (M_8 0 5)) (C := RX8) (T := TX8) (N := 26) hx hb hu inX8 hown hK.1 hP 0 rfl rfl 5 (by decide) (hu _ q922) (fun _ h9 => h9) rfl dX8_feed_66 ?_
      refine lv_iconst (v := 1) hx hb dX8_feed_69 (by decide) ?_
      refine lv_iadd hx hb dX8_feed_70 ?_
      obtain ⟨M_9, hM_9, hf⟩ := lt_el hf
      refine va_put (D := D) (ci := 8) (v := .int ((M_8 0 5) + 1)) (ty := .int) (C := RX8) (T := TX8) (N := 26) hx hb hu inX8 tyX8 tyX8_ok nmX8 hown hK.1 hP hD hS 0 rfl rfl 5 (by decide) (hu _ q922) (fun _ h9 => h9) rfl (by decide +kernel) rfl rfl (Nat.le_of_ble_eq_true rfl) dX8_feed_71 (fun H locs hP hD hS => ?_)
      have hP : va_P D vwCl (kX8 cs a (.ref (nn 0)) M_9) H := by rw [hM_9]; exact hP
      have hD : va_D A (kX8 cs a (.ref (nn 0)) M_9) := by rw [hM_9]; exact hD
      obtain ⟨v10, hv10, hf⟩ := lt_el hf
      refine lv_iinc (v := v10) (lv' := [(3, .int v10), (0, .ref (a 0)), (1, .int y1)]) hx hb dX8_feed_74 hl (k := 2) rfl (by rw [hv10]; rfl) (by decide) rfl (fun ls hl => ?_)
      refine lv_goto (tgt := 41) hx hb dX8_feed_77 (by decide) ?_
      exact hk41 y1 v10 M_9 _ _ _ hP hD hS (lv_sub hl [1, 2, 0] rfl) hf
  have h41 : ∀ (n : Nat), ∀ (y1 : Int32) (y3 : Int32) (M : ST) (H : Heap) (locs : List Loc) (ls : Array Slot), va_P D vwCl (kX8 cs a (.ref (nn 0)) M) H → va_D A (kX8 cs a (.ref (nn 0)) M) → va_S A s.heap H locs → lv_has ls 4 [(0, .ref (a 0)), (1, .int y1), (3, .int y3)] → fX8_feed_41 n y1 y3 M = some (r0, Mz) → W p l e rmX8_feed s m [.ref (a 0), .int x1, .int x2].toArray below meth c H locs 0 0 Q (F0 m 41 ls []) := by
    intro n
    induction n with
    | zero => intro y1 y3 M H locs ls hP hD hS hl hf; exact no_el hf
    | succ n ih => intro y1 y3 M H locs ls hP hD hS hl hf; exact hs41 _ ih y1 y3 M _ _ _ hP hD hS hl hf
  have hl : lv_has ls0 4 [(0, .ref (a 0)), (1, .int x1), (2, .int x2)] := hl0
  have hP := hP0
  have hD := hD0
  have hS := hS0
  unfold fX8_feed at hf
  refine lv_iload_n hx hb dX8_feed_0 rfl (lv_at hl 2 rfl) ?_
  refine lv_i2l (v := (x2.toInt64)) hx hb dX8_feed_1 rfl ?_
  refine lv_lconst (v := 1) hx hb dX8_feed_2 (by decide) ?_
  refine lv_ldc2 (v := 4) hx hb hown (hu _ q1117) dX8_feed_3 ?_
  obtain ⟨r1, hg2, hf⟩ := b1_el hf
  refine cc_S0 (st1 := [.int r1]) [.long (x2.toInt64), .long 1, .long 4] hx hb hml hown hu (tX8_isIn l D cs (x2.toInt64) 1 4 r1 hg2) q1004 q62 q1002 q1003 pdX8_isIn ⟨rfl, rfl, Nat.le_of_ble_eq_true rfl, Nat.le_of_ble_eq_true rfl⟩ hK hZ hP hD hS hA rfl hl.1 rfl (Nat.le_of_ble_eq_true rfl) dX8_feed_6 rfl (fun H locs hP hD hS => ?_)
  refine lv_if_ne (tgt := 19) hx hb dX8_feed_9 (by decide) (fun hc3 => ?_) (fun hc3 => ?_)
  · have hf := in_el hc3 hf
    refine lv_aload_n hx hb dX8_feed_19 rfl (lv_at hl 0 rfl) ?_
    refine va_get (D := D) (ci := 8) (v := .int (M 0 5)) (C := RX8) (T := TX8) (N := 26) hx hb hu inX8 hown hK.1 hP 0 rfl rfl 5 (by decide) (hu _ q922) (fun _ h9 => h9) rfl dX8_feed_20 ?_
    refine lv_iload_n hx hb dX8_feed_23 rfl (lv_at hl 2 rfl) ?_
    refine lv_iadd hx hb dX8_feed_24 ?_
    refine lv_bipush (v := 80) hx hb dX8_feed_25 (by decide) ?_
    refine lv_icmp_le (tgt := 37) hx hb dX8_feed_27 (by decide) (fun hc4 => ?_) (fun hc4 => ?_)
    · have hf := ip_el hc4 hf
      refine lv_iload_n hx hb dX8_feed_37 rfl (lv_at hl 2 rfl) ?_
      refine lv_iconst (v := 1) hx hb dX8_feed_38 (by decide) ?_
      refine lv_isub hx hb dX8_feed_39 ?_
      obtain ⟨v5, hv5, hf⟩ := lt_el hf
      refine lv_tope hv5 ?_
      refine lv_istore_n (lv' := [(3, .int v5), (0, .ref (a 0)), (1, .int x1), (2, .int x2)]) hx hb dX8_feed_40 rfl hl (by decide) rfl (fun ls hl => ?_)
      exact h41 400 x1 v5 M _ _ _ hP hD hS (lv_sub hl [1, 2, 0] rfl) hf
    · have hf := in_el hc4 hf
      refine lv_aload_n hx hb dX8_feed_30 rfl (lv_at hl 0 rfl) ?_
      refine lv_ldc (v := (-1000000002)) hx hb hown (hu _ q1013) dX8_feed_31 ?_
      obtain ⟨r11, M_12, hg13, hf⟩ := b2_el hf
      refine cc_V1 (w' := (kX8 cs a (.ref (nn 0)) M_12)) (st1 := [.int r11]) [.int (-1000000002)] hx hb hml hown hu (tX8_finds l D cs a nn (-1000000002) M r11 M_12 hg13) q1012 q62 q1009 q1011 q19 pdX8_finds ⟨rfl, rfl, Nat.le_of_ble_eq_true rfl, Nat.le_of_ble_eq_true rfl⟩ hK hZ hP hD hS hA rfl rfl rfl rfl hl.1 rfl (Nat.le_of_ble_eq_true rfl) dX8_feed_33 rfl (fun H locs hP hD hS => ?_)
      have he := Option.some.inj hf
      obtain ⟨e0, e1⟩ := Prod.mk.inj he
      exact hri _ _ _ rfl (congrArg (fun z => some (Value.int z)) e0.symm) dX8_feed_36 _ _ _ (by rw [e1]) hP hD hS
  · have hf := ip_el hc3 hf
    refine lv_aload_n hx hb dX8_feed_12 rfl (lv_at hl 0 rfl) ?_
    refine lv_ldc (v := (-1000000001)) hx hb hown (hu _ q1008) dX8_feed_13 ?_
    obtain ⟨r14, M_15, hg16, hf⟩ := b2_el hf
    refine cc_V1 (w' := (kX8 cs a (.ref (nn 0)) M_15)) (st1 := [.int r14]) [.int (-1000000001)] hx hb hml hown hu (tX8_finds l D cs a nn (-1000000001) M r14 M_15 hg16) q1012 q62 q1009 q1011 q19 pdX8_finds ⟨rfl, rfl, Nat.le_of_ble_eq_true rfl, Nat.le_of_ble_eq_true rfl⟩ hK hZ hP hD hS hA rfl rfl rfl rfl hl.1 rfl (Nat.le_of_ble_eq_true rfl) dX8_feed_15 rfl (fun H locs hP hD hS => ?_)
    have he := Option.some.inj hf
    obtain ⟨e0, e1⟩ := Prod.mk.inj he
    exact hri _ _ _ rfl (congrArg (fun z => some (Value.int z)) e0.symm) dX8_feed_18 _ _ _ (by rw [e1]) hP hD hS

def fX8_wipe (M : ST) : Option (Int32 × ST) :=
  dc_lt (M 0 5) (fun v1 => dc_lt (sti M 0 5 0) (fun M_2 => some (v1, M_2)))
abbrev rmX8_wipe : Room := { frames := 0, cells := 0, slots := 0, locals := 0 }
set_option maxRecDepth 100000 in
set_option maxHeartbeats 4000000 in
theorem tX8_wipe (l : Launch) (D : va_G) (cs : Nat → ClassId) (a : Nat → Nat) (nn : Nat → Nat) (M : ST) (r0 : Int32) (Mz : ST) (hf : fX8_wipe M = some (r0, Mz)) : CG l yX8_wipe (wsm yX8_wipe cX8_wipe 2 (some .int)) rmX8_wipe D cs [.ref (a 0)] (some (.int r0)) (kX8 cs a (.ref (nn 0)) M) (kX8 cs a (.ref (nn 0)) Mz) := by
  refine CG.intro (by decide) (Nat.le_of_ble_eq_true rfl) ?_
  intro p e s m below meth c A Q hx hb hml hown hu hK hZ hP0 hD0 hS0 hA hri hrz hrl hrv hra ls0 hl0
  have hl : lv_has ls0 2 [(0, .ref (a 0))] := hl0
  have hP := hP0
  have hD := hD0
  have hS := hS0
  unfold fX8_wipe at hf
  refine lv_aload_n hx hb dX8_wipe_0 rfl (lv_at hl 0 rfl) ?_
  refine va_get (D := D) (ci := 8) (v := .int (M 0 5)) (C := RX8) (T := TX8) (N := 26) hx hb hu inX8 hown hK.1 hP 0 rfl rfl 5 (by decide) (hu _ q922) (fun _ h9 => h9) rfl dX8_wipe_1 ?_
  obtain ⟨v1, hv1, hf⟩ := lt_el hf
  refine lv_tope hv1 ?_
  refine lv_istore_n (lv' := [(1, .int v1), (0, .ref (a 0))]) hx hb dX8_wipe_4 rfl hl (by decide) rfl (fun ls hl => ?_)
  refine lv_aload_n hx hb dX8_wipe_5 rfl (lv_at hl 1 rfl) ?_
  refine lv_iconst (v := 0) hx hb dX8_wipe_6 (by decide) ?_
  obtain ⟨M_2, hM_2, hf⟩ := lt_el hf
  refine va_put (D := D) (ci := 8) (v := .int 0) (ty := .int) (C := RX8) (T := TX8) (N := 26) hx hb hu inX8 tyX8 tyX8_ok nmX8 hown hK.1 hP hD hS 0 rfl rfl 5 (by decide) (hu _ q922) (fun _ h9 => h9) rfl (by decide +kernel) rfl rfl (Nat.le_of_ble_eq_true rfl) dX8_wipe_7 (fun H locs hP hD hS => ?_)
  have hP : va_P D vwCl (kX8 cs a (.ref (nn 0)) M_2) H := by rw [hM_2]; exact hP
  have hD : va_D A (kX8 cs a (.ref (nn 0)) M_2) := by rw [hM_2]; exact hD
  refine lv_iload_n hx hb dX8_wipe_10 rfl (lv_at hl 0 rfl) ?_
  have he := Option.some.inj hf
  obtain ⟨e0, e1⟩ := Prod.mk.inj he
  exact hri _ _ _ rfl (congrArg (fun z => some (Value.int z)) e0.symm) dX8_wipe_11 _ _ _ (by rw [e1]) hP hD hS

def fX8_nameOf (x0 : Int32) : Option Int32 :=
  (if x0 = 108 then some 0 else (if x0 = 97 then some 1 else (if x0 = 115 then some 2 else (if x0 = 119 then some 3 else (if x0 = 114 then some 4 else (if x0 = 110 then some 5 else some (-1)))))))
abbrev rmX8_nameOf : Room := { frames := 0, cells := 0, slots := 0, locals := 0 }
set_option maxRecDepth 100000 in
set_option maxHeartbeats 4000000 in
theorem tX8_nameOf (l : Launch) (D : va_G) (cs : Nat → ClassId) (x0 : Int32) (r0 : Int32) (hf : fX8_nameOf x0 = some r0) : CG l yX8_nameOf (wsm yX8_nameOf cX8_nameOf 1 (some .int)) rmX8_nameOf D cs [.int x0] (some (.int r0)) ([] : va_W) ([] : va_W) := by
  refine CG.intro (by decide) (Nat.le_of_ble_eq_true rfl) ?_
  intro p e s m below meth c A Q hx hb hml hown hu hK hZ hP0 hD0 hS0 hA hri hrz hrl hrv hra ls0 hl0
  have hl : lv_has ls0 1 [(0, .int x0)] := hl0
  have hP := hP0
  have hD := hD0
  have hS := hS0
  unfold fX8_nameOf at hf
  refine lv_iload_n hx hb dX8_nameOf_0 rfl (lv_at hl 0 rfl) ?_
  refine lv_bipush (v := 108) hx hb dX8_nameOf_1 (by decide) ?_
  refine lv_icmp_ne (tgt := 10) hx hb dX8_nameOf_3 (by decide) (fun hc1 => ?_) (fun hc1 => ?_)
  · have hf := in_el hc1 hf
    refine lv_iload_n hx hb dX8_nameOf_10 rfl (lv_at hl 0 rfl) ?_
    refine lv_bipush (v := 97) hx hb dX8_nameOf_11 (by decide) ?_
    refine lv_icmp_ne (tgt := 20) hx hb dX8_nameOf_13 (by decide) (fun hc2 => ?_) (fun hc2 => ?_)
    · have hf := in_el hc2 hf
      refine lv_iload_n hx hb dX8_nameOf_20 rfl (lv_at hl 0 rfl) ?_
      refine lv_bipush (v := 115) hx hb dX8_nameOf_21 (by decide) ?_
      refine lv_icmp_ne (tgt := 30) hx hb dX8_nameOf_23 (by decide) (fun hc3 => ?_) (fun hc3 => ?_)
      · have hf := in_el hc3 hf
        refine lv_iload_n hx hb dX8_nameOf_30 rfl (lv_at hl 0 rfl) ?_
        refine lv_bipush (v := 119) hx hb dX8_nameOf_31 (by decide) ?_
        refine lv_icmp_ne (tgt := 40) hx hb dX8_nameOf_33 (by decide) (fun hc4 => ?_) (fun hc4 => ?_)
        · have hf := in_el hc4 hf
          refine lv_iload_n hx hb dX8_nameOf_40 rfl (lv_at hl 0 rfl) ?_
          refine lv_bipush (v := 114) hx hb dX8_nameOf_41 (by decide) ?_
          refine lv_icmp_ne (tgt := 50) hx hb dX8_nameOf_43 (by decide) (fun hc5 => ?_) (fun hc5 => ?_)
          · have hf := in_el hc5 hf
            refine lv_iload_n hx hb dX8_nameOf_50 rfl (lv_at hl 0 rfl) ?_
            refine lv_bipush (v := 110) hx hb dX8_nameOf_51 (by decide) ?_
            refine lv_icmp_ne (tgt := 60) hx hb dX8_nameOf_53 (by decide) (fun hc6 => ?_) (fun hc6 => ?_)
            · have hf := in_el hc6 hf
              refine lv_iconst (v := (-1)) hx hb dX8_nameOf_60 (by decide) ?_
              have he := Option.some.inj hf
              have e0 := he
              exact hri _ _ _ rfl (congrArg (fun z => some (Value.int z)) e0.symm) dX8_nameOf_61 _ _ _ rfl hP hD hS
            · have hf := ip_el hc6 hf
              refine lv_iconst (v := 5) hx hb dX8_nameOf_56 (by decide) ?_
              refine lv_goto (tgt := 61) hx hb dX8_nameOf_57 (by decide) ?_
              have he := Option.some.inj hf
              have e0 := he
              exact hri _ _ _ rfl (congrArg (fun z => some (Value.int z)) e0.symm) dX8_nameOf_61 _ _ _ rfl hP hD hS
          · have hf := ip_el hc5 hf
            refine lv_iconst (v := 4) hx hb dX8_nameOf_46 (by decide) ?_
            refine lv_goto (tgt := 61) hx hb dX8_nameOf_47 (by decide) ?_
            have he := Option.some.inj hf
            have e0 := he
            exact hri _ _ _ rfl (congrArg (fun z => some (Value.int z)) e0.symm) dX8_nameOf_61 _ _ _ rfl hP hD hS
        · have hf := ip_el hc4 hf
          refine lv_iconst (v := 3) hx hb dX8_nameOf_36 (by decide) ?_
          refine lv_goto (tgt := 61) hx hb dX8_nameOf_37 (by decide) ?_
          have he := Option.some.inj hf
          have e0 := he
          exact hri _ _ _ rfl (congrArg (fun z => some (Value.int z)) e0.symm) dX8_nameOf_61 _ _ _ rfl hP hD hS
      · have hf := ip_el hc3 hf
        refine lv_iconst (v := 2) hx hb dX8_nameOf_26 (by decide) ?_
        refine lv_goto (tgt := 61) hx hb dX8_nameOf_27 (by decide) ?_
        have he := Option.some.inj hf
        have e0 := he
        exact hri _ _ _ rfl (congrArg (fun z => some (Value.int z)) e0.symm) dX8_nameOf_61 _ _ _ rfl hP hD hS
    · have hf := ip_el hc2 hf
      refine lv_iconst (v := 1) hx hb dX8_nameOf_16 (by decide) ?_
      refine lv_goto (tgt := 61) hx hb dX8_nameOf_17 (by decide) ?_
      have he := Option.some.inj hf
      have e0 := he
      exact hri _ _ _ rfl (congrArg (fun z => some (Value.int z)) e0.symm) dX8_nameOf_61 _ _ _ rfl hP hD hS
  · have hf := ip_el hc1 hf
    refine lv_iconst (v := 0) hx hb dX8_nameOf_6 (by decide) ?_
    refine lv_goto (tgt := 61) hx hb dX8_nameOf_7 (by decide) ?_
    have he := Option.some.inj hf
    have e0 := he
    exact hri _ _ _ rfl (congrArg (fun z => some (Value.int z)) e0.symm) dX8_nameOf_61 _ _ _ rfl hP hD hS

def fX8_binds (x0 : Int32) : Option Int32 :=
  (if x0 = 37 then some 5 else if x0 = 38 then some 2 else if x0 = 42 then some 5 else if x0 = 43 then some 4 else if x0 = 45 then some 4 else if x0 = 47 then some 5 else if x0 = 60 then some 3 else if x0 = 61 then some 3 else if x0 = 62 then some 3 else if x0 = 124 then some 1 else some 0)
abbrev rmX8_binds : Room := { frames := 0, cells := 0, slots := 0, locals := 0 }
set_option maxRecDepth 100000 in
set_option maxHeartbeats 4000000 in
theorem tX8_binds (l : Launch) (D : va_G) (cs : Nat → ClassId) (x0 : Int32) (r0 : Int32) (hf : fX8_binds x0 = some r0) : CG l yX8_binds (wsm yX8_binds cX8_binds 1 (some .int)) rmX8_binds D cs [.int x0] (some (.int r0)) ([] : va_W) ([] : va_W) := by
  refine CG.intro (by decide) (Nat.le_of_ble_eq_true rfl) ?_
  intro p e s m below meth c A Q hx hb hml hown hu hK hZ hP0 hD0 hS0 hA hri hrz hrl hrv hra ls0 hl0
  have hl : lv_has ls0 1 [(0, .int x0)] := hl0
  have hP := hP0
  have hD := hD0
  have hS := hS0
  unfold fX8_binds at hf
  refine lv_iload_n hx hb dX8_binds_0 rfl (lv_at hl 0 rfl) ?_
  by_cases hc1 : x0 = 37
  · have hf := ip_el hc1 hf
    refine lv_lookup (off := 99) (tgt := 100) hx hb dX8_binds_1 (by decide) (by rw [hc1]; decide) (by decide) ?_
    refine lv_iconst (v := 5) hx hb dX8_binds_100 (by decide) ?_
    have he := Option.some.inj hf
    have e0 := he
    exact hri _ _ _ rfl (congrArg (fun z => some (Value.int z)) e0.symm) dX8_binds_101 _ _ _ rfl hP hD hS
  have hf := in_el hc1 hf
  by_cases hc2 : x0 = 38
  · have hf := ip_el hc2 hf
    refine lv_lookup (off := 93) (tgt := 94) hx hb dX8_binds_1 (by decide) (by rw [hc2]; decide) (by decide) ?_
    refine lv_iconst (v := 2) hx hb dX8_binds_94 (by decide) ?_
    have he := Option.some.inj hf
    have e0 := he
    exact hri _ _ _ rfl (congrArg (fun z => some (Value.int z)) e0.symm) dX8_binds_95 _ _ _ rfl hP hD hS
  have hf := in_el hc2 hf
  by_cases hc3 : x0 = 42
  · have hf := ip_el hc3 hf
    refine lv_lookup (off := 99) (tgt := 100) hx hb dX8_binds_1 (by decide) (by rw [hc3]; decide) (by decide) ?_
    refine lv_iconst (v := 5) hx hb dX8_binds_100 (by decide) ?_
    have he := Option.some.inj hf
    have e0 := he
    exact hri _ _ _ rfl (congrArg (fun z => some (Value.int z)) e0.symm) dX8_binds_101 _ _ _ rfl hP hD hS
  have hf := in_el hc3 hf
  by_cases hc4 : x0 = 43
  · have hf := ip_el hc4 hf
    refine lv_lookup (off := 97) (tgt := 98) hx hb dX8_binds_1 (by decide) (by rw [hc4]; decide) (by decide) ?_
    refine lv_iconst (v := 4) hx hb dX8_binds_98 (by decide) ?_
    have he := Option.some.inj hf
    have e0 := he
    exact hri _ _ _ rfl (congrArg (fun z => some (Value.int z)) e0.symm) dX8_binds_99 _ _ _ rfl hP hD hS
  have hf := in_el hc4 hf
  by_cases hc5 : x0 = 45
  · have hf := ip_el hc5 hf
    refine lv_lookup (off := 97) (tgt := 98) hx hb dX8_binds_1 (by decide) (by rw [hc5]; decide) (by decide) ?_
    refine lv_iconst (v := 4) hx hb dX8_binds_98 (by decide) ?_
    have he := Option.some.inj hf
    have e0 := he
    exact hri _ _ _ rfl (congrArg (fun z => some (Value.int z)) e0.symm) dX8_binds_99 _ _ _ rfl hP hD hS
  have hf := in_el hc5 hf
  by_cases hc6 : x0 = 47
  · have hf := ip_el hc6 hf
    refine lv_lookup (off := 99) (tgt := 100) hx hb dX8_binds_1 (by decide) (by rw [hc6]; decide) (by decide) ?_
    refine lv_iconst (v := 5) hx hb dX8_binds_100 (by decide) ?_
    have he := Option.some.inj hf
    have e0 := he
    exact hri _ _ _ rfl (congrArg (fun z => some (Value.int z)) e0.symm) dX8_binds_101 _ _ _ rfl hP hD hS
  have hf := in_el hc6 hf
  by_cases hc7 : x0 = 60
  · have hf := ip_el hc7 hf
    refine lv_lookup (off := 95) (tgt := 96) hx hb dX8_binds_1 (by decide) (by rw [hc7]; decide) (by decide) ?_
    refine lv_iconst (v := 3) hx hb dX8_binds_96 (by decide) ?_
    have he := Option.some.inj hf
    have e0 := he
    exact hri _ _ _ rfl (congrArg (fun z => some (Value.int z)) e0.symm) dX8_binds_97 _ _ _ rfl hP hD hS
  have hf := in_el hc7 hf
  by_cases hc8 : x0 = 61
  · have hf := ip_el hc8 hf
    refine lv_lookup (off := 95) (tgt := 96) hx hb dX8_binds_1 (by decide) (by rw [hc8]; decide) (by decide) ?_
    refine lv_iconst (v := 3) hx hb dX8_binds_96 (by decide) ?_
    have he := Option.some.inj hf
    have e0 := he
    exact hri _ _ _ rfl (congrArg (fun z => some (Value.int z)) e0.symm) dX8_binds_97 _ _ _ rfl hP hD hS
  have hf := in_el hc8 hf
  by_cases hc9 : x0 = 62
  · have hf := ip_el hc9 hf
    refine lv_lookup (off := 95) (tgt := 96) hx hb dX8_binds_1 (by decide) (by rw [hc9]; decide) (by decide) ?_
    refine lv_iconst (v := 3) hx hb dX8_binds_96 (by decide) ?_
    have he := Option.some.inj hf
    have e0 := he
    exact hri _ _ _ rfl (congrArg (fun z => some (Value.int z)) e0.symm) dX8_binds_97 _ _ _ rfl hP hD hS
  have hf := in_el hc9 hf
  by_cases hc10 : x0 = 124
  · have hf := ip_el hc10 hf
    refine lv_lookup (off := 91) (tgt := 92) hx hb dX8_binds_1 (by decide) (by rw [hc10]; decide) (by decide) ?_
    refine lv_iconst (v := 1) hx hb dX8_binds_92 (by decide) ?_
    have he := Option.some.inj hf
    have e0 := he
    exact hri _ _ _ rfl (congrArg (fun z => some (Value.int z)) e0.symm) dX8_binds_93 _ _ _ rfl hP hD hS
  have hf := in_el hc10 hf
  refine lv_lookup (off := 101) (tgt := 102) hx hb dX8_binds_1 (by decide) (by rw [lv_osw hc1 (by decide)]; rw [lv_osw hc2 (by decide)]; rw [lv_osw hc3 (by decide)]; rw [lv_osw hc4 (by decide)]; rw [lv_osw hc5 (by decide)]; rw [lv_osw hc6 (by decide)]; rw [lv_osw hc7 (by decide)]; rw [lv_osw hc8 (by decide)]; rw [lv_osw hc9 (by decide)]; rw [lv_osw hc10 (by decide)]; rfl) (by decide) ?_
  refine lv_iconst (v := 0) hx hb dX8_binds_102 (by decide) ?_
  have he := Option.some.inj hf
  have e0 := he
  exact hri _ _ _ rfl (congrArg (fun z => some (Value.int z)) e0.symm) dX8_binds_103 _ _ _ rfl hP hD hS

def fX8_puts (x1 : Int32) (M : ST) : Option ST :=
  dc_ck (M 0 19) 80 (dc_lt (sti M 19 (Int32.toNatClampNeg (M 0 19)) x1) (fun M_2 => dc_lt (sti M_2 0 19 ((M_2 0 19) + 1)) (fun M_3 => some M_3)))
abbrev rmX8_puts : Room := { frames := 0, cells := 0, slots := 0, locals := 0 }
set_option maxRecDepth 100000 in
set_option maxHeartbeats 4000000 in
theorem tX8_puts (l : Launch) (D : va_G) (cs : Nat → ClassId) (a : Nat → Nat) (nn : Nat → Nat) (x1 : Int32) (M : ST) (Mz : ST) (hf : fX8_puts x1 M = some Mz) : CG l yX8_puts (wsm yX8_puts cX8_puts 2 none) rmX8_puts D cs [.ref (a 0), .int x1] none (kX8 cs a (.ref (nn 0)) M) (kX8 cs a (.ref (nn 0)) Mz) := by
  refine CG.intro (by decide) (Nat.le_of_ble_eq_true rfl) ?_
  intro p e s m below meth c A Q hx hb hml hown hu hK hZ hP0 hD0 hS0 hA hri hrz hrl hrv hra ls0 hl0
  have hl : lv_has ls0 2 [(0, .ref (a 0)), (1, .int x1)] := hl0
  have hP := hP0
  have hD := hD0
  have hS := hS0
  unfold fX8_puts at hf
  refine lv_aload_n hx hb dX8_puts_0 rfl (lv_at hl 0 rfl) ?_
  refine va_get (D := D) (ci := 8) (v := .ref (a 19)) (C := RX8) (T := TX8) (N := 26) hx hb hu inX8 hown hK.1 hP 0 rfl rfl 18 (by decide) (hu _ q935) (fun _ h9 => h9) rfl dX8_puts_1 ?_
  refine lv_aload_n hx hb dX8_puts_4 rfl (lv_at hl 0 rfl) ?_
  refine va_get (D := D) (ci := 8) (v := .int (M 0 19)) (C := RX8) (T := TX8) (N := 26) hx hb hu inX8 hown hK.1 hP 0 rfl rfl 19 (by decide) (hu _ q936) (fun _ h9 => h9) rfl dX8_puts_5 ?_
  refine lv_iload_n hx hb dX8_puts_8 rfl (lv_at hl 1 rfl) ?_
  obtain ⟨hi1, hf⟩ := ck_el hf
  obtain ⟨M_2, hM_2, hf⟩ := lt_el hf
  refine va_iast hx hb hK.1 hP hD hS 11 0 rfl rfl hi1 dX8_puts_9 (fun H locs hP hD hS => ?_)
  have hP : va_P D vwCl (kX8 cs a (.ref (nn 0)) M_2) H := by rw [hM_2]; exact hP
  have hD : va_D A (kX8 cs a (.ref (nn 0)) M_2) := by rw [hM_2]; exact hD
  refine lv_aload_n hx hb dX8_puts_10 rfl (lv_at hl 0 rfl) ?_
  refine lv_dup hx hb dX8_puts_11 rfl ?_
  refine va_get (D := D) (ci := 8) (v := .int (M_2 0 19)) (C := RX8) (T := TX8) (N := 26) hx hb hu inX8 hown hK.1 hP 0 rfl rfl 19 (by decide) (hu _ q936) (fun _ h9 => h9) rfl dX8_puts_12 ?_
  refine lv_iconst (v := 1) hx hb dX8_puts_15 (by decide) ?_
  refine lv_iadd hx hb dX8_puts_16 ?_
  obtain ⟨M_3, hM_3, hf⟩ := lt_el hf
  refine va_put (D := D) (ci := 8) (v := .int ((M_2 0 19) + 1)) (ty := .int) (C := RX8) (T := TX8) (N := 26) hx hb hu inX8 tyX8 tyX8_ok nmX8 hown hK.1 hP hD hS 0 rfl rfl 19 (by decide) (hu _ q936) (fun _ h9 => h9) rfl (by decide +kernel) rfl rfl (Nat.le_of_ble_eq_true rfl) dX8_puts_17 (fun H locs hP hD hS => ?_)
  have hP : va_P D vwCl (kX8 cs a (.ref (nn 0)) M_3) H := by rw [hM_3]; exact hP
  have hD : va_D A (kX8 cs a (.ref (nn 0)) M_3) := by rw [hM_3]; exact hD
  have he := Option.some.inj hf
  have e0 := he
  exact hrv _ _ rfl rfl dX8_puts_20 _ _ _ (by rw [e0]) hP hD hS

def fX8_waits (x1 : Int32) (M : ST) : Option ST :=
  dc_ck (M 0 21) 80 (dc_lt (sti M 21 (Int32.toNatClampNeg (M 0 21)) x1) (fun M_2 => dc_lt (sti M_2 0 21 ((M_2 0 21) + 1)) (fun M_3 => some M_3)))
abbrev rmX8_waits : Room := { frames := 0, cells := 0, slots := 0, locals := 0 }
set_option maxRecDepth 100000 in
set_option maxHeartbeats 4000000 in
theorem tX8_waits (l : Launch) (D : va_G) (cs : Nat → ClassId) (a : Nat → Nat) (nn : Nat → Nat) (x1 : Int32) (M : ST) (Mz : ST) (hf : fX8_waits x1 M = some Mz) : CG l yX8_waits (wsm yX8_waits cX8_waits 2 none) rmX8_waits D cs [.ref (a 0), .int x1] none (kX8 cs a (.ref (nn 0)) M) (kX8 cs a (.ref (nn 0)) Mz) := by
  refine CG.intro (by decide) (Nat.le_of_ble_eq_true rfl) ?_
  intro p e s m below meth c A Q hx hb hml hown hu hK hZ hP0 hD0 hS0 hA hri hrz hrl hrv hra ls0 hl0
  have hl : lv_has ls0 2 [(0, .ref (a 0)), (1, .int x1)] := hl0
  have hP := hP0
  have hD := hD0
  have hS := hS0
  unfold fX8_waits at hf
  refine lv_aload_n hx hb dX8_waits_0 rfl (lv_at hl 0 rfl) ?_
  refine va_get (D := D) (ci := 8) (v := .ref (a 21)) (C := RX8) (T := TX8) (N := 26) hx hb hu inX8 hown hK.1 hP 0 rfl rfl 20 (by decide) (hu _ q937) (fun _ h9 => h9) rfl dX8_waits_1 ?_
  refine lv_aload_n hx hb dX8_waits_4 rfl (lv_at hl 0 rfl) ?_
  refine va_get (D := D) (ci := 8) (v := .int (M 0 21)) (C := RX8) (T := TX8) (N := 26) hx hb hu inX8 hown hK.1 hP 0 rfl rfl 21 (by decide) (hu _ q938) (fun _ h9 => h9) rfl dX8_waits_5 ?_
  refine lv_iload_n hx hb dX8_waits_8 rfl (lv_at hl 1 rfl) ?_
  obtain ⟨hi1, hf⟩ := ck_el hf
  obtain ⟨M_2, hM_2, hf⟩ := lt_el hf
  refine va_iast hx hb hK.1 hP hD hS 12 0 rfl rfl hi1 dX8_waits_9 (fun H locs hP hD hS => ?_)
  have hP : va_P D vwCl (kX8 cs a (.ref (nn 0)) M_2) H := by rw [hM_2]; exact hP
  have hD : va_D A (kX8 cs a (.ref (nn 0)) M_2) := by rw [hM_2]; exact hD
  refine lv_aload_n hx hb dX8_waits_10 rfl (lv_at hl 0 rfl) ?_
  refine lv_dup hx hb dX8_waits_11 rfl ?_
  refine va_get (D := D) (ci := 8) (v := .int (M_2 0 21)) (C := RX8) (T := TX8) (N := 26) hx hb hu inX8 hown hK.1 hP 0 rfl rfl 21 (by decide) (hu _ q938) (fun _ h9 => h9) rfl dX8_waits_12 ?_
  refine lv_iconst (v := 1) hx hb dX8_waits_15 (by decide) ?_
  refine lv_iadd hx hb dX8_waits_16 ?_
  obtain ⟨M_3, hM_3, hf⟩ := lt_el hf
  refine va_put (D := D) (ci := 8) (v := .int ((M_2 0 21) + 1)) (ty := .int) (C := RX8) (T := TX8) (N := 26) hx hb hu inX8 tyX8 tyX8_ok nmX8 hown hK.1 hP hD hS 0 rfl rfl 21 (by decide) (hu _ q938) (fun _ h9 => h9) rfl (by decide +kernel) rfl rfl (Nat.le_of_ble_eq_true rfl) dX8_waits_17 (fun H locs hP hD hS => ?_)
  have hP : va_P D vwCl (kX8 cs a (.ref (nn 0)) M_3) H := by rw [hM_3]; exact hP
  have hD : va_D A (kX8 cs a (.ref (nn 0)) M_3) := by rw [hM_3]; exact hD
  have he := Option.some.inj hf
  have e0 := he
  exact hrv _ _ rfl rfl dX8_waits_20 _ _ _ (by rw [e0]) hP hD hS

def fX8_doneAhead_39 (k0 : ST → Option ST) (M : ST) : Option ST :=
  dc_lt (sti M 0 21 ((M 0 21) - 1)) (fun M_4 => dc_ck (M_4 0 21) 80 (dc_b1 (fX8_puts (M_4 21 (Int32.toNatClampNeg (M_4 0 21))) M_4) (fun M_6 => dc_lt (sti M_6 0 24 ((M_6 0 24) - 1)) (fun M_8 => k0 M_8))))
def fX8_doneAhead_0_s (k0 : ST → Option ST) (M : ST) : Option ST :=
  (if (M 0 21) ≤ 0 then some M else dc_ck ((M 0 21) - 1) 80 ((if (M 21 (Int32.toNatClampNeg ((M 0 21) - 1))) = (-20) then fX8_doneAhead_39 k0 M else dc_ck ((M 0 21) - 1) 80 ((if (M 21 (Int32.toNatClampNeg ((M 0 21) - 1))) = (-21) then fX8_doneAhead_39 k0 M else some M)))))
def fX8_doneAhead_0 : Nat → ST → Option ST
  | 0 => fun _ => none
  | n + 1 => fX8_doneAhead_0_s (fX8_doneAhead_0 n)
def fX8_doneAhead (M : ST) : Option ST :=
  fX8_doneAhead_0 400 M
abbrev rmX8_doneAhead : Room := { frames := 1, cells := 0, slots := 0, locals := 21 }
set_option maxRecDepth 100000 in
set_option maxHeartbeats 4000000 in
theorem tX8_doneAhead (l : Launch) (D : va_G) (cs : Nat → ClassId) (a : Nat → Nat) (nn : Nat → Nat) (M : ST) (Mz : ST) (hf : fX8_doneAhead M = some Mz) : CG l yX8_doneAhead (wsm yX8_doneAhead cX8_doneAhead 1 none) rmX8_doneAhead D cs [.ref (a 0)] none (kX8 cs a (.ref (nn 0)) M) (kX8 cs a (.ref (nn 0)) Mz) := by
  refine CG.intro (by decide) (Nat.le_of_ble_eq_true rfl) ?_
  intro p e s m below meth c A Q hx hb hml hown hu hK hZ hP0 hD0 hS0 hA hri hrz hrl hrv hra ls0 hl0
  have h39 : ∀ (k0 : ST → Option ST), (∀ (M : ST) (H : Heap) (locs : List Loc) (ls : Array Slot), va_P D vwCl (kX8 cs a (.ref (nn 0)) M) H → va_D A (kX8 cs a (.ref (nn 0)) M) → va_S A s.heap H locs → lv_has ls 1 [(0, .ref (a 0))] → k0 M = some Mz → W p l e rmX8_doneAhead s m [.ref (a 0)].toArray below meth c H locs 0 0 Q (F0 m 0 ls [])) → ∀ (M : ST) (H : Heap) (locs : List Loc) (ls : Array Slot), va_P D vwCl (kX8 cs a (.ref (nn 0)) M) H → va_D A (kX8 cs a (.ref (nn 0)) M) → va_S A s.heap H locs → lv_has ls 1 [(0, .ref (a 0))] → fX8_doneAhead_39 k0 M = some Mz → W p l e rmX8_doneAhead s m [.ref (a 0)].toArray below meth c H locs 0 0 Q (F0 m 39 ls []) := by
    intro k0 hk0 M H locs ls hP hD hS hl hf
    unfold fX8_doneAhead_39 at hf
    refine lv_aload_n hx hb dX8_doneAhead_39 rfl (lv_at hl 0 rfl) ?_
    refine lv_dup hx hb dX8_doneAhead_40 rfl ?_
    refine va_get (D := D) (ci := 8) (v := .int (M 0 21)) (C := RX8) (T := TX8) (N := 26) hx hb hu inX8 hown hK.1 hP 0 rfl rfl 21 (by decide) (hu _ q938) (fun _ h9 => h9) rfl dX8_doneAhead_41 ?_
    refine lv_iconst (v := 1) hx hb dX8_doneAhead_44 (by decide) ?_
    refine lv_isub hx hb dX8_doneAhead_45 ?_
    obtain ⟨M_4, hM_4, hf⟩ := lt_el hf
    refine va_put (D := D) (ci := 8) (v := .int ((M 0 21) - 1)) (ty := .int) (C := RX8) (T := TX8) (N := 26) hx hb hu inX8 tyX8 tyX8_ok nmX8 hown hK.1 hP hD hS 0 rfl rfl 21 (by decide) (hu _ q938) (fun _ h9 => h9) rfl (by decide +kernel) rfl rfl (Nat.le_of_ble_eq_true rfl) dX8_doneAhead_46 (fun H locs hP hD hS => ?_)
    have hP : va_P D vwCl (kX8 cs a (.ref (nn 0)) M_4) H := by rw [hM_4]; exact hP
    have hD : va_D A (kX8 cs a (.ref (nn 0)) M_4) := by rw [hM_4]; exact hD
    refine lv_aload_n hx hb dX8_doneAhead_49 rfl (lv_at hl 0 rfl) ?_
    refine lv_aload_n hx hb dX8_doneAhead_50 rfl (lv_at hl 0 rfl) ?_
    refine va_get (D := D) (ci := 8) (v := .ref (a 21)) (C := RX8) (T := TX8) (N := 26) hx hb hu inX8 hown hK.1 hP 0 rfl rfl 20 (by decide) (hu _ q937) (fun _ h9 => h9) rfl dX8_doneAhead_51 ?_
    refine lv_aload_n hx hb dX8_doneAhead_54 rfl (lv_at hl 0 rfl) ?_
    refine va_get (D := D) (ci := 8) (v := .int (M_4 0 21)) (C := RX8) (T := TX8) (N := 26) hx hb hu inX8 hown hK.1 hP 0 rfl rfl 21 (by decide) (hu _ q938) (fun _ h9 => h9) rfl dX8_doneAhead_55 ?_
    obtain ⟨hi5, hf⟩ := ck_el hf
    refine va_iald hx hb hK.1 hP 12 0 rfl rfl hi5 dX8_doneAhead_58 ?_
    obtain ⟨M_6, hg7, hf⟩ := b1_el hf
    refine cc_V1 (w' := (kX8 cs a (.ref (nn 0)) M_6)) (st1 := []) [.int (M_4 21 (Int32.toNatClampNeg (M_4 0 21)))] hx hb hml hown hu (tX8_puts l D cs a nn (M_4 21 (Int32.toNatClampNeg (M_4 0 21))) M_4 M_6 hg7) q1262 q62 q1259 q1261 q47 pdX8_puts ⟨rfl, rfl, Nat.le_of_ble_eq_true rfl, Nat.le_of_ble_eq_true rfl⟩ hK hZ hP hD hS hA rfl rfl rfl rfl hl.1 rfl (Nat.le_of_ble_eq_true rfl) dX8_doneAhead_59 rfl (fun H locs hP hD hS => ?_)
    refine lv_aload_n hx hb dX8_doneAhead_62 rfl (lv_at hl 0 rfl) ?_
    refine lv_dup hx hb dX8_doneAhead_63 rfl ?_
    refine va_get (D := D) (ci := 8) (v := .int (M_6 0 24)) (C := RX8) (T := TX8) (N := 26) hx hb hu inX8 hown hK.1 hP 0 rfl rfl 24 (by decide) (hu _ q941) (fun _ h9 => h9) rfl dX8_doneAhead_64 ?_
    refine lv_iconst (v := 1) hx hb dX8_doneAhead_67 (by decide) ?_
    refine lv_isub hx hb dX8_doneAhead_68 ?_
    obtain ⟨M_8, hM_8, hf⟩ := lt_el hf
    refine va_put (D := D) (ci := 8) (v := .int ((M_6 0 24) - 1)) (ty := .int) (C := RX8) (T := TX8) (N := 26) hx hb hu inX8 tyX8 tyX8_ok nmX8 hown hK.1 hP hD hS 0 rfl rfl 24 (by decide) (hu _ q941) (fun _ h9 => h9) rfl (by decide +kernel) rfl rfl (Nat.le_of_ble_eq_true rfl) dX8_doneAhead_69 (fun H locs hP hD hS => ?_)
    have hP : va_P D vwCl (kX8 cs a (.ref (nn 0)) M_8) H := by rw [hM_8]; exact hP
    have hD : va_D A (kX8 cs a (.ref (nn 0)) M_8) := by rw [hM_8]; exact hD
    refine lv_goto (tgt := 0) hx hb dX8_doneAhead_72 (by decide) ?_
    exact hk0 M_8 _ _ _ hP hD hS (lv_sub hl [0] rfl) hf
  have hs0 : ∀ (k0 : ST → Option ST), (∀ (M : ST) (H : Heap) (locs : List Loc) (ls : Array Slot), va_P D vwCl (kX8 cs a (.ref (nn 0)) M) H → va_D A (kX8 cs a (.ref (nn 0)) M) → va_S A s.heap H locs → lv_has ls 1 [(0, .ref (a 0))] → k0 M = some Mz → W p l e rmX8_doneAhead s m [.ref (a 0)].toArray below meth c H locs 0 0 Q (F0 m 0 ls [])) → ∀ (M : ST) (H : Heap) (locs : List Loc) (ls : Array Slot), va_P D vwCl (kX8 cs a (.ref (nn 0)) M) H → va_D A (kX8 cs a (.ref (nn 0)) M) → va_S A s.heap H locs → lv_has ls 1 [(0, .ref (a 0))] → fX8_doneAhead_0_s k0 M = some Mz → W p l e rmX8_doneAhead s m [.ref (a 0)].toArray below meth c H locs 0 0 Q (F0 m 0 ls []) := by
    intro k0 hk0 M H locs ls hP hD hS hl hf
    unfold fX8_doneAhead_0_s at hf
    refine lv_aload_n hx hb dX8_doneAhead_0 rfl (lv_at hl 0 rfl) ?_
    refine va_get (D := D) (ci := 8) (v := .int (M 0 21)) (C := RX8) (T := TX8) (N := 26) hx hb hu inX8 hown hK.1 hP 0 rfl rfl 21 (by decide) (hu _ q938) (fun _ h9 => h9) rfl dX8_doneAhead_1 ?_
    refine lv_if_le (tgt := 75) hx hb dX8_doneAhead_4 (by decide) (fun hc1 => ?_) (fun hc1 => ?_)
    · have hf := ip_el hc1 hf
      have he := Option.some.inj hf
      have e0 := he
      exact hrv _ _ rfl rfl dX8_doneAhead_75 _ _ _ (by rw [e0]) hP hD hS
    · have hf := in_el hc1 hf
      refine lv_aload_n hx hb dX8_doneAhead_7 rfl (lv_at hl 0 rfl) ?_
      refine va_get (D := D) (ci := 8) (v := .ref (a 21)) (C := RX8) (T := TX8) (N := 26) hx hb hu inX8 hown hK.1 hP 0 rfl rfl 20 (by decide) (hu _ q937) (fun _ h9 => h9) rfl dX8_doneAhead_8 ?_
      refine lv_aload_n hx hb dX8_doneAhead_11 rfl (lv_at hl 0 rfl) ?_
      refine va_get (D := D) (ci := 8) (v := .int (M 0 21)) (C := RX8) (T := TX8) (N := 26) hx hb hu inX8 hown hK.1 hP 0 rfl rfl 21 (by decide) (hu _ q938) (fun _ h9 => h9) rfl dX8_doneAhead_12 ?_
      refine lv_iconst (v := 1) hx hb dX8_doneAhead_15 (by decide) ?_
      refine lv_isub hx hb dX8_doneAhead_16 ?_
      obtain ⟨hi2, hf⟩ := ck_el hf
      refine va_iald hx hb hK.1 hP 12 0 rfl rfl hi2 dX8_doneAhead_17 ?_
      refine lv_bipush (v := (-20)) hx hb dX8_doneAhead_18 (by decide) ?_
      refine lv_icmp_eq (tgt := 39) hx hb dX8_doneAhead_20 (by decide) (fun hc3 => ?_) (fun hc3 => ?_)
      · have hf := ip_el hc3 hf
        exact h39 k0 hk0 M _ _ _ hP hD hS (lv_sub hl [0] rfl) hf
      · have hf := in_el hc3 hf
        refine lv_aload_n hx hb dX8_doneAhead_23 rfl (lv_at hl 0 rfl) ?_
        refine va_get (D := D) (ci := 8) (v := .ref (a 21)) (C := RX8) (T := TX8) (N := 26) hx hb hu inX8 hown hK.1 hP 0 rfl rfl 20 (by decide) (hu _ q937) (fun _ h9 => h9) rfl dX8_doneAhead_24 ?_
        refine lv_aload_n hx hb dX8_doneAhead_27 rfl (lv_at hl 0 rfl) ?_
        refine va_get (D := D) (ci := 8) (v := .int (M 0 21)) (C := RX8) (T := TX8) (N := 26) hx hb hu inX8 hown hK.1 hP 0 rfl rfl 21 (by decide) (hu _ q938) (fun _ h9 => h9) rfl dX8_doneAhead_28 ?_
        refine lv_iconst (v := 1) hx hb dX8_doneAhead_31 (by decide) ?_
        refine lv_isub hx hb dX8_doneAhead_32 ?_
        obtain ⟨hi9, hf⟩ := ck_el hf
        refine va_iald hx hb hK.1 hP 12 0 rfl rfl hi9 dX8_doneAhead_33 ?_
        refine lv_bipush (v := (-21)) hx hb dX8_doneAhead_34 (by decide) ?_
        refine lv_icmp_ne (tgt := 75) hx hb dX8_doneAhead_36 (by decide) (fun hc10 => ?_) (fun hc10 => ?_)
        · have hf := in_el hc10 hf
          have he := Option.some.inj hf
          have e0 := he
          exact hrv _ _ rfl rfl dX8_doneAhead_75 _ _ _ (by rw [e0]) hP hD hS
        · have hf := ip_el hc10 hf
          exact h39 k0 hk0 M _ _ _ hP hD hS (lv_sub hl [0] rfl) hf
  have h0 : ∀ (n : Nat), ∀ (M : ST) (H : Heap) (locs : List Loc) (ls : Array Slot), va_P D vwCl (kX8 cs a (.ref (nn 0)) M) H → va_D A (kX8 cs a (.ref (nn 0)) M) → va_S A s.heap H locs → lv_has ls 1 [(0, .ref (a 0))] → fX8_doneAhead_0 n M = some Mz → W p l e rmX8_doneAhead s m [.ref (a 0)].toArray below meth c H locs 0 0 Q (F0 m 0 ls []) := by
    intro n
    induction n with
    | zero => intro M H locs ls hP hD hS hl hf; exact no_el hf
    | succ n ih => intro M H locs ls hP hD hS hl hf; exact hs0 _ ih M _ _ _ hP hD hS hl hf
  have hl : lv_has ls0 1 [(0, .ref (a 0))] := hl0
  have hP := hP0
  have hD := hD0
  have hS := hS0
  unfold fX8_doneAhead at hf
  exact h0 400 M _ _ _ hP hD hS (lv_sub hl [0] rfl) hf

def fX8_doneBy_0_s (k0 : Int32 → ST → Option ST) (y1 : Int32) (M : ST) : Option ST :=
  (if (M 0 21) ≤ 0 then some M else dc_ck ((M 0 21) - 1) 80 ((if (M 21 (Int32.toNatClampNeg ((M 0 21) - 1))) ≤ 0 then some M else dc_ck ((M 0 21) - 1) 80 (dc_b1 (fX8_binds (M 21 (Int32.toNatClampNeg ((M 0 21) - 1)))) (fun r5 => (if r5 < y1 then some M else dc_lt (sti M 0 21 ((M 0 21) - 1)) (fun M_8 => dc_ck (M_8 0 21) 80 (dc_b1 (fX8_puts (10000 + (M_8 21 (Int32.toNatClampNeg (M_8 0 21)))) M_8) (fun M_10 => k0 y1 M_10)))))))))
def fX8_doneBy_0 : Nat → Int32 → ST → Option ST
  | 0 => fun _ _ => none
  | n + 1 => fX8_doneBy_0_s (fX8_doneBy_0 n)
def fX8_doneBy (x1 : Int32) (M : ST) : Option ST :=
  fX8_doneBy_0 400 x1 M
abbrev rmX8_doneBy : Room := { frames := 1, cells := 0, slots := 0, locals := 21 }
set_option maxRecDepth 100000 in
set_option maxHeartbeats 4000000 in
theorem tX8_doneBy (l : Launch) (D : va_G) (cs : Nat → ClassId) (a : Nat → Nat) (nn : Nat → Nat) (x1 : Int32) (M : ST) (Mz : ST) (hf : fX8_doneBy x1 M = some Mz) : CG l yX8_doneBy (wsm yX8_doneBy cX8_doneBy 2 none) rmX8_doneBy D cs [.ref (a 0), .int x1] none (kX8 cs a (.ref (nn 0)) M) (kX8 cs a (.ref (nn 0)) Mz) := by
  refine CG.intro (by decide) (Nat.le_of_ble_eq_true rfl) ?_
  intro p e s m below meth c A Q hx hb hml hown hu hK hZ hP0 hD0 hS0 hA hri hrz hrl hrv hra ls0 hl0
  have hs0 : ∀ (k0 : Int32 → ST → Option ST), (∀ (y1 : Int32) (M : ST) (H : Heap) (locs : List Loc) (ls : Array Slot), va_P D vwCl (kX8 cs a (.ref (nn 0)) M) H → va_D A (kX8 cs a (.ref (nn 0)) M) → va_S A s.heap H locs → lv_has ls 2 [(0, .ref (a 0)), (1, .int y1)] → k0 y1 M = some Mz → W p l e rmX8_doneBy s m [.ref (a 0), .int x1].toArray below meth c H locs 0 0 Q (F0 m 0 ls [])) → ∀ (y1 : Int32) (M : ST) (H : Heap) (locs : List Loc) (ls : Array Slot), va_P D vwCl (kX8 cs a (.ref (nn 0)) M) H → va_D A (kX8 cs a (.ref (nn 0)) M) → va_S A s.heap H locs → lv_has ls 2 [(0, .ref (a 0)), (1, .int y1)] → fX8_doneBy_0_s k0 y1 M = some Mz → W p l e rmX8_doneBy s m [.ref (a 0), .int x1].toArray below meth c H locs 0 0 Q (F0 m 0 ls []) := by
    intro k0 hk0 y1 M H locs ls hP hD hS hl hf
    unfold fX8_doneBy_0_s at hf
    refine lv_aload_n hx hb dX8_doneBy_0 rfl (lv_at hl 0 rfl) ?_
    refine va_get (D := D) (ci := 8) (v := .int (M 0 21)) (C := RX8) (T := TX8) (N := 26) hx hb hu inX8 hown hK.1 hP 0 rfl rfl 21 (by decide) (hu _ q938) (fun _ h9 => h9) rfl dX8_doneBy_1 ?_
    refine lv_if_le (tgt := 69) hx hb dX8_doneBy_4 (by decide) (fun hc1 => ?_) (fun hc1 => ?_)
    · have hf := ip_el hc1 hf
      have he := Option.some.inj hf
      have e0 := he
      exact hrv _ _ rfl rfl dX8_doneBy_69 _ _ _ (by rw [e0]) hP hD hS
    · have hf := in_el hc1 hf
      refine lv_aload_n hx hb dX8_doneBy_7 rfl (lv_at hl 0 rfl) ?_
      refine va_get (D := D) (ci := 8) (v := .ref (a 21)) (C := RX8) (T := TX8) (N := 26) hx hb hu inX8 hown hK.1 hP 0 rfl rfl 20 (by decide) (hu _ q937) (fun _ h9 => h9) rfl dX8_doneBy_8 ?_
      refine lv_aload_n hx hb dX8_doneBy_11 rfl (lv_at hl 0 rfl) ?_
      refine va_get (D := D) (ci := 8) (v := .int (M 0 21)) (C := RX8) (T := TX8) (N := 26) hx hb hu inX8 hown hK.1 hP 0 rfl rfl 21 (by decide) (hu _ q938) (fun _ h9 => h9) rfl dX8_doneBy_12 ?_
      refine lv_iconst (v := 1) hx hb dX8_doneBy_15 (by decide) ?_
      refine lv_isub hx hb dX8_doneBy_16 ?_
      obtain ⟨hi2, hf⟩ := ck_el hf
      refine va_iald hx hb hK.1 hP 12 0 rfl rfl hi2 dX8_doneBy_17 ?_
      refine lv_if_le (tgt := 69) hx hb dX8_doneBy_18 (by decide) (fun hc3 => ?_) (fun hc3 => ?_)
      · have hf := ip_el hc3 hf
        have he := Option.some.inj hf
        have e0 := he
        exact hrv _ _ rfl rfl dX8_doneBy_69 _ _ _ (by rw [e0]) hP hD hS
      · have hf := in_el hc3 hf
        refine lv_aload_n hx hb dX8_doneBy_21 rfl (lv_at hl 0 rfl) ?_
        refine va_get (D := D) (ci := 8) (v := .ref (a 21)) (C := RX8) (T := TX8) (N := 26) hx hb hu inX8 hown hK.1 hP 0 rfl rfl 20 (by decide) (hu _ q937) (fun _ h9 => h9) rfl dX8_doneBy_22 ?_
        refine lv_aload_n hx hb dX8_doneBy_25 rfl (lv_at hl 0 rfl) ?_
        refine va_get (D := D) (ci := 8) (v := .int (M 0 21)) (C := RX8) (T := TX8) (N := 26) hx hb hu inX8 hown hK.1 hP 0 rfl rfl 21 (by decide) (hu _ q938) (fun _ h9 => h9) rfl dX8_doneBy_26 ?_
        refine lv_iconst (v := 1) hx hb dX8_doneBy_29 (by decide) ?_
        refine lv_isub hx hb dX8_doneBy_30 ?_
        obtain ⟨hi4, hf⟩ := ck_el hf
        refine va_iald hx hb hK.1 hP 12 0 rfl rfl hi4 dX8_doneBy_31 ?_
        obtain ⟨r5, hg6, hf⟩ := b1_el hf
        refine cc_S0 (st1 := [.int r5]) [.int (M 21 (Int32.toNatClampNeg ((M 0 21) - 1)))] hx hb hml hown hu (tX8_binds l D cs (M 21 (Int32.toNatClampNeg ((M 0 21) - 1))) r5 hg6) q1254 q62 q1252 q1253 pdX8_binds ⟨rfl, rfl, Nat.le_of_ble_eq_true rfl, Nat.le_of_ble_eq_true rfl⟩ hK hZ hP hD hS hA rfl hl.1 rfl (Nat.le_of_ble_eq_true rfl) dX8_doneBy_32 rfl (fun H locs hP hD hS => ?_)
        refine lv_iload_n hx hb dX8_doneBy_35 rfl (lv_at hl 1 rfl) ?_
        refine lv_icmp_lt (tgt := 69) hx hb dX8_doneBy_36 (by decide) (fun hc7 => ?_) (fun hc7 => ?_)
        · have hf := ip_el hc7 hf
          have he := Option.some.inj hf
          have e0 := he
          exact hrv _ _ rfl rfl dX8_doneBy_69 _ _ _ (by rw [e0]) hP hD hS
        · have hf := in_el hc7 hf
          refine lv_aload_n hx hb dX8_doneBy_39 rfl (lv_at hl 0 rfl) ?_
          refine lv_dup hx hb dX8_doneBy_40 rfl ?_
          refine va_get (D := D) (ci := 8) (v := .int (M 0 21)) (C := RX8) (T := TX8) (N := 26) hx hb hu inX8 hown hK.1 hP 0 rfl rfl 21 (by decide) (hu _ q938) (fun _ h9 => h9) rfl dX8_doneBy_41 ?_
          refine lv_iconst (v := 1) hx hb dX8_doneBy_44 (by decide) ?_
          refine lv_isub hx hb dX8_doneBy_45 ?_
          obtain ⟨M_8, hM_8, hf⟩ := lt_el hf
          refine va_put (D := D) (ci := 8) (v := .int ((M 0 21) - 1)) (ty := .int) (C := RX8) (T := TX8) (N := 26) hx hb hu inX8 tyX8 tyX8_ok nmX8 hown hK.1 hP hD hS 0 rfl rfl 21 (by decide) (hu _ q938) (fun _ h9 => h9) rfl (by decide +kernel) rfl rfl (Nat.le_of_ble_eq_true rfl) dX8_doneBy_46 (fun H locs hP hD hS => ?_)
          have hP : va_P D vwCl (kX8 cs a (.ref (nn 0)) M_8) H := by rw [hM_8]; exact hP
          have hD : va_D A (kX8 cs a (.ref (nn 0)) M_8) := by rw [hM_8]; exact hD
          refine lv_aload_n hx hb dX8_doneBy_49 rfl (lv_at hl 0 rfl) ?_
          refine lv_sipush (v := 10000) hx hb dX8_doneBy_50 (by decide) ?_
          refine lv_aload_n hx hb dX8_doneBy_53 rfl (lv_at hl 0 rfl) ?_
          refine va_get (D := D) (ci := 8) (v := .ref (a 21)) (C := RX8) (T := TX8) (N := 26) hx hb hu inX8 hown hK.1 hP 0 rfl rfl 20 (by decide) (hu _ q937) (fun _ h9 => h9) rfl dX8_doneBy_54 ?_
          refine lv_aload_n hx hb dX8_doneBy_57 rfl (lv_at hl 0 rfl) ?_
          refine va_get (D := D) (ci := 8) (v := .int (M_8 0 21)) (C := RX8) (T := TX8) (N := 26) hx hb hu inX8 hown hK.1 hP 0 rfl rfl 21 (by decide) (hu _ q938) (fun _ h9 => h9) rfl dX8_doneBy_58 ?_
          obtain ⟨hi9, hf⟩ := ck_el hf
          refine va_iald hx hb hK.1 hP 12 0 rfl rfl hi9 dX8_doneBy_61 ?_
          refine lv_iadd hx hb dX8_doneBy_62 ?_
          obtain ⟨M_10, hg11, hf⟩ := b1_el hf
          refine cc_V1 (w' := (kX8 cs a (.ref (nn 0)) M_10)) (st1 := []) [.int (10000 + (M_8 21 (Int32.toNatClampNeg (M_8 0 21))))] hx hb hml hown hu (tX8_puts l D cs a nn (10000 + (M_8 21 (Int32.toNatClampNeg (M_8 0 21)))) M_8 M_10 hg11) q1262 q62 q1259 q1261 q47 pdX8_puts ⟨rfl, rfl, Nat.le_of_ble_eq_true rfl, Nat.le_of_ble_eq_true rfl⟩ hK hZ hP hD hS hA rfl rfl rfl rfl hl.1 rfl (Nat.le_of_ble_eq_true rfl) dX8_doneBy_63 rfl (fun H locs hP hD hS => ?_)
          refine lv_goto (tgt := 0) hx hb dX8_doneBy_66 (by decide) ?_
          exact hk0 y1 M_10 _ _ _ hP hD hS (lv_sub hl [0, 1] rfl) hf
  have h0 : ∀ (n : Nat), ∀ (y1 : Int32) (M : ST) (H : Heap) (locs : List Loc) (ls : Array Slot), va_P D vwCl (kX8 cs a (.ref (nn 0)) M) H → va_D A (kX8 cs a (.ref (nn 0)) M) → va_S A s.heap H locs → lv_has ls 2 [(0, .ref (a 0)), (1, .int y1)] → fX8_doneBy_0 n y1 M = some Mz → W p l e rmX8_doneBy s m [.ref (a 0), .int x1].toArray below meth c H locs 0 0 Q (F0 m 0 ls []) := by
    intro n
    induction n with
    | zero => intro y1 M H locs ls hP hD hS hl hf; exact no_el hf
    | succ n ih => intro y1 M H locs ls hP hD hS hl hf; exact hs0 _ ih y1 M _ _ _ hP hD hS hl hf
  have hl : lv_has ls0 2 [(0, .ref (a 0)), (1, .int x1)] := hl0
  have hP := hP0
  have hD := hD0
  have hS := hS0
  unfold fX8_doneBy at hf
  exact h0 400 x1 M _ _ _ hP hD hS (lv_sub hl [0, 1] rfl) hf

def fX8_isSignRead_119 (y1 : Int32) (y2 : Int32) (s0 : Int32) (s1 : Int32) (M : ST) : Option (Int32 × ST) :=
  dc_ck s1 8 (dc_lt (sti M 23 (Int32.toNatClampNeg s1) (vp_nar .boolean s0)) (fun M_8 => dc_b1 (fX8_doneBy y2 M_8) (fun M_9 => dc_b1 (fX8_waits y1 M_9) (fun M_11 => some (1, M_11)))))
def fX8_isSignRead_84 (y1 : Int32) (y2 : Int32) (M : ST) : Option (Int32 × ST) :=
  (if y2 = 3 then fX8_isSignRead_119 y1 y2 1 (M 0 23) M else (if y2 ≤ 3 then fX8_isSignRead_119 y1 y2 0 (M 0 23) M else dc_ck (M 0 23) 8 ((if (M 23 (Int32.toNatClampNeg (M 0 23))) = 0 then fX8_isSignRead_119 y1 y2 0 (M 0 23) M else fX8_isSignRead_119 y1 y2 1 (M 0 23) M))))
def fX8_isSignRead (x1 : Int32) (M : ST) : Option (Int32 × ST) :=
  dc_b1 (fX8_binds x1) (fun r1 => (if x1 = 41 then (if (M 0 23) = 0 then some (0, M) else dc_b1 (fX8_doneBy 1 M) (fun M_19 => dc_lt (sti M_19 0 21 ((M_19 0 21) - 1)) (fun M_21 => dc_lt (sti M_21 0 23 ((M_21 0 23) - 1)) (fun M_22 => dc_lt (sti M_22 0 24 ((M_22 0 24) - 1)) (fun M_23 => dc_b1 (fX8_doneAhead M_23) (fun M_24 => some (1, M_24))))))) else (if r1 = 0 then some (0, M) else (if r1 = 3 then dc_ck (M 0 23) 8 ((if (M 23 (Int32.toNatClampNeg (M 0 23))) = 0 then fX8_isSignRead_84 x1 r1 M else some (0, M))) else fX8_isSignRead_84 x1 r1 M))))
abbrev rmX8_isSignRead : Room := { frames := 2, cells := 0, slots := 0, locals := 42 }
set_option maxRecDepth 100000 in
set_option maxHeartbeats 4000000 in
theorem tX8_isSignRead (l : Launch) (D : va_G) (cs : Nat → ClassId) (a : Nat → Nat) (nn : Nat → Nat) (x1 : Int32) (M : ST) (r0 : Int32) (Mz : ST) (hf : fX8_isSignRead x1 M = some (r0, Mz)) : CG l yX8_isSignRead (wsm yX8_isSignRead cX8_isSignRead 3 (some .boolean)) rmX8_isSignRead D cs [.ref (a 0), .int x1] (some (.int r0)) (kX8 cs a (.ref (nn 0)) M) (kX8 cs a (.ref (nn 0)) Mz) := by
  refine CG.intro (by decide) (Nat.le_of_ble_eq_true rfl) ?_
  intro p e s m below meth c A Q hx hb hml hown hu hK hZ hP0 hD0 hS0 hA hri hrz hrl hrv hra ls0 hl0
  have h119 : ∀ (y1 : Int32) (y2 : Int32) (s0 : Int32) (s1 : Int32) (M : ST) (H : Heap) (locs : List Loc) (ls : Array Slot), va_P D vwCl (kX8 cs a (.ref (nn 0)) M) H → va_D A (kX8 cs a (.ref (nn 0)) M) → va_S A s.heap H locs → lv_has ls 3 [(0, .ref (a 0)), (1, .int y1), (2, .int y2)] → fX8_isSignRead_119 y1 y2 s0 s1 M = some (r0, Mz) → W p l e rmX8_isSignRead s m [.ref (a 0), .int x1].toArray below meth c H locs 0 0 Q (F0 m 119 ls [.int s0, .int s1, .ref (a 23)]) := by
    intro y1 y2 s0 s1 M H locs ls hP hD hS hl hf
    unfold fX8_isSignRead_119 at hf
    obtain ⟨hi7, hf⟩ := ck_el hf
    obtain ⟨M_8, hM_8, hf⟩ := lt_el hf
    refine va_zast hx hb hK.1 hP hD hS 13 3 rfl rfl hi7 dX8_isSignRead_119 (fun H locs hP hD hS => ?_)
    have hP : va_P D vwCl (kX8 cs a (.ref (nn 0)) M_8) H := by rw [hM_8]; exact hP
    have hD : va_D A (kX8 cs a (.ref (nn 0)) M_8) := by rw [hM_8]; exact hD
    refine lv_aload_n hx hb dX8_isSignRead_120 rfl (lv_at hl 0 rfl) ?_
    refine lv_iload_n hx hb dX8_isSignRead_121 rfl (lv_at hl 2 rfl) ?_
    obtain ⟨M_9, hg10, hf⟩ := b1_el hf
    refine cc_V1 (w' := (kX8 cs a (.ref (nn 0)) M_9)) (st1 := []) [.int y2] hx hb hml hown hu (tX8_doneBy l D cs a nn y2 M_8 M_9 hg10) q1258 q62 q1255 q1257 q46 pdX8_doneBy ⟨rfl, rfl, Nat.le_of_ble_eq_true rfl, Nat.le_of_ble_eq_true rfl⟩ hK hZ hP hD hS hA rfl rfl rfl rfl hl.1 rfl (Nat.le_of_ble_eq_true rfl) dX8_isSignRead_122 rfl (fun H locs hP hD hS => ?_)
    refine lv_aload_n hx hb dX8_isSignRead_125 rfl (lv_at hl 0 rfl) ?_
    refine lv_iload_n hx hb dX8_isSignRead_126 rfl (lv_at hl 1 rfl) ?_
    obtain ⟨M_11, hg12, hf⟩ := b1_el hf
    refine cc_V1 (w' := (kX8 cs a (.ref (nn 0)) M_11)) (st1 := []) [.int y1] hx hb hml hown hu (tX8_waits l D cs a nn y1 M_9 M_11 hg12) q1270 q62 q1267 q1269 q49 pdX8_waits ⟨rfl, rfl, Nat.le_of_ble_eq_true rfl, Nat.le_of_ble_eq_true rfl⟩ hK hZ hP hD hS hA rfl rfl rfl rfl hl.1 rfl (Nat.le_of_ble_eq_true rfl) dX8_isSignRead_127 rfl (fun H locs hP hD hS => ?_)
    refine lv_iconst (v := 1) hx hb dX8_isSignRead_130 (by decide) ?_
    have he := Option.some.inj hf
    obtain ⟨e0, e1⟩ := Prod.mk.inj he
    exact hrz _ _ _ .boolean rfl rfl (congrArg (fun z => some (Value.int z)) e0.symm) dX8_isSignRead_131 _ _ _ (by rw [e1]) hP hD hS
  have h84 : ∀ (y1 : Int32) (y2 : Int32) (M : ST) (H : Heap) (locs : List Loc) (ls : Array Slot), va_P D vwCl (kX8 cs a (.ref (nn 0)) M) H → va_D A (kX8 cs a (.ref (nn 0)) M) → va_S A s.heap H locs → lv_has ls 3 [(0, .ref (a 0)), (1, .int y1), (2, .int y2)] → fX8_isSignRead_84 y1 y2 M = some (r0, Mz) → W p l e rmX8_isSignRead s m [.ref (a 0), .int x1].toArray below meth c H locs 0 0 Q (F0 m 84 ls []) := by
    intro y1 y2 M H locs ls hP hD hS hl hf
    unfold fX8_isSignRead_84 at hf
    refine lv_aload_n hx hb dX8_isSignRead_84 rfl (lv_at hl 0 rfl) ?_
    refine va_get (D := D) (ci := 8) (v := .ref (a 23)) (C := RX8) (T := TX8) (N := 26) hx hb hu inX8 hown hK.1 hP 0 rfl rfl 22 (by decide) (hu _ q939) (fun _ h9 => h9) rfl dX8_isSignRead_85 ?_
    refine lv_aload_n hx hb dX8_isSignRead_88 rfl (lv_at hl 0 rfl) ?_
    refine va_get (D := D) (ci := 8) (v := .int (M 0 23)) (C := RX8) (T := TX8) (N := 26) hx hb hu inX8 hown hK.1 hP 0 rfl rfl 23 (by decide) (hu _ q940) (fun _ h9 => h9) rfl dX8_isSignRead_89 ?_
    refine lv_iload_n hx hb dX8_isSignRead_92 rfl (lv_at hl 2 rfl) ?_
    refine lv_iconst (v := 3) hx hb dX8_isSignRead_93 (by decide) ?_
    refine lv_icmp_eq (tgt := 114) hx hb dX8_isSignRead_94 (by decide) (fun hc6 => ?_) (fun hc6 => ?_)
    · have hf := ip_el hc6 hf
      refine lv_iconst (v := 1) hx hb dX8_isSignRead_114 (by decide) ?_
      refine lv_goto (tgt := 119) hx hb dX8_isSignRead_115 (by decide) ?_
      exact h119 y1 y2 1 (M 0 23) M _ _ _ hP hD hS (lv_sub hl [0, 1, 2] rfl) hf
    · have hf := in_el hc6 hf
      refine lv_iload_n hx hb dX8_isSignRead_97 rfl (lv_at hl 2 rfl) ?_
      refine lv_iconst (v := 3) hx hb dX8_isSignRead_98 (by decide) ?_
      refine lv_icmp_le (tgt := 118) hx hb dX8_isSignRead_99 (by decide) (fun hc13 => ?_) (fun hc13 => ?_)
      · have hf := ip_el hc13 hf
        refine lv_iconst (v := 0) hx hb dX8_isSignRead_118 (by decide) ?_
        exact h119 y1 y2 0 (M 0 23) M _ _ _ hP hD hS (lv_sub hl [0, 1, 2] rfl) hf
      · have hf := in_el hc13 hf
        refine lv_aload_n hx hb dX8_isSignRead_102 rfl (lv_at hl 0 rfl) ?_
        refine va_get (D := D) (ci := 8) (v := .ref (a 23)) (C := RX8) (T := TX8) (N := 26) hx hb hu inX8 hown hK.1 hP 0 rfl rfl 22 (by decide) (hu _ q939) (fun _ h9 => h9) rfl dX8_isSignRead_103 ?_
        refine lv_aload_n hx hb dX8_isSignRead_106 rfl (lv_at hl 0 rfl) ?_
        refine va_get (D := D) (ci := 8) (v := .int (M 0 23)) (C := RX8) (T := TX8) (N := 26) hx hb hu inX8 hown hK.1 hP 0 rfl rfl 23 (by decide) (hu _ q940) (fun _ h9 => h9) rfl dX8_isSignRead_107 ?_
        obtain ⟨hi14, hf⟩ := ck_el hf
        refine va_zald hx hb hK.1 hP 13 3 rfl rfl hi14 dX8_isSignRead_110 ?_
        refine lv_if_eq (tgt := 118) hx hb dX8_isSignRead_111 (by decide) (fun hc15 => ?_) (fun hc15 => ?_)
        · have hf := ip_el hc15 hf
          refine lv_iconst (v := 0) hx hb dX8_isSignRead_118 (by decide) ?_
          exact h119 y1 y2 0 (M 0 23) M _ _ _ hP hD hS (lv_sub hl [0, 1, 2] rfl) hf
        · have hf := in_el hc15 hf
          refine lv_iconst (v := 1) hx hb dX8_isSignRead_114 (by decide) ?_
          refine lv_goto (tgt := 119) hx hb dX8_isSignRead_115 (by decide) ?_
          exact h119 y1 y2 1 (M 0 23) M _ _ _ hP hD hS (lv_sub hl [0, 1, 2] rfl) hf
  have hl : lv_has ls0 3 [(0, .ref (a 0)), (1, .int x1)] := hl0
  have hP := hP0
  have hD := hD0
  have hS := hS0
  unfold fX8_isSignRead at hf
  refine lv_iload_n hx hb dX8_isSignRead_0 rfl (lv_at hl 1 rfl) ?_
  obtain ⟨r1, hg2, hf⟩ := b1_el hf
  refine cc_S0 (st1 := [.int r1]) [.int x1] hx hb hml hown hu (tX8_binds l D cs x1 r1 hg2) q1254 q62 q1252 q1253 pdX8_binds ⟨rfl, rfl, Nat.le_of_ble_eq_true rfl, Nat.le_of_ble_eq_true rfl⟩ hK hZ hP hD hS hA rfl hl.1 rfl (Nat.le_of_ble_eq_true rfl) dX8_isSignRead_1 rfl (fun H locs hP hD hS => ?_)
  refine lv_istore_n (lv' := [(2, .int r1), (0, .ref (a 0)), (1, .int x1)]) hx hb dX8_isSignRead_4 rfl hl (by decide) rfl (fun ls hl => ?_)
  refine lv_iload_n hx hb dX8_isSignRead_5 rfl (lv_at hl 2 rfl) ?_
  refine lv_bipush (v := 41) hx hb dX8_isSignRead_6 (by decide) ?_
  refine lv_icmp_ne (tgt := 61) hx hb dX8_isSignRead_8 (by decide) (fun hc3 => ?_) (fun hc3 => ?_)
  · have hf := in_el hc3 hf
    refine lv_iload_n hx hb dX8_isSignRead_61 rfl (lv_at hl 0 rfl) ?_
    refine lv_if_eq (tgt := 82) hx hb dX8_isSignRead_62 (by decide) (fun hc4 => ?_) (fun hc4 => ?_)
    · have hf := ip_el hc4 hf
      refine lv_iconst (v := 0) hx hb dX8_isSignRead_82 (by decide) ?_
      have he := Option.some.inj hf
      obtain ⟨e0, e1⟩ := Prod.mk.inj he
      exact hrz _ _ _ .boolean rfl rfl (congrArg (fun z => some (Value.int z)) e0.symm) dX8_isSignRead_83 _ _ _ (by rw [e1]) hP hD hS
    · have hf := in_el hc4 hf
      refine lv_iload_n hx hb dX8_isSignRead_65 rfl (lv_at hl 0 rfl) ?_
      refine lv_iconst (v := 3) hx hb dX8_isSignRead_66 (by decide) ?_
      refine lv_icmp_ne (tgt := 84) hx hb dX8_isSignRead_67 (by decide) (fun hc5 => ?_) (fun hc5 => ?_)
      · have hf := in_el hc5 hf
        exact h84 x1 r1 M _ _ _ hP hD hS (lv_sub hl [1, 2, 0] rfl) hf
      · have hf := ip_el hc5 hf
        refine lv_aload_n hx hb dX8_isSignRead_70 rfl (lv_at hl 1 rfl) ?_
        refine va_get (D := D) (ci := 8) (v := .ref (a 23)) (C := RX8) (T := TX8) (N := 26) hx hb hu inX8 hown hK.1 hP 0 rfl rfl 22 (by decide) (hu _ q939) (fun _ h9 => h9) rfl dX8_isSignRead_71 ?_
        refine lv_aload_n hx hb dX8_isSignRead_74 rfl (lv_at hl 1 rfl) ?_
        refine va_get (D := D) (ci := 8) (v := .int (M 0 23)) (C := RX8) (T := TX8) (N := 26) hx hb hu inX8 hown hK.1 hP 0 rfl rfl 23 (by decide) (hu _ q940) (fun _ h9 => h9) rfl dX8_isSignRead_75 ?_
        obtain ⟨hi16, hf⟩ := ck_el hf
        refine va_zald hx hb hK.1 hP 13 3 rfl rfl hi16 dX8_isSignRead_78 ?_
        refine lv_if_eq (tgt := 84) hx hb dX8_isSignRead_79 (by decide) (fun hc17 => ?_) (fun hc17 => ?_)
        · have hf := ip_el hc17 hf
          exact h84 x1 r1 M _ _ _ hP hD hS (lv_sub hl [1, 2, 0] rfl) hf
        · have hf := in_el hc17 hf
          refine lv_iconst (v := 0) hx hb dX8_isSignRead_82 (by decide) ?_
          have he := Option.some.inj hf
          obtain ⟨e0, e1⟩ := Prod.mk.inj he
          exact hrz _ _ _ .boolean rfl rfl (congrArg (fun z => some (Value.int z)) e0.symm) dX8_isSignRead_83 _ _ _ (by rw [e1]) hP hD hS
  · have hf := ip_el hc3 hf
    refine lv_aload_n hx hb dX8_isSignRead_11 rfl (lv_at hl 1 rfl) ?_
    refine va_get (D := D) (ci := 8) (v := .int (M 0 23)) (C := RX8) (T := TX8) (N := 26) hx hb hu inX8 hown hK.1 hP 0 rfl rfl 23 (by decide) (hu _ q940) (fun _ h9 => h9) rfl dX8_isSignRead_12 ?_
    refine lv_if_ne (tgt := 20) hx hb dX8_isSignRead_15 (by decide) (fun hc18 => ?_) (fun hc18 => ?_)
    · have hf := in_el hc18 hf
      refine lv_aload_n hx hb dX8_isSignRead_20 rfl (lv_at hl 1 rfl) ?_
      refine lv_iconst (v := 1) hx hb dX8_isSignRead_21 (by decide) ?_
      obtain ⟨M_19, hg20, hf⟩ := b1_el hf
      refine cc_V1 (w' := (kX8 cs a (.ref (nn 0)) M_19)) (st1 := []) [.int 1] hx hb hml hown hu (tX8_doneBy l D cs a nn 1 M M_19 hg20) q1258 q62 q1255 q1257 q46 pdX8_doneBy ⟨rfl, rfl, Nat.le_of_ble_eq_true rfl, Nat.le_of_ble_eq_true rfl⟩ hK hZ hP hD hS hA rfl rfl rfl rfl hl.1 rfl (Nat.le_of_ble_eq_true rfl) dX8_isSignRead_22 rfl (fun H locs hP hD hS => ?_)
      refine lv_aload_n hx hb dX8_isSignRead_25 rfl (lv_at hl 1 rfl) ?_
      refine lv_dup hx hb dX8_isSignRead_26 rfl ?_
      refine va_get (D := D) (ci := 8) (v := .int (M_19 0 21)) (C := RX8) (T := TX8) (N := 26) hx hb hu inX8 hown hK.1 hP 0 rfl rfl 21 (by decide) (hu _ q938) (fun _ h9 => h9) rfl dX8_isSignRead_27 ?_
      refine lv_iconst (v := 1) hx hb dX8_isSignRead_30 (by decide) ?_
      refine lv_isub hx hb dX8_isSignRead_31 ?_
      obtain ⟨M_21, hM_21, hf⟩ := lt_el hf
      refine va_put (D := D) (ci := 8) (v := .int ((M_19 0 21) - 1)) (ty := .int) (C := RX8) (T := TX8) (N := 26) hx hb hu inX8 tyX8 tyX8_ok nmX8 hown hK.1 hP hD hS 0 rfl rfl 21 (by decide) (hu _ q938) (fun _ h9 => h9) rfl (by decide +kernel) rfl rfl (Nat.le_of_ble_eq_true rfl) dX8_isSignRead_32 (fun H locs hP hD hS => ?_)
      have hP : va_P D vwCl (kX8 cs a (.ref (nn 0)) M_21) H := by rw [hM_21]; exact hP
      have hD : va_D A (kX8 cs a (.ref (nn 0)) M_21) := by rw [hM_21]; exact hD
      refine lv_aload_n hx hb dX8_isSignRead_35 rfl (lv_at hl 1 rfl) ?_
      refine lv_dup hx hb dX8_isSignRead_36 rfl ?_
      refine va_get (D := D) (ci := 8) (v := .int (M_21 0 23)) (C := RX8) (T := TX8) (N := 26) hx hb hu inX8 hown hK.1 hP 0 rfl rfl 23 (by decide) (hu _ q940) (fun _ h9 => h9) rfl dX8_isSignRead_37 ?_
      refine lv_iconst (v := 1) hx hb dX8_isSignRead_40 (by decide) ?_
      refine lv_isub hx hb dX8_isSignRead_41 ?_
      obtain ⟨M_22, hM_22, hf⟩ := lt_el hf
      refine va_put (D := D) (ci := 8) (v := .int ((M_21 0 23) - 1)) (ty := .int) (C := RX8) (T := TX8) (N := 26) hx hb hu inX8 tyX8 tyX8_ok nmX8 hown hK.1 hP hD hS 0 rfl rfl 23 (by decide) (hu _ q940) (fun _ h9 => h9) rfl (by decide +kernel) rfl rfl (Nat.le_of_ble_eq_true rfl) dX8_isSignRead_42 (fun H locs hP hD hS => ?_)
      have hP : va_P D vwCl (kX8 cs a (.ref (nn 0)) M_22) H := by rw [hM_22]; exact hP
      have hD : va_D A (kX8 cs a (.ref (nn 0)) M_22) := by rw [hM_22]; exact hD
      refine lv_aload_n hx hb dX8_isSignRead_45 rfl (lv_at hl 1 rfl) ?_
      refine lv_dup hx hb dX8_isSignRead_46 rfl ?_
      refine va_get (D := D) (ci := 8) (v := .int (M_22 0 24)) (C := RX8) (T := TX8) (N := 26) hx hb hu inX8 hown hK.1 hP 0 rfl rfl 24 (by decide) (hu _ q941) (fun _ h9 => h9) rfl dX8_isSignRead_47 ?_
      refine lv_iconst (v := 1) hx hb dX8_isSignRead_50 (by decide) ?_
      refine lv_isub hx hb dX8_isSignRead_51 ?_
      obtain ⟨M_23, hM_23, hf⟩ := lt_el hf
      refine va_put (D := D) (ci := 8) (v := .int ((M_22 0 24) - 1)) (ty := .int) (C := RX8) (T := TX8) (N := 26) hx hb hu inX8 tyX8 tyX8_ok nmX8 hown hK.1 hP hD hS 0 rfl rfl 24 (by decide) (hu _ q941) (fun _ h9 => h9) rfl (by decide +kernel) rfl rfl (Nat.le_of_ble_eq_true rfl) dX8_isSignRead_52 (fun H locs hP hD hS => ?_)
      have hP : va_P D vwCl (kX8 cs a (.ref (nn 0)) M_23) H := by rw [hM_23]; exact hP
      have hD : va_D A (kX8 cs a (.ref (nn 0)) M_23) := by rw [hM_23]; exact hD
      refine lv_aload_n hx hb dX8_isSignRead_55 rfl (lv_at hl 1 rfl) ?_
      obtain ⟨M_24, hg25, hf⟩ := b1_el hf
      refine cc_V1 (w' := (kX8 cs a (.ref (nn 0)) M_24)) (st1 := []) [] hx hb hml hown hu (tX8_doneAhead l D cs a nn M_23 M_24 hg25) q1266 q62 q1263 q1265 q48 pdX8_doneAhead ⟨rfl, rfl, Nat.le_of_ble_eq_true rfl, Nat.le_of_ble_eq_true rfl⟩ hK hZ hP hD hS hA rfl rfl rfl rfl hl.1 rfl (Nat.le_of_ble_eq_true rfl) dX8_isSignRead_56 rfl (fun H locs hP hD hS => ?_)
      refine lv_iconst (v := 1) hx hb dX8_isSignRead_59 (by decide) ?_
      have he := Option.some.inj hf
      obtain ⟨e0, e1⟩ := Prod.mk.inj he
      exact hrz _ _ _ .boolean rfl rfl (congrArg (fun z => some (Value.int z)) e0.symm) dX8_isSignRead_60 _ _ _ (by rw [e1]) hP hD hS
    · have hf := ip_el hc18 hf
      refine lv_iconst (v := 0) hx hb dX8_isSignRead_18 (by decide) ?_
      have he := Option.some.inj hf
      obtain ⟨e0, e1⟩ := Prod.mk.inj he
      exact hrz _ _ _ .boolean rfl rfl (congrArg (fun z => some (Value.int z)) e0.symm) dX8_isSignRead_19 _ _ _ (by rw [e1]) hP hD hS

def fX8_isOpenRead_45 (y1 : Int32) (s0 : Int32) (M : ST) : Option (Int32 × ST) :=
  dc_b1 (fX8_waits s0 M) (fun M_5 => (if y1 = 40 then dc_lt (sti M_5 0 23 ((M_5 0 23) + 1)) (fun M_8 => dc_ck (M_8 0 23) 8 (dc_lt (sti M_8 23 (Int32.toNatClampNeg (M_8 0 23)) (vp_nar .boolean 0)) (fun M_10 => some (1, M_10)))) else some (1, M_5)))
def fX8_isOpenRead (x1 : Int32) (M : ST) : Option (Int32 × ST) :=
  (if (M 0 24) = 5 then some (0, M) else dc_lt (sti M 0 24 ((M 0 24) + 1)) (fun M_2 => (if x1 = 33 then fX8_isOpenRead_45 x1 (-20) M_2 else (if x1 = 45 then fX8_isOpenRead_45 x1 (-21) M_2 else fX8_isOpenRead_45 x1 (-22) M_2))))
abbrev rmX8_isOpenRead : Room := { frames := 1, cells := 0, slots := 0, locals := 21 }
set_option maxRecDepth 100000 in
set_option maxHeartbeats 4000000 in
theorem tX8_isOpenRead (l : Launch) (D : va_G) (cs : Nat → ClassId) (a : Nat → Nat) (nn : Nat → Nat) (x1 : Int32) (M : ST) (r0 : Int32) (Mz : ST) (hf : fX8_isOpenRead x1 M = some (r0, Mz)) : CG l yX8_isOpenRead (wsm yX8_isOpenRead cX8_isOpenRead 2 (some .boolean)) rmX8_isOpenRead D cs [.ref (a 0), .int x1] (some (.int r0)) (kX8 cs a (.ref (nn 0)) M) (kX8 cs a (.ref (nn 0)) Mz) := by
  refine CG.intro (by decide) (Nat.le_of_ble_eq_true rfl) ?_
  intro p e s m below meth c A Q hx hb hml hown hu hK hZ hP0 hD0 hS0 hA hri hrz hrl hrv hra ls0 hl0
  have h45 : ∀ (y1 : Int32) (s0 : Int32) (M : ST) (H : Heap) (locs : List Loc) (ls : Array Slot), va_P D vwCl (kX8 cs a (.ref (nn 0)) M) H → va_D A (kX8 cs a (.ref (nn 0)) M) → va_S A s.heap H locs → lv_has ls 2 [(0, .ref (a 0)), (1, .int y1)] → fX8_isOpenRead_45 y1 s0 M = some (r0, Mz) → W p l e rmX8_isOpenRead s m [.ref (a 0), .int x1].toArray below meth c H locs 0 0 Q (F0 m 45 ls [.int s0, .ref (a 0)]) := by
    intro y1 s0 M H locs ls hP hD hS hl hf
    unfold fX8_isOpenRead_45 at hf
    obtain ⟨M_5, hg6, hf⟩ := b1_el hf
    refine cc_V1 (w' := (kX8 cs a (.ref (nn 0)) M_5)) (st1 := []) [.int s0] hx hb hml hown hu (tX8_waits l D cs a nn s0 M M_5 hg6) q1270 q62 q1267 q1269 q49 pdX8_waits ⟨rfl, rfl, Nat.le_of_ble_eq_true rfl, Nat.le_of_ble_eq_true rfl⟩ hK hZ hP hD hS hA rfl rfl rfl rfl hl.1 rfl (Nat.le_of_ble_eq_true rfl) dX8_isOpenRead_45 rfl (fun H locs hP hD hS => ?_)
    refine lv_iload_n hx hb dX8_isOpenRead_48 rfl (lv_at hl 1 rfl) ?_
    refine lv_bipush (v := 40) hx hb dX8_isOpenRead_49 (by decide) ?_
    refine lv_icmp_ne (tgt := 74) hx hb dX8_isOpenRead_51 (by decide) (fun hc7 => ?_) (fun hc7 => ?_)
    · have hf := in_el hc7 hf
      refine lv_iconst (v := 1) hx hb dX8_isOpenRead_74 (by decide) ?_
      have he := Option.some.inj hf
      obtain ⟨e0, e1⟩ := Prod.mk.inj he
      exact hrz _ _ _ .boolean rfl rfl (congrArg (fun z => some (Value.int z)) e0.symm) dX8_isOpenRead_75 _ _ _ (by rw [e1]) hP hD hS
    · have hf := ip_el hc7 hf
      refine lv_aload_n hx hb dX8_isOpenRead_54 rfl (lv_at hl 0 rfl) ?_
      refine lv_dup hx hb dX8_isOpenRead_55 rfl ?_
      refine va_get (D := D) (ci := 8) (v := .int (M_5 0 23)) (C := RX8) (T := TX8) (N := 26) hx hb hu inX8 hown hK.1 hP 0 rfl rfl 23 (by decide) (hu _ q940) (fun _ h9 => h9) rfl dX8_isOpenRead_56 ?_
      refine lv_iconst (v := 1) hx hb dX8_isOpenRead_59 (by decide) ?_
      refine lv_iadd hx hb dX8_isOpenRead_60 ?_
      obtain ⟨M_8, hM_8, hf⟩ := lt_el hf
      refine va_put (D := D) (ci := 8) (v := .int ((M_5 0 23) + 1)) (ty := .int) (C := RX8) (T := TX8) (N := 26) hx hb hu inX8 tyX8 tyX8_ok nmX8 hown hK.1 hP hD hS 0 rfl rfl 23 (by decide) (hu _ q940) (fun _ h9 => h9) rfl (by decide +kernel) rfl rfl (Nat.le_of_ble_eq_true rfl) dX8_isOpenRead_61 (fun H locs hP hD hS => ?_)
      have hP : va_P D vwCl (kX8 cs a (.ref (nn 0)) M_8) H := by rw [hM_8]; exact hP
      have hD : va_D A (kX8 cs a (.ref (nn 0)) M_8) := by rw [hM_8]; exact hD
      refine lv_aload_n hx hb dX8_isOpenRead_64 rfl (lv_at hl 0 rfl) ?_
      refine va_get (D := D) (ci := 8) (v := .ref (a 23)) (C := RX8) (T := TX8) (N := 26) hx hb hu inX8 hown hK.1 hP 0 rfl rfl 22 (by decide) (hu _ q939) (fun _ h9 => h9) rfl dX8_isOpenRead_65 ?_
      refine lv_aload_n hx hb dX8_isOpenRead_68 rfl (lv_at hl 0 rfl) ?_
      refine va_get (D := D) (ci := 8) (v := .int (M_8 0 23)) (C := RX8) (T := TX8) (N := 26) hx hb hu inX8 hown hK.1 hP 0 rfl rfl 23 (by decide) (hu _ q940) (fun _ h9 => h9) rfl dX8_isOpenRead_69 ?_
      refine lv_iconst (v := 0) hx hb dX8_isOpenRead_72 (by decide) ?_
      obtain ⟨hi9, hf⟩ := ck_el hf
      obtain ⟨M_10, hM_10, hf⟩ := lt_el hf
      refine va_zast hx hb hK.1 hP hD hS 13 3 rfl rfl hi9 dX8_isOpenRead_73 (fun H locs hP hD hS => ?_)
      have hP : va_P D vwCl (kX8 cs a (.ref (nn 0)) M_10) H := by rw [hM_10]; exact hP
      have hD : va_D A (kX8 cs a (.ref (nn 0)) M_10) := by rw [hM_10]; exact hD
      refine lv_iconst (v := 1) hx hb dX8_isOpenRead_74 (by decide) ?_
      have he := Option.some.inj hf
      obtain ⟨e0, e1⟩ := Prod.mk.inj he
      exact hrz _ _ _ .boolean rfl rfl (congrArg (fun z => some (Value.int z)) e0.symm) dX8_isOpenRead_75 _ _ _ (by rw [e1]) hP hD hS
  have hl : lv_has ls0 2 [(0, .ref (a 0)), (1, .int x1)] := hl0
  have hP := hP0
  have hD := hD0
  have hS := hS0
  unfold fX8_isOpenRead at hf
  refine lv_aload_n hx hb dX8_isOpenRead_0 rfl (lv_at hl 0 rfl) ?_
  refine va_get (D := D) (ci := 8) (v := .int (M 0 24)) (C := RX8) (T := TX8) (N := 26) hx hb hu inX8 hown hK.1 hP 0 rfl rfl 24 (by decide) (hu _ q941) (fun _ h9 => h9) rfl dX8_isOpenRead_1 ?_
  refine lv_iconst (v := 5) hx hb dX8_isOpenRead_4 (by decide) ?_
  refine lv_icmp_ne (tgt := 10) hx hb dX8_isOpenRead_5 (by decide) (fun hc1 => ?_) (fun hc1 => ?_)
  · have hf := in_el hc1 hf
    refine lv_aload_n hx hb dX8_isOpenRead_10 rfl (lv_at hl 0 rfl) ?_
    refine lv_dup hx hb dX8_isOpenRead_11 rfl ?_
    refine va_get (D := D) (ci := 8) (v := .int (M 0 24)) (C := RX8) (T := TX8) (N := 26) hx hb hu inX8 hown hK.1 hP 0 rfl rfl 24 (by decide) (hu _ q941) (fun _ h9 => h9) rfl dX8_isOpenRead_12 ?_
    refine lv_iconst (v := 1) hx hb dX8_isOpenRead_15 (by decide) ?_
    refine lv_iadd hx hb dX8_isOpenRead_16 ?_
    obtain ⟨M_2, hM_2, hf⟩ := lt_el hf
    refine va_put (D := D) (ci := 8) (v := .int ((M 0 24) + 1)) (ty := .int) (C := RX8) (T := TX8) (N := 26) hx hb hu inX8 tyX8 tyX8_ok nmX8 hown hK.1 hP hD hS 0 rfl rfl 24 (by decide) (hu _ q941) (fun _ h9 => h9) rfl (by decide +kernel) rfl rfl (Nat.le_of_ble_eq_true rfl) dX8_isOpenRead_17 (fun H locs hP hD hS => ?_)
    have hP : va_P D vwCl (kX8 cs a (.ref (nn 0)) M_2) H := by rw [hM_2]; exact hP
    have hD : va_D A (kX8 cs a (.ref (nn 0)) M_2) := by rw [hM_2]; exact hD
    refine lv_aload_n hx hb dX8_isOpenRead_20 rfl (lv_at hl 0 rfl) ?_
    refine lv_iload_n hx hb dX8_isOpenRead_21 rfl (lv_at hl 1 rfl) ?_
    refine lv_bipush (v := 33) hx hb dX8_isOpenRead_22 (by decide) ?_
    refine lv_icmp_ne (tgt := 32) hx hb dX8_isOpenRead_24 (by decide) (fun hc3 => ?_) (fun hc3 => ?_)
    · have hf := in_el hc3 hf
      refine lv_iload_n hx hb dX8_isOpenRead_32 rfl (lv_at hl 1 rfl) ?_
      refine lv_bipush (v := 45) hx hb dX8_isOpenRead_33 (by decide) ?_
      refine lv_icmp_ne (tgt := 43) hx hb dX8_isOpenRead_35 (by decide) (fun hc4 => ?_) (fun hc4 => ?_)
      · have hf := in_el hc4 hf
        refine lv_bipush (v := (-22)) hx hb dX8_isOpenRead_43 (by decide) ?_
        exact h45 x1 (-22) M_2 _ _ _ hP hD hS (lv_sub hl [0, 1] rfl) hf
      · have hf := ip_el hc4 hf
        refine lv_bipush (v := (-21)) hx hb dX8_isOpenRead_38 (by decide) ?_
        refine lv_goto (tgt := 45) hx hb dX8_isOpenRead_40 (by decide) ?_
        exact h45 x1 (-21) M_2 _ _ _ hP hD hS (lv_sub hl [0, 1] rfl) hf
    · have hf := ip_el hc3 hf
      refine lv_bipush (v := (-20)) hx hb dX8_isOpenRead_27 (by decide) ?_
      refine lv_goto (tgt := 45) hx hb dX8_isOpenRead_29 (by decide) ?_
      exact h45 x1 (-20) M_2 _ _ _ hP hD hS (lv_sub hl [0, 1] rfl) hf
  · have hf := ip_el hc1 hf
    refine lv_iconst (v := 0) hx hb dX8_isOpenRead_8 (by decide) ?_
    have he := Option.some.inj hf
    obtain ⟨e0, e1⟩ := Prod.mk.inj he
    exact hrz _ _ _ .boolean rfl rfl (congrArg (fun z => some (Value.int z)) e0.symm) dX8_isOpenRead_9 _ _ _ (by rw [e1]) hP hD hS

def fX8_text_301_s (k301 : Int32 → ST → Option (Int32 × ST)) (y4 : Int32) (M : ST) : Option (Int32 × ST) :=
  (if (M 0 19) ≤ y4 then some (1, M) else dc_ck y4 80 (dc_ck (191 + y4) 271 (dc_lt (sti M 1 (Int32.toNatClampNeg (191 + y4)) (M 19 (Int32.toNatClampNeg y4))) (fun M_18 => dc_lt (y4 + 1) (fun v19 => k301 v19 M_18)))))
def fX8_text_301 : Nat → Int32 → ST → Option (Int32 × ST)
  | 0 => fun _ _ => none
  | n + 1 => fX8_text_301_s (fX8_text_301 n)
def fX8_text_240 (k41 : Int32 → Int32 → Int32 → ST → Option (Int32 × ST)) (y1 : Int32) (y2 : Int32) (y3 : Int32) (y4 : Int32) (s0 : Int32) (M : ST) : Option (Int32 × ST) :=
  (if s0 = 0 then some (((-1) - y3), M) else dc_b2 (fX8_isOpenRead y4 M) (fun r31 M_32 => (if r31 = 0 then some (((-1) - y3), M_32) else dc_lt (y3 + 1) (fun v35 => k41 y1 y2 v35 M_32))))
def fX8_text_167 (k41 : Int32 → Int32 → Int32 → ST → Option (Int32 × ST)) (y1 : Int32) (y3 : Int32) (y5 : Int32) (M : ST) : Option (Int32 × ST) :=
  dc_b1 (fX8_puts y5 M) (fun M_46 => dc_b1 (fX8_doneAhead M_46) (fun M_48 => k41 y1 1 y3 M_48))
def fX8_text_111_s (k41 : Int32 → Int32 → Int32 → ST → Option (Int32 × ST)) (k111 : Int32 → Int32 → Int32 → Int32 → ST → Option (Int32 × ST)) (y1 : Int32) (y3 : Int32) (y5 : Int32) (y6 : Int32) (M : ST) : Option (Int32 × ST) :=
  (if 4 ≤ y6 then fX8_text_167 k41 y1 y3 y5 M else (if y1 ≤ y3 then fX8_text_167 k41 y1 y3 y5 M else dc_ck y3 80 (dc_b1 (fX8_isIn ((M 5 (Int32.toNatClampNeg y3)).toInt64) 48 57) (fun r52 => (if r52 = 0 then fX8_text_167 k41 y1 y3 y5 M else dc_ck y3 80 (dc_lt (((10 * y5) + (M 5 (Int32.toNatClampNeg y3))) - 48) (fun v56 => dc_lt (y3 + 1) (fun v57 => dc_lt (y6 + 1) (fun v58 => k111 y1 v57 v56 v58 M)))))))))
def fX8_text_111 (k41 : Int32 → Int32 → Int32 → ST → Option (Int32 × ST)) : Nat → Int32 → Int32 → Int32 → Int32 → ST → Option (Int32 × ST)
  | 0 => fun _ _ _ _ _ => none
  | n + 1 => fX8_text_111_s k41 (fX8_text_111 k41 n)
def fX8_text_41_s (k41 : Int32 → Int32 → Int32 → ST → Option (Int32 × ST)) (y1 : Int32) (y2 : Int32) (y3 : Int32) (M : ST) : Option (Int32 × ST) :=
  (if y1 ≤ y3 then (if y2 = 0 then some (((-1) - y1), M) else (if (M 0 23) ≤ 0 then dc_b1 (fX8_doneBy 1 M) (fun M_12 => dc_lt (sti M_12 1 190 (M_12 0 19)) (fun M_14 => fX8_text_301 400 0 M_14)) else some (((-1) - y1), M))) else dc_ck y3 80 (dc_lt (M 5 (Int32.toNatClampNeg y3)) (fun v21 => (if y2 = 0 then dc_b1 (fX8_isIn (v21.toInt64) 48 57) (fun r23 => (if r23 = 0 then dc_b1 (fX8_nameOf v21) (fun r26 => (if r26 < 0 then (if v21 = 33 then fX8_text_240 k41 y1 y2 y3 v21 1 M else (if v21 = 45 then fX8_text_240 k41 y1 y2 y3 v21 1 M else (if v21 = 40 then fX8_text_240 k41 y1 y2 y3 v21 1 M else fX8_text_240 k41 y1 y2 y3 v21 0 M))) else dc_b1 (fX8_nameOf v21) (fun r38 => dc_b1 (fX8_puts ((-10) - r38) M) (fun M_40 => dc_b1 (fX8_doneAhead M_40) (fun M_42 => dc_lt (y3 + 1) (fun v44 => k41 y1 1 v44 M_42)))))) else fX8_text_111 k41 400 y1 y3 0 0 M)) else dc_b2 (fX8_isSignRead v21 M) (fun r59 M_60 => (if r59 = 0 then some (((-1) - y3), M_60) else (if v21 = 41 then dc_lt (y3 + 1) (fun v65 => k41 y1 1 v65 M_60) else dc_lt (y3 + 1) (fun v64 => k41 y1 0 v64 M_60))))))))
def fX8_text_41 : Nat → Int32 → Int32 → Int32 → ST → Option (Int32 × ST)
  | 0 => fun _ _ _ _ => none
  | n + 1 => fX8_text_41_s (fX8_text_41 n)
def fX8_text (M : ST) : Option (Int32 × ST) :=
  dc_lt (M 0 5) (fun v1 => dc_lt (sti M 0 5 0) (fun M_2 => dc_lt (sti M_2 0 19 0) (fun M_3 => dc_lt (sti M_3 0 21 0) (fun M_4 => dc_lt (sti M_4 0 23 0) (fun M_5 => dc_lt (sti M_5 0 24 0) (fun M_6 => dc_ck 0 8 (dc_lt (sti M_6 23 (Int32.toNatClampNeg 0) (vp_nar .boolean 0)) (fun M_8 => fX8_text_41 400 v1 0 0 M_8))))))))
abbrev rmX8_text : Room := { frames := 3, cells := 0, slots := 0, locals := 64 }
set_option maxRecDepth 100000 in
set_option maxHeartbeats 4000000 in
theorem tX8_text (l : Launch) (D : va_G) (cs : Nat → ClassId) (a : Nat → Nat) (nn : Nat → Nat) (M : ST) (r0 : Int32) (Mz : ST) (hf : fX8_text M = some (r0, Mz)) : CG l yX8_text (wsm yX8_text cX8_text 7 (some .int)) rmX8_text D cs [.ref (a 0)] (some (.int r0)) (kX8 cs a (.ref (nn 0)) M) (kX8 cs a (.ref (nn 0)) Mz) := by
  refine CG.intro (by decide) (Nat.le_of_ble_eq_true rfl) ?_
  intro p e s m below meth c A Q hx hb hml hown hu hK hZ hP0 hD0 hS0 hA hri hrz hrl hrv hra ls0 hl0
  have hs301 : ∀ (k301 : Int32 → ST → Option (Int32 × ST)), (∀ (y4 : Int32) (M : ST) (H : Heap) (locs : List Loc) (ls : Array Slot), va_P D vwCl (kX8 cs a (.ref (nn 0)) M) H → va_D A (kX8 cs a (.ref (nn 0)) M) → va_S A s.heap H locs → lv_has ls 7 [(0, .ref (a 0)), (4, .int y4)] → k301 y4 M = some (r0, Mz) → W p l e rmX8_text s m [.ref (a 0)].toArray below meth c H locs 0 0 Q (F0 m 301 ls [])) → ∀ (y4 : Int32) (M : ST) (H : Heap) (locs : List Loc) (ls : Array Slot), va_P D vwCl (kX8 cs a (.ref (nn 0)) M) H → va_D A (kX8 cs a (.ref (nn 0)) M) → va_S A s.heap H locs → lv_has ls 7 [(0, .ref (a 0)), (4, .int y4)] → fX8_text_301_s k301 y4 M = some (r0, Mz) → W p l e rmX8_text s m [.ref (a 0)].toArray below meth c H locs 0 0 Q (F0 m 301 ls []) := by
    intro k301 hk301 y4 M H locs ls hP hD hS hl hf
    unfold fX8_text_301_s at hf
    refine lv_iload hx hb dX8_text_301 (lv_at hl 1 rfl) ?_
    refine lv_aload_n hx hb dX8_text_303 rfl (lv_at hl 0 rfl) ?_
    refine va_get (D := D) (ci := 8) (v := .int (M 0 19)) (C := RX8) (T := TX8) (N := 26) hx hb hu inX8 hown hK.1 hP 0 rfl rfl 19 (by decide) (hu _ q936) (fun _ h9 => h9) rfl dX8_text_304 ?_
    refine lv_icmp_ge (tgt := 334) hx hb dX8_text_307 (by decide) (fun hc15 => ?_) (fun hc15 => ?_)
    · have hf := ip_el hc15 hf
      refine lv_iconst (v := 1) hx hb dX8_text_334 (by decide) ?_
      have he := Option.some.inj hf
      obtain ⟨e0, e1⟩ := Prod.mk.inj he
      exact hri _ _ _ rfl (congrArg (fun z => some (Value.int z)) e0.symm) dX8_text_335 _ _ _ (by rw [e1]) hP hD hS
    · have hf := in_el hc15 hf
      refine lv_aload_n hx hb dX8_text_310 rfl (lv_at hl 0 rfl) ?_
      refine va_get (D := D) (ci := 8) (v := .ref (a 1)) (C := RX8) (T := TX8) (N := 26) hx hb hu inX8 hown hK.1 hP 0 rfl rfl 0 (by decide) (hu _ q917) (fun _ h9 => h9) rfl dX8_text_311 ?_
      refine lv_sipush (v := 191) hx hb dX8_text_314 (by decide) ?_
      refine lv_iload hx hb dX8_text_317 (lv_at hl 1 rfl) ?_
      refine lv_iadd hx hb dX8_text_319 ?_
      refine lv_aload_n hx hb dX8_text_320 rfl (lv_at hl 0 rfl) ?_
      refine va_get (D := D) (ci := 8) (v := .ref (a 19)) (C := RX8) (T := TX8) (N := 26) hx hb hu inX8 hown hK.1 hP 0 rfl rfl 18 (by decide) (hu _ q935) (fun _ h9 => h9) rfl dX8_text_321 ?_
      refine lv_iload hx hb dX8_text_324 (lv_at hl 1 rfl) ?_
      obtain ⟨hi16, hf⟩ := ck_el hf
      refine va_iald hx hb hK.1 hP 11 0 rfl rfl hi16 dX8_text_326 ?_
      obtain ⟨hi17, hf⟩ := ck_el hf
      obtain ⟨M_18, hM_18, hf⟩ := lt_el hf
      refine va_iast hx hb hK.1 hP hD hS 1 0 rfl rfl hi17 dX8_text_327 (fun H locs hP hD hS => ?_)
      have hP : va_P D vwCl (kX8 cs a (.ref (nn 0)) M_18) H := by rw [hM_18]; exact hP
      have hD : va_D A (kX8 cs a (.ref (nn 0)) M_18) := by rw [hM_18]; exact hD
      obtain ⟨v19, hv19, hf⟩ := lt_el hf
      refine lv_iinc (v := v19) (lv' := [(4, .int v19), (0, .ref (a 0))]) hx hb dX8_text_328 hl (k := 1) rfl (by rw [hv19]; rfl) (by decide) rfl (fun ls hl => ?_)
      refine lv_goto (tgt := 301) hx hb dX8_text_331 (by decide) ?_
      exact hk301 v19 M_18 _ _ _ hP hD hS (lv_sub hl [1, 0] rfl) hf
  have h301 : ∀ (n : Nat), ∀ (y4 : Int32) (M : ST) (H : Heap) (locs : List Loc) (ls : Array Slot), va_P D vwCl (kX8 cs a (.ref (nn 0)) M) H → va_D A (kX8 cs a (.ref (nn 0)) M) → va_S A s.heap H locs → lv_has ls 7 [(0, .ref (a 0)), (4, .int y4)] → fX8_text_301 n y4 M = some (r0, Mz) → W p l e rmX8_text s m [.ref (a 0)].toArray below meth c H locs 0 0 Q (F0 m 301 ls []) := by
    intro n
    induction n with
    | zero => intro y4 M H locs ls hP hD hS hl hf; exact no_el hf
    | succ n ih => intro y4 M H locs ls hP hD hS hl hf; exact hs301 _ ih y4 M _ _ _ hP hD hS hl hf
  have h240 : ∀ (k41 : Int32 → Int32 → Int32 → ST → Option (Int32 × ST)), (∀ (y1 : Int32) (y2 : Int32) (y3 : Int32) (M : ST) (H : Heap) (locs : List Loc) (ls : Array Slot), va_P D vwCl (kX8 cs a (.ref (nn 0)) M) H → va_D A (kX8 cs a (.ref (nn 0)) M) → va_S A s.heap H locs → lv_has ls 7 [(0, .ref (a 0)), (1, .int y1), (2, .int y2), (3, .int y3)] → k41 y1 y2 y3 M = some (r0, Mz) → W p l e rmX8_text s m [.ref (a 0)].toArray below meth c H locs 0 0 Q (F0 m 41 ls [])) → ∀ (y1 : Int32) (y2 : Int32) (y3 : Int32) (y4 : Int32) (s0 : Int32) (M : ST) (H : Heap) (locs : List Loc) (ls : Array Slot), va_P D vwCl (kX8 cs a (.ref (nn 0)) M) H → va_D A (kX8 cs a (.ref (nn 0)) M) → va_S A s.heap H locs → lv_has ls 7 [(0, .ref (a 0)), (1, .int y1), (2, .int y2), (3, .int y3), (4, .int y4)] → fX8_text_240 k41 y1 y2 y3 y4 s0 M = some (r0, Mz) → W p l e rmX8_text s m [.ref (a 0)].toArray below meth c H locs 0 0 Q (F0 m 240 ls [.int s0]) := by
    intro k41 hk41 y1 y2 y3 y4 s0 M H locs ls hP hD hS hl hf
    unfold fX8_text_240 at hf
    refine lv_istore (lv' := [(5, .int s0), (0, .ref (a 0)), (1, .int y1), (2, .int y2), (3, .int y3), (4, .int y4)]) hx hb dX8_text_240 hl (by decide) rfl (fun ls hl => ?_)
    refine lv_iload hx hb dX8_text_242 (lv_at hl 0 rfl) ?_
    refine lv_if_eq (tgt := 256) hx hb dX8_text_244 (by decide) (fun hc30 => ?_) (fun hc30 => ?_)
    · have hf := ip_el hc30 hf
      refine lv_iconst (v := (-1)) hx hb dX8_text_256 (by decide) ?_
      refine lv_iload_n hx hb dX8_text_257 rfl (lv_at hl 4 rfl) ?_
      refine lv_isub hx hb dX8_text_258 ?_
      have he := Option.some.inj hf
      obtain ⟨e0, e1⟩ := Prod.mk.inj he
      exact hri _ _ _ rfl (congrArg (fun z => some (Value.int z)) e0.symm) dX8_text_259 _ _ _ (by rw [e1]) hP hD hS
    · have hf := in_el hc30 hf
      refine lv_aload_n hx hb dX8_text_247 rfl (lv_at hl 1 rfl) ?_
      refine lv_iload hx hb dX8_text_248 (lv_at hl 5 rfl) ?_
      obtain ⟨r31, M_32, hg33, hf⟩ := b2_el hf
      refine cc_V1 (w' := (kX8 cs a (.ref (nn 0)) M_32)) (st1 := [.int r31]) [.int y4] hx hb hml hown hu (tX8_isOpenRead l D cs a nn y4 M r31 M_32 hg33) q1279 q62 q1276 q1278 q50 pdX8_isOpenRead ⟨rfl, rfl, Nat.le_of_ble_eq_true rfl, Nat.le_of_ble_eq_true rfl⟩ hK hZ hP hD hS hA rfl rfl rfl rfl hl.1 rfl (Nat.le_of_ble_eq_true rfl) dX8_text_250 rfl (fun H locs hP hD hS => ?_)
      refine lv_if_ne (tgt := 260) hx hb dX8_text_253 (by decide) (fun hc34 => ?_) (fun hc34 => ?_)
      · have hf := in_el hc34 hf
        obtain ⟨v35, hv35, hf⟩ := lt_el hf
        refine lv_iinc (v := v35) (lv' := [(3, .int v35), (5, .int s0), (0, .ref (a 0)), (1, .int y1), (2, .int y2), (4, .int y4)]) hx hb dX8_text_260 hl (k := 4) rfl (by rw [hv35]; rfl) (by decide) rfl (fun ls hl => ?_)
        refine lv_goto (tgt := 41) hx hb dX8_text_263 (by decide) ?_
        exact hk41 y1 y2 v35 M_32 _ _ _ hP hD hS (lv_sub hl [2, 3, 4, 0] rfl) hf
      · have hf := ip_el hc34 hf
        refine lv_iconst (v := (-1)) hx hb dX8_text_256 (by decide) ?_
        refine lv_iload_n hx hb dX8_text_257 rfl (lv_at hl 4 rfl) ?_
        refine lv_isub hx hb dX8_text_258 ?_
        have he := Option.some.inj hf
        obtain ⟨e0, e1⟩ := Prod.mk.inj he
        exact hri _ _ _ rfl (congrArg (fun z => some (Value.int z)) e0.symm) dX8_text_259 _ _ _ (by rw [e1]) hP hD hS
  have h167 : ∀ (k41 : Int32 → Int32 → Int32 → ST → Option (Int32 × ST)), (∀ (y1 : Int32) (y2 : Int32) (y3 : Int32) (M : ST) (H : Heap) (locs : List Loc) (ls : Array Slot), va_P D vwCl (kX8 cs a (.ref (nn 0)) M) H → va_D A (kX8 cs a (.ref (nn 0)) M) → va_S A s.heap H locs → lv_has ls 7 [(0, .ref (a 0)), (1, .int y1), (2, .int y2), (3, .int y3)] → k41 y1 y2 y3 M = some (r0, Mz) → W p l e rmX8_text s m [.ref (a 0)].toArray below meth c H locs 0 0 Q (F0 m 41 ls [])) → ∀ (y1 : Int32) (y3 : Int32) (y5 : Int32) (M : ST) (H : Heap) (locs : List Loc) (ls : Array Slot), va_P D vwCl (kX8 cs a (.ref (nn 0)) M) H → va_D A (kX8 cs a (.ref (nn 0)) M) → va_S A s.heap H locs → lv_has ls 7 [(0, .ref (a 0)), (1, .int y1), (3, .int y3), (5, .int y5)] → fX8_text_167 k41 y1 y3 y5 M = some (r0, Mz) → W p l e rmX8_text s m [.ref (a 0)].toArray below meth c H locs 0 0 Q (F0 m 167 ls []) := by
    intro k41 hk41 y1 y3 y5 M H locs ls hP hD hS hl hf
    unfold fX8_text_167 at hf
    refine lv_aload_n hx hb dX8_text_167 rfl (lv_at hl 0 rfl) ?_
    refine lv_iload hx hb dX8_text_168 (lv_at hl 3 rfl) ?_
    obtain ⟨M_46, hg47, hf⟩ := b1_el hf
    refine cc_V1 (w' := (kX8 cs a (.ref (nn 0)) M_46)) (st1 := []) [.int y5] hx hb hml hown hu (tX8_puts l D cs a nn y5 M M_46 hg47) q1262 q62 q1259 q1261 q47 pdX8_puts ⟨rfl, rfl, Nat.le_of_ble_eq_true rfl, Nat.le_of_ble_eq_true rfl⟩ hK hZ hP hD hS hA rfl rfl rfl rfl hl.1 rfl (Nat.le_of_ble_eq_true rfl) dX8_text_170 rfl (fun H locs hP hD hS => ?_)
    refine lv_aload_n hx hb dX8_text_173 rfl (lv_at hl 0 rfl) ?_
    obtain ⟨M_48, hg49, hf⟩ := b1_el hf
    refine cc_V1 (w' := (kX8 cs a (.ref (nn 0)) M_48)) (st1 := []) [] hx hb hml hown hu (tX8_doneAhead l D cs a nn M_46 M_48 hg49) q1266 q62 q1263 q1265 q48 pdX8_doneAhead ⟨rfl, rfl, Nat.le_of_ble_eq_true rfl, Nat.le_of_ble_eq_true rfl⟩ hK hZ hP hD hS hA rfl rfl rfl rfl hl.1 rfl (Nat.le_of_ble_eq_true rfl) dX8_text_174 rfl (fun H locs hP hD hS => ?_)
    refine lv_iconst (v := 1) hx hb dX8_text_177 (by decide) ?_
    refine lv_istore_n (lv' := [(2, .int 1), (0, .ref (a 0)), (1, .int y1), (3, .int y3), (5, .int y5)]) hx hb dX8_text_178 rfl hl (by decide) rfl (fun ls hl => ?_)
    refine lv_goto (tgt := 263) hx hb dX8_text_179 (by decide) ?_
    refine lv_goto (tgt := 41) hx hb dX8_text_263 (by decide) ?_
    exact hk41 y1 1 y3 M_48 _ _ _ hP hD hS (lv_sub hl [1, 2, 0, 3] rfl) hf
  have hs111 : ∀ (k41 : Int32 → Int32 → Int32 → ST → Option (Int32 × ST)), (∀ (y1 : Int32) (y2 : Int32) (y3 : Int32) (M : ST) (H : Heap) (locs : List Loc) (ls : Array Slot), va_P D vwCl (kX8 cs a (.ref (nn 0)) M) H → va_D A (kX8 cs a (.ref (nn 0)) M) → va_S A s.heap H locs → lv_has ls 7 [(0, .ref (a 0)), (1, .int y1), (2, .int y2), (3, .int y3)] → k41 y1 y2 y3 M = some (r0, Mz) → W p l e rmX8_text s m [.ref (a 0)].toArray below meth c H locs 0 0 Q (F0 m 41 ls [])) → ∀ (k111 : Int32 → Int32 → Int32 → Int32 → ST → Option (Int32 × ST)), (∀ (y1 : Int32) (y3 : Int32) (y5 : Int32) (y6 : Int32) (M : ST) (H : Heap) (locs : List Loc) (ls : Array Slot), va_P D vwCl (kX8 cs a (.ref (nn 0)) M) H → va_D A (kX8 cs a (.ref (nn 0)) M) → va_S A s.heap H locs → lv_has ls 7 [(0, .ref (a 0)), (1, .int y1), (3, .int y3), (5, .int y5), (6, .int y6)] → k111 y1 y3 y5 y6 M = some (r0, Mz) → W p l e rmX8_text s m [.ref (a 0)].toArray below meth c H locs 0 0 Q (F0 m 111 ls [])) → ∀ (y1 : Int32) (y3 : Int32) (y5 : Int32) (y6 : Int32) (M : ST) (H : Heap) (locs : List Loc) (ls : Array Slot), va_P D vwCl (kX8 cs a (.ref (nn 0)) M) H → va_D A (kX8 cs a (.ref (nn 0)) M) → va_S A s.heap H locs → lv_has ls 7 [(0, .ref (a 0)), (1, .int y1), (3, .int y3), (5, .int y5), (6, .int y6)] → fX8_text_111_s k41 k111 y1 y3 y5 y6 M = some (r0, Mz) → W p l e rmX8_text s m [.ref (a 0)].toArray below meth c H locs 0 0 Q (F0 m 111 ls []) := by
    intro k41 hk41 k111 hk111 y1 y3 y5 y6 M H locs ls hP hD hS hl hf
    unfold fX8_text_111_s at hf
    refine lv_iload hx hb dX8_text_111 (lv_at hl 4 rfl) ?_
    refine lv_iconst (v := 4) hx hb dX8_text_113 (by decide) ?_
    refine lv_icmp_ge (tgt := 167) hx hb dX8_text_114 (by decide) (fun hc45 => ?_) (fun hc45 => ?_)
    · have hf := ip_el hc45 hf
      exact h167 k41 hk41 y1 y3 y5 M _ _ _ hP hD hS (lv_sub hl [0, 1, 2, 3] rfl) hf
    · have hf := in_el hc45 hf
      refine lv_iload_n hx hb dX8_text_117 rfl (lv_at hl 2 rfl) ?_
      refine lv_iload_n hx hb dX8_text_118 rfl (lv_at hl 1 rfl) ?_
      refine lv_icmp_ge (tgt := 167) hx hb dX8_text_119 (by decide) (fun hc50 => ?_) (fun hc50 => ?_)
      · have hf := ip_el hc50 hf
        exact h167 k41 hk41 y1 y3 y5 M _ _ _ hP hD hS (lv_sub hl [0, 1, 2, 3] rfl) hf
      · have hf := in_el hc50 hf
        refine lv_aload_n hx hb dX8_text_122 rfl (lv_at hl 0 rfl) ?_
        refine va_get (D := D) (ci := 8) (v := .ref (a 5)) (C := RX8) (T := TX8) (N := 26) hx hb hu inX8 hown hK.1 hP 0 rfl rfl 4 (by decide) (hu _ q921) (fun _ h9 => h9) rfl dX8_text_123 ?_
        refine lv_iload_n hx hb dX8_text_126 rfl (lv_at hl 2 rfl) ?_
        obtain ⟨hi51, hf⟩ := ck_el hf
        refine va_iald hx hb hK.1 hP 4 0 rfl rfl hi51 dX8_text_127 ?_
        refine lv_i2l (v := ((M 5 (Int32.toNatClampNeg y3)).toInt64)) hx hb dX8_text_128 rfl ?_
        refine lv_ldc2 (v := 48) hx hb hown (hu _ q1271) dX8_text_129 ?_
        refine lv_ldc2 (v := 57) hx hb hown (hu _ q1272) dX8_text_132 ?_
        obtain ⟨r52, hg53, hf⟩ := b1_el hf
        refine cc_S0 (st1 := [.int r52]) [.long ((M 5 (Int32.toNatClampNeg y3)).toInt64), .long 48, .long 57] hx hb hml hown hu (tX8_isIn l D cs ((M 5 (Int32.toNatClampNeg y3)).toInt64) 48 57 r52 hg53) q1004 q62 q1002 q1003 pdX8_isIn ⟨rfl, rfl, Nat.le_of_ble_eq_true rfl, Nat.le_of_ble_eq_true rfl⟩ hK hZ hP hD hS hA rfl hl.1 rfl (Nat.le_of_ble_eq_true rfl) dX8_text_135 rfl (fun H locs hP hD hS => ?_)
        refine lv_if_eq (tgt := 167) hx hb dX8_text_138 (by decide) (fun hc54 => ?_) (fun hc54 => ?_)
        · have hf := ip_el hc54 hf
          exact h167 k41 hk41 y1 y3 y5 M _ _ _ hP hD hS (lv_sub hl [0, 1, 2, 3] rfl) hf
        · have hf := in_el hc54 hf
          refine lv_bipush (v := 10) hx hb dX8_text_141 (by decide) ?_
          refine lv_iload hx hb dX8_text_143 (lv_at hl 3 rfl) ?_
          refine lv_imul hx hb dX8_text_145 ?_
          refine lv_aload_n hx hb dX8_text_146 rfl (lv_at hl 0 rfl) ?_
          refine va_get (D := D) (ci := 8) (v := .ref (a 5)) (C := RX8) (T := TX8) (N := 26) hx hb hu inX8 hown hK.1 hP 0 rfl rfl 4 (by decide) (hu _ q921) (fun _ h9 => h9) rfl dX8_text_147 ?_
          refine lv_iload_n hx hb dX8_text_150 rfl (lv_at hl 2 rfl) ?_
          obtain ⟨hi55, hf⟩ := ck_el hf
          refine va_iald hx hb hK.1 hP 4 0 rfl rfl hi55 dX8_text_151 ?_
          refine lv_iadd hx hb dX8_text_152 ?_
          refine lv_bipush (v := 48) hx hb dX8_text_153 (by decide) ?_
          refine lv_isub hx hb dX8_text_155 ?_
          obtain ⟨v56, hv56, hf⟩ := lt_el hf
          refine lv_tope hv56 ?_
          refine lv_istore (lv' := [(5, .int v56), (0, .ref (a 0)), (1, .int y1), (3, .int y3), (6, .int y6)]) hx hb dX8_text_156 hl (by decide) rfl (fun ls hl => ?_)
          obtain ⟨v57, hv57, hf⟩ := lt_el hf
          refine lv_iinc (v := v57) (lv' := [(3, .int v57), (5, .int v56), (0, .ref (a 0)), (1, .int y1), (6, .int y6)]) hx hb dX8_text_158 hl (k := 3) rfl (by rw [hv57]; rfl) (by decide) rfl (fun ls hl => ?_)
          obtain ⟨v58, hv58, hf⟩ := lt_el hf
          refine lv_iinc (v := v58) (lv' := [(6, .int v58), (3, .int v57), (5, .int v56), (0, .ref (a 0)), (1, .int y1)]) hx hb dX8_text_161 hl (k := 4) rfl (by rw [hv58]; rfl) (by decide) rfl (fun ls hl => ?_)
          refine lv_goto (tgt := 111) hx hb dX8_text_164 (by decide) ?_
          exact hk111 y1 v57 v56 v58 M _ _ _ hP hD hS (lv_sub hl [3, 4, 1, 2, 0] rfl) hf
  have h111 : ∀ (k41 : Int32 → Int32 → Int32 → ST → Option (Int32 × ST)), (∀ (y1 : Int32) (y2 : Int32) (y3 : Int32) (M : ST) (H : Heap) (locs : List Loc) (ls : Array Slot), va_P D vwCl (kX8 cs a (.ref (nn 0)) M) H → va_D A (kX8 cs a (.ref (nn 0)) M) → va_S A s.heap H locs → lv_has ls 7 [(0, .ref (a 0)), (1, .int y1), (2, .int y2), (3, .int y3)] → k41 y1 y2 y3 M = some (r0, Mz) → W p l e rmX8_text s m [.ref (a 0)].toArray below meth c H locs 0 0 Q (F0 m 41 ls [])) → ∀ (n : Nat), ∀ (y1 : Int32) (y3 : Int32) (y5 : Int32) (y6 : Int32) (M : ST) (H : Heap) (locs : List Loc) (ls : Array Slot), va_P D vwCl (kX8 cs a (.ref (nn 0)) M) H → va_D A (kX8 cs a (.ref (nn 0)) M) → va_S A s.heap H locs → lv_has ls 7 [(0, .ref (a 0)), (1, .int y1), (3, .int y3), (5, .int y5), (6, .int y6)] → fX8_text_111 k41 n y1 y3 y5 y6 M = some (r0, Mz) → W p l e rmX8_text s m [.ref (a 0)].toArray below meth c H locs 0 0 Q (F0 m 111 ls []) := by
    intro k41 hk41 n
    induction n with
    | zero => intro y1 y3 y5 y6 M H locs ls hP hD hS hl hf; exact no_el hf
    | succ n ih => intro y1 y3 y5 y6 M H locs ls hP hD hS hl hf; exact hs111 k41 hk41 _ ih y1 y3 y5 y6 M _ _ _ hP hD hS hl hf
  have hs41 : ∀ (k41 : Int32 → Int32 → Int32 → ST → Option (Int32 × ST)), (∀ (y1 : Int32) (y2 : Int32) (y3 : Int32) (M : ST) (H : Heap) (locs : List Loc) (ls : Array Slot), va_P D vwCl (kX8 cs a (.ref (nn 0)) M) H → va_D A (kX8 cs a (.ref (nn 0)) M) → va_S A s.heap H locs → lv_has ls 7 [(0, .ref (a 0)), (1, .int y1), (2, .int y2), (3, .int y3)] → k41 y1 y2 y3 M = some (r0, Mz) → W p l e rmX8_text s m [.ref (a 0)].toArray below meth c H locs 0 0 Q (F0 m 41 ls [])) → ∀ (y1 : Int32) (y2 : Int32) (y3 : Int32) (M : ST) (H : Heap) (locs : List Loc) (ls : Array Slot), va_P D vwCl (kX8 cs a (.ref (nn 0)) M) H → va_D A (kX8 cs a (.ref (nn 0)) M) → va_S A s.heap H locs → lv_has ls 7 [(0, .ref (a 0)), (1, .int y1), (2, .int y2), (3, .int y3)] → fX8_text_41_s k41 y1 y2 y3 M = some (r0, Mz) → W p l e rmX8_text s m [.ref (a 0)].toArray below meth c H locs 0 0 Q (F0 m 41 ls []) := by
    intro k41 hk41 y1 y2 y3 M H locs ls hP hD hS hl hf
    unfold fX8_text_41_s at hf
    refine lv_iload_n hx hb dX8_text_41 rfl (lv_at hl 3 rfl) ?_
    refine lv_iload_n hx hb dX8_text_42 rfl (lv_at hl 1 rfl) ?_
    refine lv_icmp_ge (tgt := 266) hx hb dX8_text_43 (by decide) (fun hc9 => ?_) (fun hc9 => ?_)
    · have hf := ip_el hc9 hf
      refine lv_iload_n hx hb dX8_text_266 rfl (lv_at hl 2 rfl) ?_
      refine lv_if_eq (tgt := 277) hx hb dX8_text_267 (by decide) (fun hc10 => ?_) (fun hc10 => ?_)
      · have hf := ip_el hc10 hf
        refine lv_iconst (v := (-1)) hx hb dX8_text_277 (by decide) ?_
        refine lv_iload_n hx hb dX8_text_278 rfl (lv_at hl 1 rfl) ?_
        refine lv_isub hx hb dX8_text_279 ?_
        have he := Option.some.inj hf
        obtain ⟨e0, e1⟩ := Prod.mk.inj he
        exact hri _ _ _ rfl (congrArg (fun z => some (Value.int z)) e0.symm) dX8_text_280 _ _ _ (by rw [e1]) hP hD hS
      · have hf := in_el hc10 hf
        refine lv_aload_n hx hb dX8_text_270 rfl (lv_at hl 0 rfl) ?_
        refine va_get (D := D) (ci := 8) (v := .int (M 0 23)) (C := RX8) (T := TX8) (N := 26) hx hb hu inX8 hown hK.1 hP 0 rfl rfl 23 (by decide) (hu _ q940) (fun _ h9 => h9) rfl dX8_text_271 ?_
        refine lv_if_le (tgt := 281) hx hb dX8_text_274 (by decide) (fun hc11 => ?_) (fun hc11 => ?_)
        · have hf := ip_el hc11 hf
          refine lv_aload_n hx hb dX8_text_281 rfl (lv_at hl 0 rfl) ?_
          refine lv_iconst (v := 1) hx hb dX8_text_282 (by decide) ?_
          obtain ⟨M_12, hg13, hf⟩ := b1_el hf
          refine cc_V1 (w' := (kX8 cs a (.ref (nn 0)) M_12)) (st1 := []) [.int 1] hx hb hml hown hu (tX8_doneBy l D cs a nn 1 M M_12 hg13) q1258 q62 q1255 q1257 q46 pdX8_doneBy ⟨rfl, rfl, Nat.le_of_ble_eq_true rfl, Nat.le_of_ble_eq_true rfl⟩ hK hZ hP hD hS hA rfl rfl rfl rfl hl.1 rfl (Nat.le_of_ble_eq_true rfl) dX8_text_283 rfl (fun H locs hP hD hS => ?_)
          refine lv_aload_n hx hb dX8_text_286 rfl (lv_at hl 0 rfl) ?_
          refine va_get (D := D) (ci := 8) (v := .ref (a 1)) (C := RX8) (T := TX8) (N := 26) hx hb hu inX8 hown hK.1 hP 0 rfl rfl 0 (by decide) (hu _ q917) (fun _ h9 => h9) rfl dX8_text_287 ?_
          refine lv_sipush (v := 190) hx hb dX8_text_290 (by decide) ?_
          refine lv_aload_n hx hb dX8_text_293 rfl (lv_at hl 0 rfl) ?_
          refine va_get (D := D) (ci := 8) (v := .int (M_12 0 19)) (C := RX8) (T := TX8) (N := 26) hx hb hu inX8 hown hK.1 hP 0 rfl rfl 19 (by decide) (hu _ q936) (fun _ h9 => h9) rfl dX8_text_294 ?_
          obtain ⟨M_14, hM_14, hf⟩ := lt_el hf
          refine is_lit hx hb hK hP hD hS 1 190 rfl (by decide) dX8_text_297 (fun H locs hP hD hS => ?_)
          have hP : va_P D vwCl (kX8 cs a (.ref (nn 0)) M_14) H := by rw [hM_14]; exact hP
          have hD : va_D A (kX8 cs a (.ref (nn 0)) M_14) := by rw [hM_14]; exact hD
          refine lv_iconst (v := 0) hx hb dX8_text_298 (by decide) ?_
          refine lv_istore (lv' := [(4, .int 0), (0, .ref (a 0)), (1, .int y1), (2, .int y2), (3, .int y3)]) hx hb dX8_text_299 hl (by decide) rfl (fun ls hl => ?_)
          exact h301 400 0 M_14 _ _ _ hP hD hS (lv_sub hl [1, 0] rfl) hf
        · have hf := in_el hc11 hf
          refine lv_iconst (v := (-1)) hx hb dX8_text_277 (by decide) ?_
          refine lv_iload_n hx hb dX8_text_278 rfl (lv_at hl 1 rfl) ?_
          refine lv_isub hx hb dX8_text_279 ?_
          have he := Option.some.inj hf
          obtain ⟨e0, e1⟩ := Prod.mk.inj he
          exact hri _ _ _ rfl (congrArg (fun z => some (Value.int z)) e0.symm) dX8_text_280 _ _ _ (by rw [e1]) hP hD hS
    · have hf := in_el hc9 hf
      refine lv_aload_n hx hb dX8_text_46 rfl (lv_at hl 0 rfl) ?_
      refine va_get (D := D) (ci := 8) (v := .ref (a 5)) (C := RX8) (T := TX8) (N := 26) hx hb hu inX8 hown hK.1 hP 0 rfl rfl 4 (by decide) (hu _ q921) (fun _ h9 => h9) rfl dX8_text_47 ?_
      refine lv_iload_n hx hb dX8_text_50 rfl (lv_at hl 3 rfl) ?_
      obtain ⟨hi20, hf⟩ := ck_el hf
      refine va_iald hx hb hK.1 hP 4 0 rfl rfl hi20 dX8_text_51 ?_
      obtain ⟨v21, hv21, hf⟩ := lt_el hf
      refine lv_tope hv21 ?_
      refine lv_istore (lv' := [(4, .int v21), (0, .ref (a 0)), (1, .int y1), (2, .int y2), (3, .int y3)]) hx hb dX8_text_52 hl (by decide) rfl (fun ls hl => ?_)
      refine lv_iload_n hx hb dX8_text_54 rfl (lv_at hl 3 rfl) ?_
      refine lv_if_eq (tgt := 90) hx hb dX8_text_55 (by decide) (fun hc22 => ?_) (fun hc22 => ?_)
      · have hf := ip_el hc22 hf
        refine lv_iload hx hb dX8_text_90 (lv_at hl 0 rfl) ?_
        refine lv_i2l (v := (v21.toInt64)) hx hb dX8_text_92 rfl ?_
        refine lv_ldc2 (v := 48) hx hb hown (hu _ q1271) dX8_text_93 ?_
        refine lv_ldc2 (v := 57) hx hb hown (hu _ q1272) dX8_text_96 ?_
        obtain ⟨r23, hg24, hf⟩ := b1_el hf
        refine cc_S0 (st1 := [.int r23]) [.long (v21.toInt64), .long 48, .long 57] hx hb hml hown hu (tX8_isIn l D cs (v21.toInt64) 48 57 r23 hg24) q1004 q62 q1002 q1003 pdX8_isIn ⟨rfl, rfl, Nat.le_of_ble_eq_true rfl, Nat.le_of_ble_eq_true rfl⟩ hK hZ hP hD hS hA rfl hl.1 rfl (Nat.le_of_ble_eq_true rfl) dX8_text_99 rfl (fun H locs hP hD hS => ?_)
        refine lv_if_eq (tgt := 182) hx hb dX8_text_102 (by decide) (fun hc25 => ?_) (fun hc25 => ?_)
        · have hf := ip_el hc25 hf
          refine lv_iload hx hb dX8_text_182 (lv_at hl 0 rfl) ?_
          obtain ⟨r26, hg27, hf⟩ := b1_el hf
          refine cc_S0 (st1 := [.int r26]) [.int v21] hx hb hml hown hu (tX8_nameOf l D cs v21 r26 hg27) q1275 q62 q1273 q1274 pdX8_nameOf ⟨rfl, rfl, Nat.le_of_ble_eq_true rfl, Nat.le_of_ble_eq_true rfl⟩ hK hZ hP hD hS hA rfl hl.1 rfl (Nat.le_of_ble_eq_true rfl) dX8_text_184 rfl (fun H locs hP hD hS => ?_)
          refine lv_if_lt (tgt := 214) hx hb dX8_text_187 (by decide) (fun hc28 => ?_) (fun hc28 => ?_)
          · have hf := ip_el hc28 hf
            refine lv_iload hx hb dX8_text_214 (lv_at hl 0 rfl) ?_
            refine lv_bipush (v := 33) hx hb dX8_text_216 (by decide) ?_
            refine lv_icmp_eq (tgt := 235) hx hb dX8_text_218 (by decide) (fun hc29 => ?_) (fun hc29 => ?_)
            · have hf := ip_el hc29 hf
              refine lv_iconst (v := 1) hx hb dX8_text_235 (by decide) ?_
              refine lv_goto (tgt := 240) hx hb dX8_text_236 (by decide) ?_
              exact h240 k41 hk41 y1 y2 y3 v21 1 M _ _ _ hP hD hS (lv_sub hl [1, 2, 3, 4, 0] rfl) hf
            · have hf := in_el hc29 hf
              refine lv_iload hx hb dX8_text_221 (lv_at hl 0 rfl) ?_
              refine lv_bipush (v := 45) hx hb dX8_text_223 (by decide) ?_
              refine lv_icmp_eq (tgt := 235) hx hb dX8_text_225 (by decide) (fun hc36 => ?_) (fun hc36 => ?_)
              · have hf := ip_el hc36 hf
                refine lv_iconst (v := 1) hx hb dX8_text_235 (by decide) ?_
                refine lv_goto (tgt := 240) hx hb dX8_text_236 (by decide) ?_
                exact h240 k41 hk41 y1 y2 y3 v21 1 M _ _ _ hP hD hS (lv_sub hl [1, 2, 3, 4, 0] rfl) hf
              · have hf := in_el hc36 hf
                refine lv_iload hx hb dX8_text_228 (lv_at hl 0 rfl) ?_
                refine lv_bipush (v := 40) hx hb dX8_text_230 (by decide) ?_
                refine lv_icmp_ne (tgt := 239) hx hb dX8_text_232 (by decide) (fun hc37 => ?_) (fun hc37 => ?_)
                · have hf := in_el hc37 hf
                  refine lv_iconst (v := 0) hx hb dX8_text_239 (by decide) ?_
                  exact h240 k41 hk41 y1 y2 y3 v21 0 M _ _ _ hP hD hS (lv_sub hl [1, 2, 3, 4, 0] rfl) hf
                · have hf := ip_el hc37 hf
                  refine lv_iconst (v := 1) hx hb dX8_text_235 (by decide) ?_
                  refine lv_goto (tgt := 240) hx hb dX8_text_236 (by decide) ?_
                  exact h240 k41 hk41 y1 y2 y3 v21 1 M _ _ _ hP hD hS (lv_sub hl [1, 2, 3, 4, 0] rfl) hf
          · have hf := in_el hc28 hf
            refine lv_aload_n hx hb dX8_text_190 rfl (lv_at hl 1 rfl) ?_
            refine lv_bipush (v := (-10)) hx hb dX8_text_191 (by decide) ?_
            refine lv_iload hx hb dX8_text_193 (lv_at hl 0 rfl) ?_
            obtain ⟨r38, hg39, hf⟩ := b1_el hf
            refine cc_S0 (st1 := [.int r38, .int (-10), .ref (a 0)]) [.int v21] hx hb hml hown hu (tX8_nameOf l D cs v21 r38 hg39) q1275 q62 q1273 q1274 pdX8_nameOf ⟨rfl, rfl, Nat.le_of_ble_eq_true rfl, Nat.le_of_ble_eq_true rfl⟩ hK hZ hP hD hS hA rfl hl.1 rfl (Nat.le_of_ble_eq_true rfl) dX8_text_195 rfl (fun H locs hP hD hS => ?_)
            refine lv_isub hx hb dX8_text_198 ?_
            obtain ⟨M_40, hg41, hf⟩ := b1_el hf
            refine cc_V1 (w' := (kX8 cs a (.ref (nn 0)) M_40)) (st1 := []) [.int ((-10) - r38)] hx hb hml hown hu (tX8_puts l D cs a nn ((-10) - r38) M M_40 hg41) q1262 q62 q1259 q1261 q47 pdX8_puts ⟨rfl, rfl, Nat.le_of_ble_eq_true rfl, Nat.le_of_ble_eq_true rfl⟩ hK hZ hP hD hS hA rfl rfl rfl rfl hl.1 rfl (Nat.le_of_ble_eq_true rfl) dX8_text_199 rfl (fun H locs hP hD hS => ?_)
            refine lv_aload_n hx hb dX8_text_202 rfl (lv_at hl 1 rfl) ?_
            obtain ⟨M_42, hg43, hf⟩ := b1_el hf
            refine cc_V1 (w' := (kX8 cs a (.ref (nn 0)) M_42)) (st1 := []) [] hx hb hml hown hu (tX8_doneAhead l D cs a nn M_40 M_42 hg43) q1266 q62 q1263 q1265 q48 pdX8_doneAhead ⟨rfl, rfl, Nat.le_of_ble_eq_true rfl, Nat.le_of_ble_eq_true rfl⟩ hK hZ hP hD hS hA rfl rfl rfl rfl hl.1 rfl (Nat.le_of_ble_eq_true rfl) dX8_text_203 rfl (fun H locs hP hD hS => ?_)
            refine lv_iconst (v := 1) hx hb dX8_text_206 (by decide) ?_
            refine lv_istore_n (lv' := [(2, .int 1), (4, .int v21), (0, .ref (a 0)), (1, .int y1), (3, .int y3)]) hx hb dX8_text_207 rfl hl (by decide) rfl (fun ls hl => ?_)
            obtain ⟨v44, hv44, hf⟩ := lt_el hf
            refine lv_iinc (v := v44) (lv' := [(3, .int v44), (2, .int 1), (4, .int v21), (0, .ref (a 0)), (1, .int y1)]) hx hb dX8_text_208 hl (k := 4) rfl (by rw [hv44]; rfl) (by decide) rfl (fun ls hl => ?_)
            refine lv_goto (tgt := 263) hx hb dX8_text_211 (by decide) ?_
            refine lv_goto (tgt := 41) hx hb dX8_text_263 (by decide) ?_
            exact hk41 y1 1 v44 M_42 _ _ _ hP hD hS (lv_sub hl [3, 4, 1, 0] rfl) hf
        · have hf := in_el hc25 hf
          refine lv_iconst (v := 0) hx hb dX8_text_105 (by decide) ?_
          refine lv_istore (lv' := [(5, .int 0), (4, .int v21), (0, .ref (a 0)), (1, .int y1), (2, .int y2), (3, .int y3)]) hx hb dX8_text_106 hl (by decide) rfl (fun ls hl => ?_)
          refine lv_iconst (v := 0) hx hb dX8_text_108 (by decide) ?_
          refine lv_istore (lv' := [(6, .int 0), (5, .int 0), (4, .int v21), (0, .ref (a 0)), (1, .int y1), (2, .int y2), (3, .int y3)]) hx hb dX8_text_109 hl (by decide) rfl (fun ls hl => ?_)
          exact h111 k41 hk41 400 y1 y3 0 0 M _ _ _ hP hD hS (lv_sub hl [3, 4, 6, 1, 0] rfl) hf
      · have hf := in_el hc22 hf
        refine lv_aload_n hx hb dX8_text_58 rfl (lv_at hl 1 rfl) ?_
        refine lv_iload hx hb dX8_text_59 (lv_at hl 0 rfl) ?_
        obtain ⟨r59, M_60, hg61, hf⟩ := b2_el hf
        refine cc_V1 (w' := (kX8 cs a (.ref (nn 0)) M_60)) (st1 := [.int r59]) [.int v21] hx hb hml hown hu (tX8_isSignRead l D cs a nn v21 M r59 M_60 hg61) q1251 q62 q1248 q1250 q45 pdX8_isSignRead ⟨rfl, rfl, Nat.le_of_ble_eq_true rfl, Nat.le_of_ble_eq_true rfl⟩ hK hZ hP hD hS hA rfl rfl rfl rfl hl.1 rfl (Nat.le_of_ble_eq_true rfl) dX8_text_61 rfl (fun H locs hP hD hS => ?_)
        refine lv_if_ne (tgt := 71) hx hb dX8_text_64 (by decide) (fun hc62 => ?_) (fun hc62 => ?_)
        · have hf := in_el hc62 hf
          refine lv_iload hx hb dX8_text_71 (lv_at hl 0 rfl) ?_
          refine lv_bipush (v := 41) hx hb dX8_text_73 (by decide) ?_
          refine lv_icmp_ne (tgt := 82) hx hb dX8_text_75 (by decide) (fun hc63 => ?_) (fun hc63 => ?_)
          · have hf := in_el hc63 hf
            refine lv_iconst (v := 0) hx hb dX8_text_82 (by decide) ?_
            refine lv_istore_n (lv' := [(2, .int 0), (4, .int v21), (0, .ref (a 0)), (1, .int y1), (3, .int y3)]) hx hb dX8_text_83 rfl hl (by decide) rfl (fun ls hl => ?_)
            obtain ⟨v64, hv64, hf⟩ := lt_el hf
            refine lv_iinc (v := v64) (lv' := [(3, .int v64), (2, .int 0), (4, .int v21), (0, .ref (a 0)), (1, .int y1)]) hx hb dX8_text_84 hl (k := 4) rfl (by rw [hv64]; rfl) (by decide) rfl (fun ls hl => ?_)
            refine lv_goto (tgt := 263) hx hb dX8_text_87 (by decide) ?_
            refine lv_goto (tgt := 41) hx hb dX8_text_263 (by decide) ?_
            exact hk41 y1 0 v64 M_60 _ _ _ hP hD hS (lv_sub hl [3, 4, 1, 0] rfl) hf
          · have hf := ip_el hc63 hf
            refine lv_iconst (v := 1) hx hb dX8_text_78 (by decide) ?_
            refine lv_goto (tgt := 83) hx hb dX8_text_79 (by decide) ?_
            refine lv_istore_n (lv' := [(2, .int 1), (4, .int v21), (0, .ref (a 0)), (1, .int y1), (3, .int y3)]) hx hb dX8_text_83 rfl hl (by decide) rfl (fun ls hl => ?_)
            obtain ⟨v65, hv65, hf⟩ := lt_el hf
            refine lv_iinc (v := v65) (lv' := [(3, .int v65), (2, .int 1), (4, .int v21), (0, .ref (a 0)), (1, .int y1)]) hx hb dX8_text_84 hl (k := 4) rfl (by rw [hv65]; rfl) (by decide) rfl (fun ls hl => ?_)
            refine lv_goto (tgt := 263) hx hb dX8_text_87 (by decide) ?_
            refine lv_goto (tgt := 41) hx hb dX8_text_263 (by decide) ?_
            exact hk41 y1 1 v65 M_60 _ _ _ hP hD hS (lv_sub hl [3, 4, 1, 0] rfl) hf
        · have hf := ip_el hc62 hf
          refine lv_iconst (v := (-1)) hx hb dX8_text_67 (by decide) ?_
          refine lv_iload_n hx hb dX8_text_68 rfl (lv_at hl 4 rfl) ?_
          refine lv_isub hx hb dX8_text_69 ?_
          have he := Option.some.inj hf
          obtain ⟨e0, e1⟩ := Prod.mk.inj he
          exact hri _ _ _ rfl (congrArg (fun z => some (Value.int z)) e0.symm) dX8_text_70 _ _ _ (by rw [e1]) hP hD hS
  have h41 : ∀ (n : Nat), ∀ (y1 : Int32) (y2 : Int32) (y3 : Int32) (M : ST) (H : Heap) (locs : List Loc) (ls : Array Slot), va_P D vwCl (kX8 cs a (.ref (nn 0)) M) H → va_D A (kX8 cs a (.ref (nn 0)) M) → va_S A s.heap H locs → lv_has ls 7 [(0, .ref (a 0)), (1, .int y1), (2, .int y2), (3, .int y3)] → fX8_text_41 n y1 y2 y3 M = some (r0, Mz) → W p l e rmX8_text s m [.ref (a 0)].toArray below meth c H locs 0 0 Q (F0 m 41 ls []) := by
    intro n
    induction n with
    | zero => intro y1 y2 y3 M H locs ls hP hD hS hl hf; exact no_el hf
    | succ n ih => intro y1 y2 y3 M H locs ls hP hD hS hl hf; exact hs41 _ ih y1 y2 y3 M _ _ _ hP hD hS hl hf
  have hl : lv_has ls0 7 [(0, .ref (a 0))] := hl0
  have hP := hP0
  have hD := hD0
  have hS := hS0
  unfold fX8_text at hf
  refine lv_aload_n hx hb dX8_text_0 rfl (lv_at hl 0 rfl) ?_
  refine va_get (D := D) (ci := 8) (v := .int (M 0 5)) (C := RX8) (T := TX8) (N := 26) hx hb hu inX8 hown hK.1 hP 0 rfl rfl 5 (by decide) (hu _ q922) (fun _ h9 => h9) rfl dX8_text_1 ?_
  obtain ⟨v1, hv1, hf⟩ := lt_el hf
  refine lv_tope hv1 ?_
  refine lv_istore_n (lv' := [(1, .int v1), (0, .ref (a 0))]) hx hb dX8_text_4 rfl hl (by decide) rfl (fun ls hl => ?_)
  refine lv_aload_n hx hb dX8_text_5 rfl (lv_at hl 1 rfl) ?_
  refine lv_iconst (v := 0) hx hb dX8_text_6 (by decide) ?_
  obtain ⟨M_2, hM_2, hf⟩ := lt_el hf
  refine va_put (D := D) (ci := 8) (v := .int 0) (ty := .int) (C := RX8) (T := TX8) (N := 26) hx hb hu inX8 tyX8 tyX8_ok nmX8 hown hK.1 hP hD hS 0 rfl rfl 5 (by decide) (hu _ q922) (fun _ h9 => h9) rfl (by decide +kernel) rfl rfl (Nat.le_of_ble_eq_true rfl) dX8_text_7 (fun H locs hP hD hS => ?_)
  have hP : va_P D vwCl (kX8 cs a (.ref (nn 0)) M_2) H := by rw [hM_2]; exact hP
  have hD : va_D A (kX8 cs a (.ref (nn 0)) M_2) := by rw [hM_2]; exact hD
  refine lv_aload_n hx hb dX8_text_10 rfl (lv_at hl 1 rfl) ?_
  refine lv_iconst (v := 0) hx hb dX8_text_11 (by decide) ?_
  obtain ⟨M_3, hM_3, hf⟩ := lt_el hf
  refine va_put (D := D) (ci := 8) (v := .int 0) (ty := .int) (C := RX8) (T := TX8) (N := 26) hx hb hu inX8 tyX8 tyX8_ok nmX8 hown hK.1 hP hD hS 0 rfl rfl 19 (by decide) (hu _ q936) (fun _ h9 => h9) rfl (by decide +kernel) rfl rfl (Nat.le_of_ble_eq_true rfl) dX8_text_12 (fun H locs hP hD hS => ?_)
  have hP : va_P D vwCl (kX8 cs a (.ref (nn 0)) M_3) H := by rw [hM_3]; exact hP
  have hD : va_D A (kX8 cs a (.ref (nn 0)) M_3) := by rw [hM_3]; exact hD
  refine lv_aload_n hx hb dX8_text_15 rfl (lv_at hl 1 rfl) ?_
  refine lv_iconst (v := 0) hx hb dX8_text_16 (by decide) ?_
  obtain ⟨M_4, hM_4, hf⟩ := lt_el hf
  refine va_put (D := D) (ci := 8) (v := .int 0) (ty := .int) (C := RX8) (T := TX8) (N := 26) hx hb hu inX8 tyX8 tyX8_ok nmX8 hown hK.1 hP hD hS 0 rfl rfl 21 (by decide) (hu _ q938) (fun _ h9 => h9) rfl (by decide +kernel) rfl rfl (Nat.le_of_ble_eq_true rfl) dX8_text_17 (fun H locs hP hD hS => ?_)
  have hP : va_P D vwCl (kX8 cs a (.ref (nn 0)) M_4) H := by rw [hM_4]; exact hP
  have hD : va_D A (kX8 cs a (.ref (nn 0)) M_4) := by rw [hM_4]; exact hD
  refine lv_aload_n hx hb dX8_text_20 rfl (lv_at hl 1 rfl) ?_
  refine lv_iconst (v := 0) hx hb dX8_text_21 (by decide) ?_
  obtain ⟨M_5, hM_5, hf⟩ := lt_el hf
  refine va_put (D := D) (ci := 8) (v := .int 0) (ty := .int) (C := RX8) (T := TX8) (N := 26) hx hb hu inX8 tyX8 tyX8_ok nmX8 hown hK.1 hP hD hS 0 rfl rfl 23 (by decide) (hu _ q940) (fun _ h9 => h9) rfl (by decide +kernel) rfl rfl (Nat.le_of_ble_eq_true rfl) dX8_text_22 (fun H locs hP hD hS => ?_)
  have hP : va_P D vwCl (kX8 cs a (.ref (nn 0)) M_5) H := by rw [hM_5]; exact hP
  have hD : va_D A (kX8 cs a (.ref (nn 0)) M_5) := by rw [hM_5]; exact hD
  refine lv_aload_n hx hb dX8_text_25 rfl (lv_at hl 1 rfl) ?_
  refine lv_iconst (v := 0) hx hb dX8_text_26 (by decide) ?_
  obtain ⟨M_6, hM_6, hf⟩ := lt_el hf
  refine va_put (D := D) (ci := 8) (v := .int 0) (ty := .int) (C := RX8) (T := TX8) (N := 26) hx hb hu inX8 tyX8 tyX8_ok nmX8 hown hK.1 hP hD hS 0 rfl rfl 24 (by decide) (hu _ q941) (fun _ h9 => h9) rfl (by decide +kernel) rfl rfl (Nat.le_of_ble_eq_true rfl) dX8_text_27 (fun H locs hP hD hS => ?_)
  have hP : va_P D vwCl (kX8 cs a (.ref (nn 0)) M_6) H := by rw [hM_6]; exact hP
  have hD : va_D A (kX8 cs a (.ref (nn 0)) M_6) := by rw [hM_6]; exact hD
  refine lv_aload_n hx hb dX8_text_30 rfl (lv_at hl 1 rfl) ?_
  refine va_get (D := D) (ci := 8) (v := .ref (a 23)) (C := RX8) (T := TX8) (N := 26) hx hb hu inX8 hown hK.1 hP 0 rfl rfl 22 (by decide) (hu _ q939) (fun _ h9 => h9) rfl dX8_text_31 ?_
  refine lv_iconst (v := 0) hx hb dX8_text_34 (by decide) ?_
  refine lv_iconst (v := 0) hx hb dX8_text_35 (by decide) ?_
  obtain ⟨hi7, hf⟩ := ck_el hf
  obtain ⟨M_8, hM_8, hf⟩ := lt_el hf
  refine va_zast hx hb hK.1 hP hD hS 13 3 rfl rfl hi7 dX8_text_36 (fun H locs hP hD hS => ?_)
  have hP : va_P D vwCl (kX8 cs a (.ref (nn 0)) M_8) H := by rw [hM_8]; exact hP
  have hD : va_D A (kX8 cs a (.ref (nn 0)) M_8) := by rw [hM_8]; exact hD
  refine lv_iconst (v := 0) hx hb dX8_text_37 (by decide) ?_
  refine lv_istore_n (lv' := [(2, .int 0), (1, .int v1), (0, .ref (a 0))]) hx hb dX8_text_38 rfl hl (by decide) rfl (fun ls hl => ?_)
  refine lv_iconst (v := 0) hx hb dX8_text_39 (by decide) ?_
  refine lv_istore_n (lv' := [(3, .int 0), (2, .int 0), (1, .int v1), (0, .ref (a 0))]) hx hb dX8_text_40 rfl hl (by decide) rfl (fun ls hl => ?_)
  exact h41 400 v1 0 0 M_8 _ _ _ hP hD hS (lv_sub hl [3, 2, 1, 0] rfl) hf

def fX8_gives_16 (M : ST) : Option (Int32 × ST) :=
  dc_b2 (fX8_finds (-1000000001) M) (fun r4 M_5 => some (r4, M_5))
def fX8_gives (x1 : Int32) (x2 : Int32) (M : ST) : Option (Int32 × ST) :=
  dc_b1 (fX8_isPerson x1 M) (fun r1 => (if r1 = 0 then fX8_gives_16 M else dc_b1 (fX8_isPerson x2 M) (fun r7 => (if r7 = 0 then fX8_gives_16 M else (if (M 1 190) = 0 then dc_b2 (fX8_finds (-1000000004) M) (fun r14 M_15 => some (r14, M_15)) else dc_b2 (fX8_givenBy x1 x2 M) (fun r11 M_12 => some (r11, M_12)))))))
abbrev rmX8_gives : Room := { frames := 3, cells := 0, slots := 0, locals := 71 }
set_option maxRecDepth 100000 in
set_option maxHeartbeats 4000000 in
theorem tX8_gives (l : Launch) (D : va_G) (cs : Nat → ClassId) (a : Nat → Nat) (nn : Nat → Nat) (x1 : Int32) (x2 : Int32) (M : ST) (r0 : Int32) (Mz : ST) (hf : fX8_gives x1 x2 M = some (r0, Mz)) : CG l yX8_gives (wsm yX8_gives cX8_gives 3 (some .int)) rmX8_gives D cs [.ref (a 0), .int x1, .int x2] (some (.int r0)) (kX8 cs a (.ref (nn 0)) M) (kX8 cs a (.ref (nn 0)) Mz) := by
  refine CG.intro (by decide) (Nat.le_of_ble_eq_true rfl) ?_
  intro p e s m below meth c A Q hx hb hml hown hu hK hZ hP0 hD0 hS0 hA hri hrz hrl hrv hra ls0 hl0
  have h16 : ∀ (M : ST) (H : Heap) (locs : List Loc) (ls : Array Slot), va_P D vwCl (kX8 cs a (.ref (nn 0)) M) H → va_D A (kX8 cs a (.ref (nn 0)) M) → va_S A s.heap H locs → lv_has ls 3 [(0, .ref (a 0))] → fX8_gives_16 M = some (r0, Mz) → W p l e rmX8_gives s m [.ref (a 0), .int x1, .int x2].toArray below meth c H locs 0 0 Q (F0 m 16 ls []) := by
    intro M H locs ls hP hD hS hl hf
    unfold fX8_gives_16 at hf
    refine lv_aload_n hx hb dX8_gives_16 rfl (lv_at hl 0 rfl) ?_
    refine lv_ldc (v := (-1000000001)) hx hb hown (hu _ q1008) dX8_gives_17 ?_
    obtain ⟨r4, M_5, hg6, hf⟩ := b2_el hf
    refine cc_V1 (w' := (kX8 cs a (.ref (nn 0)) M_5)) (st1 := [.int r4]) [.int (-1000000001)] hx hb hml hown hu (tX8_finds l D cs a nn (-1000000001) M r4 M_5 hg6) q1012 q62 q1009 q1011 q19 pdX8_finds ⟨rfl, rfl, Nat.le_of_ble_eq_true rfl, Nat.le_of_ble_eq_true rfl⟩ hK hZ hP hD hS hA rfl rfl rfl rfl hl.1 rfl (Nat.le_of_ble_eq_true rfl) dX8_gives_19 rfl (fun H locs hP hD hS => ?_)
    have he := Option.some.inj hf
    obtain ⟨e0, e1⟩ := Prod.mk.inj he
    exact hri _ _ _ rfl (congrArg (fun z => some (Value.int z)) e0.symm) dX8_gives_22 _ _ _ (by rw [e1]) hP hD hS
  have hl : lv_has ls0 3 [(0, .ref (a 0)), (1, .int x1), (2, .int x2)] := hl0
  have hP := hP0
  have hD := hD0
  have hS := hS0
  unfold fX8_gives at hf
  refine lv_aload_n hx hb dX8_gives_0 rfl (lv_at hl 0 rfl) ?_
  refine lv_iload_n hx hb dX8_gives_1 rfl (lv_at hl 1 rfl) ?_
  obtain ⟨r1, hg2, hf⟩ := b1_el hf
  refine cc_V1 (w' := (kX8 cs a (.ref (nn 0)) M)) (st1 := [.int r1]) [.int x1] hx hb hml hown hu (tX8_isPerson l D cs a nn x1 M r1 hg2) q1021 q62 q1018 q1020 q20 pdX8_isPerson ⟨rfl, rfl, Nat.le_of_ble_eq_true rfl, Nat.le_of_ble_eq_true rfl⟩ hK hZ hP hD hS hA rfl rfl rfl rfl hl.1 rfl (Nat.le_of_ble_eq_true rfl) dX8_gives_2 rfl (fun H locs hP hD hS => ?_)
  refine lv_if_eq (tgt := 16) hx hb dX8_gives_5 (by decide) (fun hc3 => ?_) (fun hc3 => ?_)
  · have hf := ip_el hc3 hf
    exact h16 M _ _ _ hP hD hS (lv_sub hl [0] rfl) hf
  · have hf := in_el hc3 hf
    refine lv_aload_n hx hb dX8_gives_8 rfl (lv_at hl 0 rfl) ?_
    refine lv_iload_n hx hb dX8_gives_9 rfl (lv_at hl 2 rfl) ?_
    obtain ⟨r7, hg8, hf⟩ := b1_el hf
    refine cc_V1 (w' := (kX8 cs a (.ref (nn 0)) M)) (st1 := [.int r7]) [.int x2] hx hb hml hown hu (tX8_isPerson l D cs a nn x2 M r7 hg8) q1021 q62 q1018 q1020 q20 pdX8_isPerson ⟨rfl, rfl, Nat.le_of_ble_eq_true rfl, Nat.le_of_ble_eq_true rfl⟩ hK hZ hP hD hS hA rfl rfl rfl rfl hl.1 rfl (Nat.le_of_ble_eq_true rfl) dX8_gives_10 rfl (fun H locs hP hD hS => ?_)
    refine lv_if_ne (tgt := 23) hx hb dX8_gives_13 (by decide) (fun hc9 => ?_) (fun hc9 => ?_)
    · have hf := in_el hc9 hf
      refine lv_aload_n hx hb dX8_gives_23 rfl (lv_at hl 0 rfl) ?_
      refine va_get (D := D) (ci := 8) (v := .ref (a 1)) (C := RX8) (T := TX8) (N := 26) hx hb hu inX8 hown hK.1 hP 0 rfl rfl 0 (by decide) (hu _ q917) (fun _ h9 => h9) rfl dX8_gives_24 ?_
      refine lv_sipush (v := 190) hx hb dX8_gives_27 (by decide) ?_
      refine ia_lit hx hb hK hP 1 190 rfl (by decide) dX8_gives_30 ?_
      refine lv_if_ne (tgt := 43) hx hb dX8_gives_31 (by decide) (fun hc10 => ?_) (fun hc10 => ?_)
      · have hf := in_el hc10 hf
        refine lv_aload_n hx hb dX8_gives_43 rfl (lv_at hl 0 rfl) ?_
        refine lv_iload_n hx hb dX8_gives_44 rfl (lv_at hl 1 rfl) ?_
        refine lv_iload_n hx hb dX8_gives_45 rfl (lv_at hl 2 rfl) ?_
        obtain ⟨r11, M_12, hg13, hf⟩ := b2_el hf
        refine cc_V1 (w' := (kX8 cs a (.ref (nn 0)) M_12)) (st1 := [.int r11]) [.int x1, .int x2] hx hb hml hown hu (tX8_givenBy l D cs a nn x1 x2 M r11 M_12 hg13) q1062 q62 q1059 q1061 q30 pdX8_givenBy ⟨rfl, rfl, Nat.le_of_ble_eq_true rfl, Nat.le_of_ble_eq_true rfl⟩ hK hZ hP hD hS hA rfl rfl rfl rfl hl.1 rfl (Nat.le_of_ble_eq_true rfl) dX8_gives_46 rfl (fun H locs hP hD hS => ?_)
        have he := Option.some.inj hf
        obtain ⟨e0, e1⟩ := Prod.mk.inj he
        exact hri _ _ _ rfl (congrArg (fun z => some (Value.int z)) e0.symm) dX8_gives_49 _ _ _ (by rw [e1]) hP hD hS
      · have hf := ip_el hc10 hf
        refine lv_aload_n hx hb dX8_gives_34 rfl (lv_at hl 0 rfl) ?_
        refine lv_ldc (v := (-1000000004)) hx hb hown (hu _ q1195) dX8_gives_35 ?_
        obtain ⟨r14, M_15, hg16, hf⟩ := b2_el hf
        refine cc_V1 (w' := (kX8 cs a (.ref (nn 0)) M_15)) (st1 := [.int r14]) [.int (-1000000004)] hx hb hml hown hu (tX8_finds l D cs a nn (-1000000004) M r14 M_15 hg16) q1012 q62 q1009 q1011 q19 pdX8_finds ⟨rfl, rfl, Nat.le_of_ble_eq_true rfl, Nat.le_of_ble_eq_true rfl⟩ hK hZ hP hD hS hA rfl rfl rfl rfl hl.1 rfl (Nat.le_of_ble_eq_true rfl) dX8_gives_37 rfl (fun H locs hP hD hS => ?_)
        refine lv_goto (tgt := 49) hx hb dX8_gives_40 (by decide) ?_
        have he := Option.some.inj hf
        obtain ⟨e0, e1⟩ := Prod.mk.inj he
        exact hri _ _ _ rfl (congrArg (fun z => some (Value.int z)) e0.symm) dX8_gives_49 _ _ _ (by rw [e1]) hP hD hS
    · have hf := ip_el hc9 hf
      exact h16 M _ _ _ hP hD hS (lv_sub hl [0] rfl) hf

def fX8_untell (M : ST) : Option (Int32 × ST) :=
  dc_b2 (fX8_becomes 190 0 M) (fun r1 M_2 => (if r1 = 0 then some (0, M_2) else some (1, M_2)))
abbrev rmX8_untell : Room := { frames := 1, cells := 0, slots := 0, locals := 23 }
set_option maxRecDepth 100000 in
set_option maxHeartbeats 4000000 in
theorem tX8_untell (l : Launch) (D : va_G) (cs : Nat → ClassId) (a : Nat → Nat) (nn : Nat → Nat) (M : ST) (r0 : Int32) (Mz : ST) (hf : fX8_untell M = some (r0, Mz)) : CG l yX8_untell (wsm yX8_untell cX8_untell 1 (some .int)) rmX8_untell D cs [.ref (a 0)] (some (.int r0)) (kX8 cs a (.ref (nn 0)) M) (kX8 cs a (.ref (nn 0)) Mz) := by
  refine CG.intro (by decide) (Nat.le_of_ble_eq_true rfl) ?_
  intro p e s m below meth c A Q hx hb hml hown hu hK hZ hP0 hD0 hS0 hA hri hrz hrl hrv hra ls0 hl0
  have hl : lv_has ls0 1 [(0, .ref (a 0))] := hl0
  have hP := hP0
  have hD := hD0
  have hS := hS0
  unfold fX8_untell at hf
  refine lv_aload_n hx hb dX8_untell_0 rfl (lv_at hl 0 rfl) ?_
  refine lv_sipush (v := 190) hx hb dX8_untell_1 (by decide) ?_
  refine lv_iconst (v := 0) hx hb dX8_untell_4 (by decide) ?_
  obtain ⟨r1, M_2, hg3, hf⟩ := b2_el hf
  refine cc_V1 (w' := (kX8 cs a (.ref (nn 0)) M_2)) (st1 := [.int r1]) [.int 190, .int 0] hx hb hml hown hu (tX8_becomes l D cs a nn 190 0 M r1 M_2 hg3) q1093 q62 q1090 q1092 q35 pdX8_becomes ⟨rfl, rfl, Nat.le_of_ble_eq_true rfl, Nat.le_of_ble_eq_true rfl⟩ hK hZ hP hD hS hA rfl rfl rfl rfl hl.1 rfl (Nat.le_of_ble_eq_true rfl) dX8_untell_5 rfl (fun H locs hP hD hS => ?_)
  refine lv_if_ne (tgt := 15) hx hb dX8_untell_8 (by decide) (fun hc4 => ?_) (fun hc4 => ?_)
  · have hf := in_el hc4 hf
    refine lv_iconst (v := 1) hx hb dX8_untell_15 (by decide) ?_
    have he := Option.some.inj hf
    obtain ⟨e0, e1⟩ := Prod.mk.inj he
    exact hri _ _ _ rfl (congrArg (fun z => some (Value.int z)) e0.symm) dX8_untell_16 _ _ _ (by rw [e1]) hP hD hS
  · have hf := ip_el hc4 hf
    refine lv_iconst (v := 0) hx hb dX8_untell_11 (by decide) ?_
    refine lv_goto (tgt := 16) hx hb dX8_untell_12 (by decide) ?_
    have he := Option.some.inj hf
    obtain ⟨e0, e1⟩ := Prod.mk.inj he
    exact hri _ _ _ rfl (congrArg (fun z => some (Value.int z)) e0.symm) dX8_untell_16 _ _ _ (by rw [e1]) hP hD hS

def fX8_isSheet (x0 : Int32) : Option Int32 :=
  (if x0 < 0 then some 0 else (if 4 ≤ x0 then some 0 else some 1))
abbrev rmX8_isSheet : Room := { frames := 0, cells := 0, slots := 0, locals := 0 }
set_option maxRecDepth 100000 in
set_option maxHeartbeats 4000000 in
theorem tX8_isSheet (l : Launch) (D : va_G) (cs : Nat → ClassId) (x0 : Int32) (r0 : Int32) (hf : fX8_isSheet x0 = some r0) : CG l yX8_isSheet (wsm yX8_isSheet cX8_isSheet 1 (some .boolean)) rmX8_isSheet D cs [.int x0] (some (.int r0)) ([] : va_W) ([] : va_W) := by
  refine CG.intro (by decide) (Nat.le_of_ble_eq_true rfl) ?_
  intro p e s m below meth c A Q hx hb hml hown hu hK hZ hP0 hD0 hS0 hA hri hrz hrl hrv hra ls0 hl0
  have hl : lv_has ls0 1 [(0, .int x0)] := hl0
  have hP := hP0
  have hD := hD0
  have hS := hS0
  unfold fX8_isSheet at hf
  refine lv_iload_n hx hb dX8_isSheet_0 rfl (lv_at hl 0 rfl) ?_
  refine lv_if_lt (tgt := 13) hx hb dX8_isSheet_1 (by decide) (fun hc1 => ?_) (fun hc1 => ?_)
  · have hf := ip_el hc1 hf
    refine lv_iconst (v := 0) hx hb dX8_isSheet_13 (by decide) ?_
    have he := Option.some.inj hf
    have e0 := he
    exact hrz _ _ _ .boolean rfl rfl (congrArg (fun z => some (Value.int z)) e0.symm) dX8_isSheet_14 _ _ _ rfl hP hD hS
  · have hf := in_el hc1 hf
    refine lv_iload_n hx hb dX8_isSheet_4 rfl (lv_at hl 0 rfl) ?_
    refine lv_iconst (v := 4) hx hb dX8_isSheet_5 (by decide) ?_
    refine lv_icmp_ge (tgt := 13) hx hb dX8_isSheet_6 (by decide) (fun hc2 => ?_) (fun hc2 => ?_)
    · have hf := ip_el hc2 hf
      refine lv_iconst (v := 0) hx hb dX8_isSheet_13 (by decide) ?_
      have he := Option.some.inj hf
      have e0 := he
      exact hrz _ _ _ .boolean rfl rfl (congrArg (fun z => some (Value.int z)) e0.symm) dX8_isSheet_14 _ _ _ rfl hP hD hS
    · have hf := in_el hc2 hf
      refine lv_iconst (v := 1) hx hb dX8_isSheet_9 (by decide) ?_
      refine lv_goto (tgt := 14) hx hb dX8_isSheet_10 (by decide) ?_
      have he := Option.some.inj hf
      have e0 := he
      exact hrz _ _ _ .boolean rfl rfl (congrArg (fun z => some (Value.int z)) e0.symm) dX8_isSheet_14 _ _ _ rfl hP hD hS

def fX8_narrow (x0 : Int32) (x1 : Int64) : Option Int64 :=
  (if x0 = 8 then some (((x1.toInt32).toInt8.toInt32).toInt64) else (if x0 = 16 then some (((x1.toInt32).toInt16.toInt32).toInt64) else some x1))
abbrev rmX8_narrow : Room := { frames := 0, cells := 0, slots := 0, locals := 0 }
set_option maxRecDepth 100000 in
set_option maxHeartbeats 4000000 in
theorem tX8_narrow (l : Launch) (D : va_G) (cs : Nat → ClassId) (x0 : Int32) (x1 : Int64) (r0 : Int64) (hf : fX8_narrow x0 x1 = some r0) : CG l yX8_narrow (wsm yX8_narrow cX8_narrow 3 (some .long)) rmX8_narrow D cs [.int x0, .long x1] (some (.long r0)) ([] : va_W) ([] : va_W) := by
  refine CG.intro (by decide) (Nat.le_of_ble_eq_true rfl) ?_
  intro p e s m below meth c A Q hx hb hml hown hu hK hZ hP0 hD0 hS0 hA hri hrz hrl hrv hra ls0 hl0
  have hl : lv_has ls0 3 [(0, .int x0), (1, .long x1)] := hl0
  have hP := hP0
  have hD := hD0
  have hS := hS0
  unfold fX8_narrow at hf
  refine lv_iload_n hx hb dX8_narrow_0 rfl (lv_at hl 0 rfl) ?_
  refine lv_bipush (v := 8) hx hb dX8_narrow_1 (by decide) ?_
  refine lv_icmp_ne (tgt := 13) hx hb dX8_narrow_3 (by decide) (fun hc1 => ?_) (fun hc1 => ?_)
  · have hf := in_el hc1 hf
    refine lv_iload_n hx hb dX8_narrow_13 rfl (lv_at hl 0 rfl) ?_
    refine lv_bipush (v := 16) hx hb dX8_narrow_14 (by decide) ?_
    refine lv_icmp_ne (tgt := 26) hx hb dX8_narrow_16 (by decide) (fun hc2 => ?_) (fun hc2 => ?_)
    · have hf := in_el hc2 hf
      refine lv_lload_n hx hb dX8_narrow_26 rfl (lv_at hl 1 rfl) ?_
      have he := Option.some.inj hf
      have e0 := he
      exact hrl _ _ _ rfl (congrArg (fun z => some (Value.long z)) e0.symm) dX8_narrow_27 _ _ _ rfl hP hD hS
    · have hf := ip_el hc2 hf
      refine lv_lload_n hx hb dX8_narrow_19 rfl (lv_at hl 1 rfl) ?_
      refine lv_l2i (v := (x1.toInt32)) hx hb dX8_narrow_20 rfl ?_
      refine lv_i2s (v := ((x1.toInt32).toInt16.toInt32)) hx hb dX8_narrow_21 rfl ?_
      refine lv_i2l (v := (((x1.toInt32).toInt16.toInt32).toInt64)) hx hb dX8_narrow_22 rfl ?_
      refine lv_goto (tgt := 27) hx hb dX8_narrow_23 (by decide) ?_
      have he := Option.some.inj hf
      have e0 := he
      exact hrl _ _ _ rfl (congrArg (fun z => some (Value.long z)) e0.symm) dX8_narrow_27 _ _ _ rfl hP hD hS
  · have hf := ip_el hc1 hf
    refine lv_lload_n hx hb dX8_narrow_6 rfl (lv_at hl 1 rfl) ?_
    refine lv_l2i (v := (x1.toInt32)) hx hb dX8_narrow_7 rfl ?_
    refine lv_i2b (v := ((x1.toInt32).toInt8.toInt32)) hx hb dX8_narrow_8 rfl ?_
    refine lv_i2l (v := (((x1.toInt32).toInt8.toInt32).toInt64)) hx hb dX8_narrow_9 rfl ?_
    refine lv_goto (tgt := 27) hx hb dX8_narrow_10 (by decide) ?_
    have he := Option.some.inj hf
    have e0 := he
    exact hrl _ _ _ rfl (congrArg (fun z => some (Value.long z)) e0.symm) dX8_narrow_27 _ _ _ rfl hP hD hS

def fX8_sheet_29 (M : ST) (N : LT) : Option (Int32 × ST × LT) :=
  dc_b2 (fX8_finds (-1000000001) M) (fun r4 M_5 => some (r4, M_5, N))
def fX8_sheet_94_s (k94 : Int32 → Int32 → ST → LT → Option (Int32 × ST × LT)) (y1 : Int32) (y4 : Int32) (M : ST) (N : LT) : Option (Int32 × ST × LT) :=
  (if 40 ≤ y4 then dc_ck y1 4 (some ((M 8 (Int32.toNatClampNeg y1)), M, N)) else dc_ck ((40 * y1) + y4) 160 (dc_lt (vp_updL N (Int32.toNatClampNeg ((40 * y1) + y4)) 0) (fun N_19 => dc_lt (y4 + 1) (fun v20 => k94 y1 v20 M N_19))))
def fX8_sheet_94 : Nat → Int32 → Int32 → ST → LT → Option (Int32 × ST × LT)
  | 0 => fun _ _ _ _ => none
  | n + 1 => fX8_sheet_94_s (fX8_sheet_94 n)
def fX8_sheet_75 (y1 : Int32) (y2 : Int32) (y3 : Int32) (s0 : Int32) (s1 : Int32) (M : ST) (N : LT) : Option (Int32 × ST × LT) :=
  dc_ck s1 4 (dc_lt (sti M 7 (Int32.toNatClampNeg s1) s0) (fun M_12 => (if y2 = 0 then dc_ck y1 4 (dc_lt (sti M_12 8 (Int32.toNatClampNeg y1) 0) (fun M_22 => fX8_sheet_94 400 y1 0 M_22 N)) else dc_ck y1 4 (dc_lt (sti M_12 8 (Int32.toNatClampNeg y1) y3) (fun M_15 => fX8_sheet_94 400 y1 0 M_15 N)))))
def fX8_sheet_36 (y1 : Int32) (y2 : Int32) (y3 : Int32) (M : ST) (N : LT) : Option (Int32 × ST × LT) :=
  (if 0 ≤ y3 then (if y3 ≤ 40 then (if y2 = 0 then fX8_sheet_75 y1 y2 y3 (-1) y1 M N else fX8_sheet_75 y1 y2 y3 y2 y1 M N) else dc_b2 (fX8_finds (-1000000001) M) (fun r23 M_24 => some (r23, M_24, N))) else dc_b2 (fX8_finds (-1000000007) M) (fun r26 M_27 => some (r26, M_27, N)))
def fX8_sheet (x1 : Int32) (x2 : Int32) (x3 : Int32) (M : ST) (N : LT) : Option (Int32 × ST × LT) :=
  dc_b1 (fX8_isSheet x1) (fun r1 => (if r1 = 0 then fX8_sheet_29 M N else (if x2 = 0 then fX8_sheet_36 x1 x2 x3 M N else (if x2 = 8 then fX8_sheet_36 x1 x2 x3 M N else (if x2 = 16 then fX8_sheet_36 x1 x2 x3 M N else (if x2 = 64 then fX8_sheet_36 x1 x2 x3 M N else fX8_sheet_29 M N))))))
abbrev rmX8_sheet : Room := { frames := 1, cells := 0, slots := 0, locals := 21 }
set_option maxRecDepth 100000 in
set_option maxHeartbeats 4000000 in
theorem tX8_sheet (l : Launch) (D : va_G) (cs : Nat → ClassId) (a : Nat → Nat) (nn : Nat → Nat) (x1 : Int32) (x2 : Int32) (x3 : Int32) (M : ST) (N : LT) (r0 : Int32) (Mz : ST) (Nz : LT) (hf : fX8_sheet x1 x2 x3 M N = some (r0, Mz, Nz)) : CG l yX8_sheet (wsm yX8_sheet cX8_sheet 5 (some .int)) rmX8_sheet D cs [.ref (a 0), .int x1, .int x2, .int x3] (some (.int r0)) ((kX8 cs a (.ref (nn 0)) M) ++ ((kJ160 cs nn N))) ((kX8 cs a (.ref (nn 0)) Mz) ++ ((kJ160 cs nn Nz))) := by
  refine CG.intro (by decide) (Nat.le_of_ble_eq_true rfl) ?_
  intro p e s m below meth c A Q hx hb hml hown hu hK hZ hP0 hD0 hS0 hA hri hrz hrl hrv hra ls0 hl0
  have h29 : ∀ (M : ST) (N : LT) (H : Heap) (locs : List Loc) (ls : Array Slot), va_P D vwCl ((kX8 cs a (.ref (nn 0)) M) ++ ((kJ160 cs nn N))) H → va_D A ((kX8 cs a (.ref (nn 0)) M) ++ ((kJ160 cs nn N))) → va_S A s.heap H locs → lv_has ls 5 [(0, .ref (a 0))] → fX8_sheet_29 M N = some (r0, Mz, Nz) → W p l e rmX8_sheet s m [.ref (a 0), .int x1, .int x2, .int x3].toArray below meth c H locs 0 0 Q (F0 m 29 ls []) := by
    intro M N H locs ls hP hD hS hl hf
    unfold fX8_sheet_29 at hf
    refine lv_aload_n hx hb dX8_sheet_29 rfl (lv_at hl 0 rfl) ?_
    refine lv_ldc (v := (-1000000001)) hx hb hown (hu _ q1008) dX8_sheet_30 ?_
    obtain ⟨r4, M_5, hg6, hf⟩ := b2_el hf
    refine cc_V (w' := ((kX8 cs a (.ref (nn 0)) M_5) ++ ((kJ160 cs nn N)))) (wr := (kJ160 cs nn N)) (st1 := [.int r4]) [.int (-1000000001)] hx hb hml hown hu (tX8_finds l D cs a nn (-1000000001) M r4 M_5 hg6) q1012 q62 q1009 q1011 q19 pdX8_finds ⟨rfl, rfl, Nat.le_of_ble_eq_true rfl, Nat.le_of_ble_eq_true rfl⟩ hK hZ hP hD hS hA [0, 1, 2, 3, 4, 5, 6, 7, 8, 9, 10, 11, 12, 13, 14] [15] [1, 2, 3, 4, 5, 6, 7, 8, 9, 10, 11, 12, 13, 14, 15, 0] rfl rfl rfl rfl rfl rfl rfl rfl rfl rfl hl.1 rfl (Nat.le_of_ble_eq_true rfl) dX8_sheet_32 rfl (fun H locs hP hD hS => ?_)
    have he := Option.some.inj hf
    obtain ⟨e0, ht0⟩ := Prod.mk.inj he
    obtain ⟨e1, e2⟩ := Prod.mk.inj ht0
    exact hri _ _ _ rfl (congrArg (fun z => some (Value.int z)) e0.symm) dX8_sheet_35 _ _ _ (by rw [e1, e2]) hP hD hS
  have hs94 : ∀ (k94 : Int32 → Int32 → ST → LT → Option (Int32 × ST × LT)), (∀ (y1 : Int32) (y4 : Int32) (M : ST) (N : LT) (H : Heap) (locs : List Loc) (ls : Array Slot), va_P D vwCl ((kX8 cs a (.ref (nn 0)) M) ++ ((kJ160 cs nn N))) H → va_D A ((kX8 cs a (.ref (nn 0)) M) ++ ((kJ160 cs nn N))) → va_S A s.heap H locs → lv_has ls 5 [(0, .ref (a 0)), (1, .int y1), (4, .int y4)] → k94 y1 y4 M N = some (r0, Mz, Nz) → W p l e rmX8_sheet s m [.ref (a 0), .int x1, .int x2, .int x3].toArray below meth c H locs 0 0 Q (F0 m 94 ls [])) → ∀ (y1 : Int32) (y4 : Int32) (M : ST) (N : LT) (H : Heap) (locs : List Loc) (ls : Array Slot), va_P D vwCl ((kX8 cs a (.ref (nn 0)) M) ++ ((kJ160 cs nn N))) H → va_D A ((kX8 cs a (.ref (nn 0)) M) ++ ((kJ160 cs nn N))) → va_S A s.heap H locs → lv_has ls 5 [(0, .ref (a 0)), (1, .int y1), (4, .int y4)] → fX8_sheet_94_s k94 y1 y4 M N = some (r0, Mz, Nz) → W p l e rmX8_sheet s m [.ref (a 0), .int x1, .int x2, .int x3].toArray below meth c H locs 0 0 Q (F0 m 94 ls []) := by
    intro k94 hk94 y1 y4 M N H locs ls hP hD hS hl hf
    unfold fX8_sheet_94_s at hf
    refine lv_iload hx hb dX8_sheet_94 (lv_at hl 2 rfl) ?_
    refine lv_bipush (v := 40) hx hb dX8_sheet_96 (by decide) ?_
    refine lv_icmp_ge (tgt := 120) hx hb dX8_sheet_98 (by decide) (fun hc16 => ?_) (fun hc16 => ?_)
    · have hf := ip_el hc16 hf
      refine lv_aload_n hx hb dX8_sheet_120 rfl (lv_at hl 0 rfl) ?_
      refine va_get (D := D) (ci := 8) (v := .ref (a 8)) (C := RX8) (T := TX8) (N := 26) hx hb hu inX8 hown hK.1 hP 0 rfl rfl 7 (by decide) (hu _ q924) (fun _ h9 => h9) rfl dX8_sheet_121 ?_
      refine lv_iload_n hx hb dX8_sheet_124 rfl (lv_at hl 1 rfl) ?_
      obtain ⟨hi17, hf⟩ := ck_el hf
      refine va_iald hx hb hK.1 hP 6 0 rfl rfl hi17 dX8_sheet_125 ?_
      have he := Option.some.inj hf
      obtain ⟨e0, ht0⟩ := Prod.mk.inj he
      obtain ⟨e1, e2⟩ := Prod.mk.inj ht0
      exact hri _ _ _ rfl (congrArg (fun z => some (Value.int z)) e0.symm) dX8_sheet_126 _ _ _ (by rw [e1, e2]) hP hD hS
    · have hf := in_el hc16 hf
      refine lv_aload_n hx hb dX8_sheet_101 rfl (lv_at hl 0 rfl) ?_
      refine va_get (D := D) (ci := 8) (v := .ref (nn 0)) (C := RX8) (T := TX8) (N := 26) hx hb hu inX8 hown hK.1 hP 0 rfl rfl 8 (by decide) (hu _ q925) (fun _ h9 => h9) rfl dX8_sheet_102 ?_
      refine lv_bipush (v := 40) hx hb dX8_sheet_105 (by decide) ?_
      refine lv_iload_n hx hb dX8_sheet_107 rfl (lv_at hl 1 rfl) ?_
      refine lv_imul hx hb dX8_sheet_108 ?_
      refine lv_iload hx hb dX8_sheet_109 (lv_at hl 2 rfl) ?_
      refine lv_iadd hx hb dX8_sheet_111 ?_
      refine lv_lconst (v := 0) hx hb dX8_sheet_112 (by decide) ?_
      obtain ⟨hi18, hf⟩ := ck_el hf
      obtain ⟨N_19, hN_19, hf⟩ := lt_el hf
      refine va_last hx hb hK.1 hP hD hS 15 1 rfl rfl hi18 dX8_sheet_113 (fun H locs hP hD hS => ?_)
      have hP : va_P D vwCl ((kX8 cs a (.ref (nn 0)) M) ++ ((kJ160 cs nn N_19))) H := by rw [hN_19]; exact hP
      have hD : va_D A ((kX8 cs a (.ref (nn 0)) M) ++ ((kJ160 cs nn N_19))) := by rw [hN_19]; exact hD
      obtain ⟨v20, hv20, hf⟩ := lt_el hf
      refine lv_iinc (v := v20) (lv' := [(4, .int v20), (0, .ref (a 0)), (1, .int y1)]) hx hb dX8_sheet_114 hl (k := 2) rfl (by rw [hv20]; rfl) (by decide) rfl (fun ls hl => ?_)
      refine lv_goto (tgt := 94) hx hb dX8_sheet_117 (by decide) ?_
      exact hk94 y1 v20 M N_19 _ _ _ hP hD hS (lv_sub hl [1, 2, 0] rfl) hf
  have h94 : ∀ (n : Nat), ∀ (y1 : Int32) (y4 : Int32) (M : ST) (N : LT) (H : Heap) (locs : List Loc) (ls : Array Slot), va_P D vwCl ((kX8 cs a (.ref (nn 0)) M) ++ ((kJ160 cs nn N))) H → va_D A ((kX8 cs a (.ref (nn 0)) M) ++ ((kJ160 cs nn N))) → va_S A s.heap H locs → lv_has ls 5 [(0, .ref (a 0)), (1, .int y1), (4, .int y4)] → fX8_sheet_94 n y1 y4 M N = some (r0, Mz, Nz) → W p l e rmX8_sheet s m [.ref (a 0), .int x1, .int x2, .int x3].toArray below meth c H locs 0 0 Q (F0 m 94 ls []) := by
    intro n
    induction n with
    | zero => intro y1 y4 M N H locs ls hP hD hS hl hf; exact no_el hf
    | succ n ih => intro y1 y4 M N H locs ls hP hD hS hl hf; exact hs94 _ ih y1 y4 M N _ _ _ hP hD hS hl hf
  have h75 : ∀ (y1 : Int32) (y2 : Int32) (y3 : Int32) (s0 : Int32) (s1 : Int32) (M : ST) (N : LT) (H : Heap) (locs : List Loc) (ls : Array Slot), va_P D vwCl ((kX8 cs a (.ref (nn 0)) M) ++ ((kJ160 cs nn N))) H → va_D A ((kX8 cs a (.ref (nn 0)) M) ++ ((kJ160 cs nn N))) → va_S A s.heap H locs → lv_has ls 5 [(0, .ref (a 0)), (1, .int y1), (2, .int y2), (3, .int y3)] → fX8_sheet_75 y1 y2 y3 s0 s1 M N = some (r0, Mz, Nz) → W p l e rmX8_sheet s m [.ref (a 0), .int x1, .int x2, .int x3].toArray below meth c H locs 0 0 Q (F0 m 75 ls [.int s0, .int s1, .ref (a 7)]) := by
    intro y1 y2 y3 s0 s1 M N H locs ls hP hD hS hl hf
    unfold fX8_sheet_75 at hf
    obtain ⟨hi11, hf⟩ := ck_el hf
    obtain ⟨M_12, hM_12, hf⟩ := lt_el hf
    refine va_iast hx hb hK.1 hP hD hS 5 0 rfl rfl hi11 dX8_sheet_75 (fun H locs hP hD hS => ?_)
    have hP : va_P D vwCl ((kX8 cs a (.ref (nn 0)) M_12) ++ ((kJ160 cs nn N))) H := by rw [hM_12]; exact hP
    have hD : va_D A ((kX8 cs a (.ref (nn 0)) M_12) ++ ((kJ160 cs nn N))) := by rw [hM_12]; exact hD
    refine lv_aload_n hx hb dX8_sheet_76 rfl (lv_at hl 0 rfl) ?_
    refine va_get (D := D) (ci := 8) (v := .ref (a 8)) (C := RX8) (T := TX8) (N := 26) hx hb hu inX8 hown hK.1 hP 0 rfl rfl 7 (by decide) (hu _ q924) (fun _ h9 => h9) rfl dX8_sheet_77 ?_
    refine lv_iload_n hx hb dX8_sheet_80 rfl (lv_at hl 1 rfl) ?_
    refine lv_iload_n hx hb dX8_sheet_81 rfl (lv_at hl 2 rfl) ?_
    refine lv_if_ne (tgt := 89) hx hb dX8_sheet_82 (by decide) (fun hc13 => ?_) (fun hc13 => ?_)
    · have hf := in_el hc13 hf
      refine lv_iload_n hx hb dX8_sheet_89 rfl (lv_at hl 3 rfl) ?_
      obtain ⟨hi14, hf⟩ := ck_el hf
      obtain ⟨M_15, hM_15, hf⟩ := lt_el hf
      refine va_iast hx hb hK.1 hP hD hS 6 0 rfl rfl hi14 dX8_sheet_90 (fun H locs hP hD hS => ?_)
      have hP : va_P D vwCl ((kX8 cs a (.ref (nn 0)) M_15) ++ ((kJ160 cs nn N))) H := by rw [hM_15]; exact hP
      have hD : va_D A ((kX8 cs a (.ref (nn 0)) M_15) ++ ((kJ160 cs nn N))) := by rw [hM_15]; exact hD
      refine lv_iconst (v := 0) hx hb dX8_sheet_91 (by decide) ?_
      refine lv_istore (lv' := [(4, .int 0), (0, .ref (a 0)), (1, .int y1), (2, .int y2), (3, .int y3)]) hx hb dX8_sheet_92 hl (by decide) rfl (fun ls hl => ?_)
      exact h94 400 y1 0 M_15 N _ _ _ hP hD hS (lv_sub hl [1, 2, 0] rfl) hf
    · have hf := ip_el hc13 hf
      refine lv_iconst (v := 0) hx hb dX8_sheet_85 (by decide) ?_
      refine lv_goto (tgt := 90) hx hb dX8_sheet_86 (by decide) ?_
      obtain ⟨hi21, hf⟩ := ck_el hf
      obtain ⟨M_22, hM_22, hf⟩ := lt_el hf
      refine va_iast hx hb hK.1 hP hD hS 6 0 rfl rfl hi21 dX8_sheet_90 (fun H locs hP hD hS => ?_)
      have hP : va_P D vwCl ((kX8 cs a (.ref (nn 0)) M_22) ++ ((kJ160 cs nn N))) H := by rw [hM_22]; exact hP
      have hD : va_D A ((kX8 cs a (.ref (nn 0)) M_22) ++ ((kJ160 cs nn N))) := by rw [hM_22]; exact hD
      refine lv_iconst (v := 0) hx hb dX8_sheet_91 (by decide) ?_
      refine lv_istore (lv' := [(4, .int 0), (0, .ref (a 0)), (1, .int y1), (2, .int y2), (3, .int y3)]) hx hb dX8_sheet_92 hl (by decide) rfl (fun ls hl => ?_)
      exact h94 400 y1 0 M_22 N _ _ _ hP hD hS (lv_sub hl [1, 2, 0] rfl) hf
  have h36 : ∀ (y1 : Int32) (y2 : Int32) (y3 : Int32) (M : ST) (N : LT) (H : Heap) (locs : List Loc) (ls : Array Slot), va_P D vwCl ((kX8 cs a (.ref (nn 0)) M) ++ ((kJ160 cs nn N))) H → va_D A ((kX8 cs a (.ref (nn 0)) M) ++ ((kJ160 cs nn N))) → va_S A s.heap H locs → lv_has ls 5 [(0, .ref (a 0)), (1, .int y1), (2, .int y2), (3, .int y3)] → fX8_sheet_36 y1 y2 y3 M N = some (r0, Mz, Nz) → W p l e rmX8_sheet s m [.ref (a 0), .int x1, .int x2, .int x3].toArray below meth c H locs 0 0 Q (F0 m 36 ls []) := by
    intro y1 y2 y3 M N H locs ls hP hD hS hl hf
    unfold fX8_sheet_36 at hf
    refine lv_iload_n hx hb dX8_sheet_36 rfl (lv_at hl 3 rfl) ?_
    refine lv_if_ge (tgt := 48) hx hb dX8_sheet_37 (by decide) (fun hc8 => ?_) (fun hc8 => ?_)
    · have hf := ip_el hc8 hf
      refine lv_iload_n hx hb dX8_sheet_48 rfl (lv_at hl 3 rfl) ?_
      refine lv_bipush (v := 40) hx hb dX8_sheet_49 (by decide) ?_
      refine lv_icmp_le (tgt := 61) hx hb dX8_sheet_51 (by decide) (fun hc9 => ?_) (fun hc9 => ?_)
      · have hf := ip_el hc9 hf
        refine lv_aload_n hx hb dX8_sheet_61 rfl (lv_at hl 0 rfl) ?_
        refine va_get (D := D) (ci := 8) (v := .ref (a 7)) (C := RX8) (T := TX8) (N := 26) hx hb hu inX8 hown hK.1 hP 0 rfl rfl 6 (by decide) (hu _ q923) (fun _ h9 => h9) rfl dX8_sheet_62 ?_
        refine lv_iload_n hx hb dX8_sheet_65 rfl (lv_at hl 1 rfl) ?_
        refine lv_iload_n hx hb dX8_sheet_66 rfl (lv_at hl 2 rfl) ?_
        refine lv_if_ne (tgt := 74) hx hb dX8_sheet_67 (by decide) (fun hc10 => ?_) (fun hc10 => ?_)
        · have hf := in_el hc10 hf
          refine lv_iload_n hx hb dX8_sheet_74 rfl (lv_at hl 2 rfl) ?_
          exact h75 y1 y2 y3 y2 y1 M N _ _ _ hP hD hS (lv_sub hl [0, 1, 2, 3] rfl) hf
        · have hf := ip_el hc10 hf
          refine lv_iconst (v := (-1)) hx hb dX8_sheet_70 (by decide) ?_
          refine lv_goto (tgt := 75) hx hb dX8_sheet_71 (by decide) ?_
          exact h75 y1 y2 y3 (-1) y1 M N _ _ _ hP hD hS (lv_sub hl [0, 1, 2, 3] rfl) hf
      · have hf := in_el hc9 hf
        refine lv_aload_n hx hb dX8_sheet_54 rfl (lv_at hl 0 rfl) ?_
        refine lv_ldc (v := (-1000000001)) hx hb hown (hu _ q1008) dX8_sheet_55 ?_
        obtain ⟨r23, M_24, hg25, hf⟩ := b2_el hf
        refine cc_V (w' := ((kX8 cs a (.ref (nn 0)) M_24) ++ ((kJ160 cs nn N)))) (wr := (kJ160 cs nn N)) (st1 := [.int r23]) [.int (-1000000001)] hx hb hml hown hu (tX8_finds l D cs a nn (-1000000001) M r23 M_24 hg25) q1012 q62 q1009 q1011 q19 pdX8_finds ⟨rfl, rfl, Nat.le_of_ble_eq_true rfl, Nat.le_of_ble_eq_true rfl⟩ hK hZ hP hD hS hA [0, 1, 2, 3, 4, 5, 6, 7, 8, 9, 10, 11, 12, 13, 14] [15] [1, 2, 3, 4, 5, 6, 7, 8, 9, 10, 11, 12, 13, 14, 15, 0] rfl rfl rfl rfl rfl rfl rfl rfl rfl rfl hl.1 rfl (Nat.le_of_ble_eq_true rfl) dX8_sheet_57 rfl (fun H locs hP hD hS => ?_)
        have he := Option.some.inj hf
        obtain ⟨e0, ht0⟩ := Prod.mk.inj he
        obtain ⟨e1, e2⟩ := Prod.mk.inj ht0
        exact hri _ _ _ rfl (congrArg (fun z => some (Value.int z)) e0.symm) dX8_sheet_60 _ _ _ (by rw [e1, e2]) hP hD hS
    · have hf := in_el hc8 hf
      refine lv_aload_n hx hb dX8_sheet_40 rfl (lv_at hl 0 rfl) ?_
      refine lv_ldcw (v := (-1000000007)) hx hb hown (hu _ q1295) dX8_sheet_41 ?_
      obtain ⟨r26, M_27, hg28, hf⟩ := b2_el hf
      refine cc_V (w' := ((kX8 cs a (.ref (nn 0)) M_27) ++ ((kJ160 cs nn N)))) (wr := (kJ160 cs nn N)) (st1 := [.int r26]) [.int (-1000000007)] hx hb hml hown hu (tX8_finds l D cs a nn (-1000000007) M r26 M_27 hg28) q1012 q62 q1009 q1011 q19 pdX8_finds ⟨rfl, rfl, Nat.le_of_ble_eq_true rfl, Nat.le_of_ble_eq_true rfl⟩ hK hZ hP hD hS hA [0, 1, 2, 3, 4, 5, 6, 7, 8, 9, 10, 11, 12, 13, 14] [15] [1, 2, 3, 4, 5, 6, 7, 8, 9, 10, 11, 12, 13, 14, 15, 0] rfl rfl rfl rfl rfl rfl rfl rfl rfl rfl hl.1 rfl (Nat.le_of_ble_eq_true rfl) dX8_sheet_44 rfl (fun H locs hP hD hS => ?_)
      have he := Option.some.inj hf
      obtain ⟨e0, ht0⟩ := Prod.mk.inj he
      obtain ⟨e1, e2⟩ := Prod.mk.inj ht0
      exact hri _ _ _ rfl (congrArg (fun z => some (Value.int z)) e0.symm) dX8_sheet_47 _ _ _ (by rw [e1, e2]) hP hD hS
  have hl : lv_has ls0 5 [(0, .ref (a 0)), (1, .int x1), (2, .int x2), (3, .int x3)] := hl0
  have hP := hP0
  have hD := hD0
  have hS := hS0
  unfold fX8_sheet at hf
  refine lv_iload_n hx hb dX8_sheet_0 rfl (lv_at hl 1 rfl) ?_
  obtain ⟨r1, hg2, hf⟩ := b1_el hf
  refine cc_S0 (st1 := [.int r1]) [.int x1] hx hb hml hown hu (tX8_isSheet l D cs x1 r1 hg2) q1294 q62 q1292 q1293 pdX8_isSheet ⟨rfl, rfl, Nat.le_of_ble_eq_true rfl, Nat.le_of_ble_eq_true rfl⟩ hK hZ hP hD hS hA rfl hl.1 rfl (Nat.le_of_ble_eq_true rfl) dX8_sheet_1 rfl (fun H locs hP hD hS => ?_)
  refine lv_if_eq (tgt := 29) hx hb dX8_sheet_4 (by decide) (fun hc3 => ?_) (fun hc3 => ?_)
  · have hf := ip_el hc3 hf
    exact h29 M N _ _ _ hP hD hS (lv_sub hl [0] rfl) hf
  · have hf := in_el hc3 hf
    refine lv_iload_n hx hb dX8_sheet_7 rfl (lv_at hl 2 rfl) ?_
    refine lv_if_eq (tgt := 36) hx hb dX8_sheet_8 (by decide) (fun hc7 => ?_) (fun hc7 => ?_)
    · have hf := ip_el hc7 hf
      exact h36 x1 x2 x3 M N _ _ _ hP hD hS (lv_sub hl [0, 1, 2, 3] rfl) hf
    · have hf := in_el hc7 hf
      refine lv_iload_n hx hb dX8_sheet_11 rfl (lv_at hl 2 rfl) ?_
      refine lv_bipush (v := 8) hx hb dX8_sheet_12 (by decide) ?_
      refine lv_icmp_eq (tgt := 36) hx hb dX8_sheet_14 (by decide) (fun hc29 => ?_) (fun hc29 => ?_)
      · have hf := ip_el hc29 hf
        exact h36 x1 x2 x3 M N _ _ _ hP hD hS (lv_sub hl [0, 1, 2, 3] rfl) hf
      · have hf := in_el hc29 hf
        refine lv_iload_n hx hb dX8_sheet_17 rfl (lv_at hl 2 rfl) ?_
        refine lv_bipush (v := 16) hx hb dX8_sheet_18 (by decide) ?_
        refine lv_icmp_eq (tgt := 36) hx hb dX8_sheet_20 (by decide) (fun hc30 => ?_) (fun hc30 => ?_)
        · have hf := ip_el hc30 hf
          exact h36 x1 x2 x3 M N _ _ _ hP hD hS (lv_sub hl [0, 1, 2, 3] rfl) hf
        · have hf := in_el hc30 hf
          refine lv_iload_n hx hb dX8_sheet_23 rfl (lv_at hl 2 rfl) ?_
          refine lv_bipush (v := 64) hx hb dX8_sheet_24 (by decide) ?_
          refine lv_icmp_eq (tgt := 36) hx hb dX8_sheet_26 (by decide) (fun hc31 => ?_) (fun hc31 => ?_)
          · have hf := ip_el hc31 hf
            exact h36 x1 x2 x3 M N _ _ _ hP hD hS (lv_sub hl [0, 1, 2, 3] rfl) hf
          · have hf := in_el hc31 hf
            exact h29 M N _ _ _ hP hD hS (lv_sub hl [0] rfl) hf

def fX8_write (x1 : Int32) (x2 : Int32) (x3 : Int64) (M : ST) (N : LT) : Option (Int64 × ST × LT) :=
  dc_b1 (fX8_isSheet x1) (fun r1 => (if r1 = 0 then dc_b2 (fX8_finds (-1000000001) M) (fun r23 M_24 => some ((r23.toInt64), M_24, N)) else dc_ck x1 4 ((if 0 ≤ (M 7 (Int32.toNatClampNeg x1)) then dc_ck x1 4 (dc_b1 (fX8_isIn (x2.toInt64) 0 (((M 8 (Int32.toNatClampNeg x1)) - 1).toInt64)) (fun r7 => (if r7 = 0 then dc_b2 (fX8_finds (-1000000001) M) (fun r17 M_18 => some ((r17.toInt64), M_18, N)) else dc_ck ((40 * x1) + x2) 160 (dc_lt (N (Int32.toNatClampNeg ((40 * x1) + x2))) (fun v11 => dc_ck x1 4 (dc_b1 (fX8_narrow (M 7 (Int32.toNatClampNeg x1)) x3) (fun r13 => dc_ck ((40 * x1) + x2) 160 (dc_lt (vp_updL N (Int32.toNatClampNeg ((40 * x1) + x2)) r13) (fun N_16 => some (v11, M, N_16)))))))))) else dc_b2 (fX8_finds (-1000000006) M) (fun r20 M_21 => some ((r20.toInt64), M_21, N))))))
abbrev rmX8_write : Room := { frames := 1, cells := 0, slots := 0, locals := 25 }
set_option maxRecDepth 100000 in
set_option maxHeartbeats 4000000 in
theorem tX8_write (l : Launch) (D : va_G) (cs : Nat → ClassId) (a : Nat → Nat) (nn : Nat → Nat) (x1 : Int32) (x2 : Int32) (x3 : Int64) (M : ST) (N : LT) (r0 : Int64) (Mz : ST) (Nz : LT) (hf : fX8_write x1 x2 x3 M N = some (r0, Mz, Nz)) : CG l yX8_write (wsm yX8_write cX8_write 7 (some .long)) rmX8_write D cs [.ref (a 0), .int x1, .int x2, .long x3] (some (.long r0)) ((kX8 cs a (.ref (nn 0)) M) ++ ((kJ160 cs nn N))) ((kX8 cs a (.ref (nn 0)) Mz) ++ ((kJ160 cs nn Nz))) := by
  refine CG.intro (by decide) (Nat.le_of_ble_eq_true rfl) ?_
  intro p e s m below meth c A Q hx hb hml hown hu hK hZ hP0 hD0 hS0 hA hri hrz hrl hrv hra ls0 hl0
  have hl : lv_has ls0 7 [(0, .ref (a 0)), (1, .int x1), (2, .int x2), (3, .long x3)] := hl0
  have hP := hP0
  have hD := hD0
  have hS := hS0
  unfold fX8_write at hf
  refine lv_iload_n hx hb dX8_write_0 rfl (lv_at hl 1 rfl) ?_
  obtain ⟨r1, hg2, hf⟩ := b1_el hf
  refine cc_S0 (st1 := [.int r1]) [.int x1] hx hb hml hown hu (tX8_isSheet l D cs x1 r1 hg2) q1294 q62 q1292 q1293 pdX8_isSheet ⟨rfl, rfl, Nat.le_of_ble_eq_true rfl, Nat.le_of_ble_eq_true rfl⟩ hK hZ hP hD hS hA rfl hl.1 rfl (Nat.le_of_ble_eq_true rfl) dX8_write_1 rfl (fun H locs hP hD hS => ?_)
  refine lv_if_ne (tgt := 15) hx hb dX8_write_4 (by decide) (fun hc3 => ?_) (fun hc3 => ?_)
  · have hf := in_el hc3 hf
    refine lv_aload_n hx hb dX8_write_15 rfl (lv_at hl 0 rfl) ?_
    refine va_get (D := D) (ci := 8) (v := .ref (a 7)) (C := RX8) (T := TX8) (N := 26) hx hb hu inX8 hown hK.1 hP 0 rfl rfl 6 (by decide) (hu _ q923) (fun _ h9 => h9) rfl dX8_write_16 ?_
    refine lv_iload_n hx hb dX8_write_19 rfl (lv_at hl 1 rfl) ?_
    obtain ⟨hi4, hf⟩ := ck_el hf
    refine va_iald hx hb hK.1 hP 5 0 rfl rfl hi4 dX8_write_20 ?_
    refine lv_if_ge (tgt := 33) hx hb dX8_write_21 (by decide) (fun hc5 => ?_) (fun hc5 => ?_)
    · have hf := ip_el hc5 hf
      refine lv_iload_n hx hb dX8_write_33 rfl (lv_at hl 2 rfl) ?_
      refine lv_i2l (v := (x2.toInt64)) hx hb dX8_write_34 rfl ?_
      refine lv_lconst (v := 0) hx hb dX8_write_35 (by decide) ?_
      refine lv_aload_n hx hb dX8_write_36 rfl (lv_at hl 0 rfl) ?_
      refine va_get (D := D) (ci := 8) (v := .ref (a 8)) (C := RX8) (T := TX8) (N := 26) hx hb hu inX8 hown hK.1 hP 0 rfl rfl 7 (by decide) (hu _ q924) (fun _ h9 => h9) rfl dX8_write_37 ?_
      refine lv_iload_n hx hb dX8_write_40 rfl (lv_at hl 1 rfl) ?_
      obtain ⟨hi6, hf⟩ := ck_el hf
      refine va_iald hx hb hK.1 hP 6 0 rfl rfl hi6 dX8_write_41 ?_
      refine lv_iconst (v := 1) hx hb dX8_write_42 (by decide) ?_
      refine lv_isub hx hb dX8_write_43 ?_
      refine lv_i2l (v := (((M 8 (Int32.toNatClampNeg x1)) - 1).toInt64)) hx hb dX8_write_44 rfl ?_
      obtain ⟨r7, hg8, hf⟩ := b1_el hf
      refine cc_S0 (st1 := [.int r7]) [.long (x2.toInt64), .long 0, .long (((M 8 (Int32.toNatClampNeg x1)) - 1).toInt64)] hx hb hml hown hu (tX8_isIn l D cs (x2.toInt64) 0 (((M 8 (Int32.toNatClampNeg x1)) - 1).toInt64) r7 hg8) q1004 q62 q1002 q1003 pdX8_isIn ⟨rfl, rfl, Nat.le_of_ble_eq_true rfl, Nat.le_of_ble_eq_true rfl⟩ hK hZ hP hD hS hA rfl hl.1 rfl (Nat.le_of_ble_eq_true rfl) dX8_write_45 rfl (fun H locs hP hD hS => ?_)
      refine lv_if_ne (tgt := 59) hx hb dX8_write_48 (by decide) (fun hc9 => ?_) (fun hc9 => ?_)
      · have hf := in_el hc9 hf
        refine lv_aload_n hx hb dX8_write_59 rfl (lv_at hl 0 rfl) ?_
        refine va_get (D := D) (ci := 8) (v := .ref (nn 0)) (C := RX8) (T := TX8) (N := 26) hx hb hu inX8 hown hK.1 hP 0 rfl rfl 8 (by decide) (hu _ q925) (fun _ h9 => h9) rfl dX8_write_60 ?_
        refine lv_bipush (v := 40) hx hb dX8_write_63 (by decide) ?_
        refine lv_iload_n hx hb dX8_write_65 rfl (lv_at hl 1 rfl) ?_
        refine lv_imul hx hb dX8_write_66 ?_
        refine lv_iload_n hx hb dX8_write_67 rfl (lv_at hl 2 rfl) ?_
        refine lv_iadd hx hb dX8_write_68 ?_
        obtain ⟨hi10, hf⟩ := ck_el hf
        refine va_lald hx hb hK.1 hP 15 1 rfl rfl hi10 dX8_write_69 ?_
        obtain ⟨v11, hv11, hf⟩ := lt_el hf
        refine lv_topel hv11 ?_
        refine lv_lstore (lv' := [(5, .long v11), (0, .ref (a 0)), (1, .int x1), (2, .int x2), (3, .long x3)]) hx hb dX8_write_70 hl (by decide) rfl (fun ls hl => ?_)
        refine lv_aload_n hx hb dX8_write_72 rfl (lv_at hl 1 rfl) ?_
        refine va_get (D := D) (ci := 8) (v := .ref (nn 0)) (C := RX8) (T := TX8) (N := 26) hx hb hu inX8 hown hK.1 hP 0 rfl rfl 8 (by decide) (hu _ q925) (fun _ h9 => h9) rfl dX8_write_73 ?_
        refine lv_bipush (v := 40) hx hb dX8_write_76 (by decide) ?_
        refine lv_iload_n hx hb dX8_write_78 rfl (lv_at hl 2 rfl) ?_
        refine lv_imul hx hb dX8_write_79 ?_
        refine lv_iload_n hx hb dX8_write_80 rfl (lv_at hl 3 rfl) ?_
        refine lv_iadd hx hb dX8_write_81 ?_
        refine lv_aload_n hx hb dX8_write_82 rfl (lv_at hl 1 rfl) ?_
        refine va_get (D := D) (ci := 8) (v := .ref (a 7)) (C := RX8) (T := TX8) (N := 26) hx hb hu inX8 hown hK.1 hP 0 rfl rfl 6 (by decide) (hu _ q923) (fun _ h9 => h9) rfl dX8_write_83 ?_
        refine lv_iload_n hx hb dX8_write_86 rfl (lv_at hl 2 rfl) ?_
        obtain ⟨hi12, hf⟩ := ck_el hf
        refine va_iald hx hb hK.1 hP 5 0 rfl rfl hi12 dX8_write_87 ?_
        refine lv_lload_n hx hb dX8_write_88 rfl (lv_at hl 4 rfl) ?_
        obtain ⟨r13, hg14, hf⟩ := b1_el hf
        refine cc_S0 (st1 := [.long r13, .int ((40 * x1) + x2), .ref (nn 0)]) [.int (M 7 (Int32.toNatClampNeg x1)), .long x3] hx hb hml hown hu (tX8_narrow l D cs (M 7 (Int32.toNatClampNeg x1)) x3 r13 hg14) q1303 q62 q1301 q1302 pdX8_narrow ⟨rfl, rfl, Nat.le_of_ble_eq_true rfl, Nat.le_of_ble_eq_true rfl⟩ hK hZ hP hD hS hA rfl hl.1 rfl (Nat.le_of_ble_eq_true rfl) dX8_write_89 rfl (fun H locs hP hD hS => ?_)
        obtain ⟨hi15, hf⟩ := ck_el hf
        obtain ⟨N_16, hN_16, hf⟩ := lt_el hf
        refine va_last hx hb hK.1 hP hD hS 15 1 rfl rfl hi15 dX8_write_92 (fun H locs hP hD hS => ?_)
        have hP : va_P D vwCl ((kX8 cs a (.ref (nn 0)) M) ++ ((kJ160 cs nn N_16))) H := by rw [hN_16]; exact hP
        have hD : va_D A ((kX8 cs a (.ref (nn 0)) M) ++ ((kJ160 cs nn N_16))) := by rw [hN_16]; exact hD
        refine lv_lload hx hb dX8_write_93 (lv_at hl 0 rfl) ?_
        have he := Option.some.inj hf
        obtain ⟨e0, ht0⟩ := Prod.mk.inj he
        obtain ⟨e1, e2⟩ := Prod.mk.inj ht0
        exact hrl _ _ _ rfl (congrArg (fun z => some (Value.long z)) e0.symm) dX8_write_95 _ _ _ (by rw [e1, e2]) hP hD hS
      · have hf := ip_el hc9 hf
        refine lv_aload_n hx hb dX8_write_51 rfl (lv_at hl 0 rfl) ?_
        refine lv_ldc (v := (-1000000001)) hx hb hown (hu _ q1008) dX8_write_52 ?_
        obtain ⟨r17, M_18, hg19, hf⟩ := b2_el hf
        refine cc_V (w' := ((kX8 cs a (.ref (nn 0)) M_18) ++ ((kJ160 cs nn N)))) (wr := (kJ160 cs nn N)) (st1 := [.int r17]) [.int (-1000000001)] hx hb hml hown hu (tX8_finds l D cs a nn (-1000000001) M r17 M_18 hg19) q1012 q62 q1009 q1011 q19 pdX8_finds ⟨rfl, rfl, Nat.le_of_ble_eq_true rfl, Nat.le_of_ble_eq_true rfl⟩ hK hZ hP hD hS hA [0, 1, 2, 3, 4, 5, 6, 7, 8, 9, 10, 11, 12, 13, 14] [15] [1, 2, 3, 4, 5, 6, 7, 8, 9, 10, 11, 12, 13, 14, 15, 0] rfl rfl rfl rfl rfl rfl rfl rfl rfl rfl hl.1 rfl (Nat.le_of_ble_eq_true rfl) dX8_write_54 rfl (fun H locs hP hD hS => ?_)
        refine lv_i2l (v := (r17.toInt64)) hx hb dX8_write_57 rfl ?_
        have he := Option.some.inj hf
        obtain ⟨e0, ht0⟩ := Prod.mk.inj he
        obtain ⟨e1, e2⟩ := Prod.mk.inj ht0
        exact hrl _ _ _ rfl (congrArg (fun z => some (Value.long z)) e0.symm) dX8_write_58 _ _ _ (by rw [e1, e2]) hP hD hS
    · have hf := in_el hc5 hf
      refine lv_aload_n hx hb dX8_write_24 rfl (lv_at hl 0 rfl) ?_
      refine lv_ldcw (v := (-1000000006)) hx hb hown (hu _ q1300) dX8_write_25 ?_
      obtain ⟨r20, M_21, hg22, hf⟩ := b2_el hf
      refine cc_V (w' := ((kX8 cs a (.ref (nn 0)) M_21) ++ ((kJ160 cs nn N)))) (wr := (kJ160 cs nn N)) (st1 := [.int r20]) [.int (-1000000006)] hx hb hml hown hu (tX8_finds l D cs a nn (-1000000006) M r20 M_21 hg22) q1012 q62 q1009 q1011 q19 pdX8_finds ⟨rfl, rfl, Nat.le_of_ble_eq_true rfl, Nat.le_of_ble_eq_true rfl⟩ hK hZ hP hD hS hA [0, 1, 2, 3, 4, 5, 6, 7, 8, 9, 10, 11, 12, 13, 14] [15] [1, 2, 3, 4, 5, 6, 7, 8, 9, 10, 11, 12, 13, 14, 15, 0] rfl rfl rfl rfl rfl rfl rfl rfl rfl rfl hl.1 rfl (Nat.le_of_ble_eq_true rfl) dX8_write_28 rfl (fun H locs hP hD hS => ?_)
      refine lv_i2l (v := (r20.toInt64)) hx hb dX8_write_31 rfl ?_
      have he := Option.some.inj hf
      obtain ⟨e0, ht0⟩ := Prod.mk.inj he
      obtain ⟨e1, e2⟩ := Prod.mk.inj ht0
      exact hrl _ _ _ rfl (congrArg (fun z => some (Value.long z)) e0.symm) dX8_write_32 _ _ _ (by rw [e1, e2]) hP hD hS
  · have hf := ip_el hc3 hf
    refine lv_aload_n hx hb dX8_write_7 rfl (lv_at hl 0 rfl) ?_
    refine lv_ldc (v := (-1000000001)) hx hb hown (hu _ q1008) dX8_write_8 ?_
    obtain ⟨r23, M_24, hg25, hf⟩ := b2_el hf
    refine cc_V (w' := ((kX8 cs a (.ref (nn 0)) M_24) ++ ((kJ160 cs nn N)))) (wr := (kJ160 cs nn N)) (st1 := [.int r23]) [.int (-1000000001)] hx hb hml hown hu (tX8_finds l D cs a nn (-1000000001) M r23 M_24 hg25) q1012 q62 q1009 q1011 q19 pdX8_finds ⟨rfl, rfl, Nat.le_of_ble_eq_true rfl, Nat.le_of_ble_eq_true rfl⟩ hK hZ hP hD hS hA [0, 1, 2, 3, 4, 5, 6, 7, 8, 9, 10, 11, 12, 13, 14] [15] [1, 2, 3, 4, 5, 6, 7, 8, 9, 10, 11, 12, 13, 14, 15, 0] rfl rfl rfl rfl rfl rfl rfl rfl rfl rfl hl.1 rfl (Nat.le_of_ble_eq_true rfl) dX8_write_10 rfl (fun H locs hP hD hS => ?_)
    refine lv_i2l (v := (r23.toInt64)) hx hb dX8_write_13 rfl ?_
    have he := Option.some.inj hf
    obtain ⟨e0, ht0⟩ := Prod.mk.inj he
    obtain ⟨e1, e2⟩ := Prod.mk.inj ht0
    exact hrl _ _ _ rfl (congrArg (fun z => some (Value.long z)) e0.symm) dX8_write_14 _ _ _ (by rw [e1, e2]) hP hD hS

def fX8_copy_14 (M : ST) (N : LT) : Option (Int32 × ST × LT) :=
  dc_b2 (fX8_finds (-1000000001) M) (fun r4 M_5 => some (r4, M_5, N))
def fX8_copy_39 (M : ST) (N : LT) : Option (Int32 × ST × LT) :=
  dc_b2 (fX8_finds (-1000000006) M) (fun r12 M_13 => some (r12, M_13, N))
def fX8_copy_110 (M : ST) (N : LT) : Option (Int32 × ST × LT) :=
  dc_b2 (fX8_finds (-1000000001) M) (fun r21 M_22 => some (r21, M_22, N))
def fX8_copy_163 (k137 : Int32 → Int32 → Int32 → Int32 → ST → LT → Option (Int32 × ST × LT)) (y5 : Int32) (y6 : Int32) (y7 : Int32) (y8 : Int32) (s0 : Int32) (M : ST) (N : LT) : Option (Int32 × ST × LT) :=
  dc_ck (y6 + s0) 160 (dc_ck (y7 + s0) 160 (dc_lt (vp_updL N (Int32.toNatClampNeg (y7 + s0)) (N (Int32.toNatClampNeg (y6 + s0)))) (fun N_36 => dc_lt (y8 + 1) (fun v37 => k137 y5 y6 y7 v37 M N_36))))
def fX8_copy_137_s (k137 : Int32 → Int32 → Int32 → Int32 → ST → LT → Option (Int32 × ST × LT)) (y5 : Int32) (y6 : Int32) (y7 : Int32) (y8 : Int32) (M : ST) (N : LT) : Option (Int32 × ST × LT) :=
  (if y5 ≤ y8 then some (y5, M, N) else (if y7 ≤ y6 then fX8_copy_163 k137 y5 y6 y7 y8 y8 M N else fX8_copy_163 k137 y5 y6 y7 y8 ((y5 - 1) - y8) M N))
def fX8_copy_137 : Nat → Int32 → Int32 → Int32 → Int32 → ST → LT → Option (Int32 × ST × LT)
  | 0 => fun _ _ _ _ _ _ => none
  | n + 1 => fX8_copy_137_s (fX8_copy_137 n)
def fX8_copy (x1 : Int32) (x2 : Int32) (x3 : Int32) (x4 : Int32) (x5 : Int32) (M : ST) (N : LT) : Option (Int32 × ST × LT) :=
  dc_b1 (fX8_isSheet x1) (fun r1 => (if r1 = 0 then fX8_copy_14 M N else dc_b1 (fX8_isSheet x3) (fun r7 => (if r7 = 0 then fX8_copy_14 M N else dc_ck x1 4 ((if (M 7 (Int32.toNatClampNeg x1)) < 0 then fX8_copy_39 M N else dc_ck x3 4 ((if 0 ≤ (M 7 (Int32.toNatClampNeg x3)) then dc_ck x1 4 (dc_ck x3 4 ((if (M 7 (Int32.toNatClampNeg x1)) = (M 7 (Int32.toNatClampNeg x3)) then (if x2 < 0 then fX8_copy_110 M N else (if x4 < 0 then fX8_copy_110 M N else (if x5 < 0 then fX8_copy_110 M N else dc_ck x1 4 ((if ((M 8 (Int32.toNatClampNeg x1)) - x2) < x5 then fX8_copy_110 M N else dc_ck x3 4 ((if x5 ≤ ((M 8 (Int32.toNatClampNeg x3)) - x4) then dc_lt ((40 * x1) + x2) (fun v30 => dc_lt ((40 * x3) + x4) (fun v31 => fX8_copy_137 400 x5 v30 v31 0 M N)) else fX8_copy_110 M N))))))) else dc_b2 (fX8_finds (-1000000003) M) (fun r38 M_39 => some (r38, M_39, N))))) else fX8_copy_39 M N))))))))
abbrev rmX8_copy : Room := { frames := 1, cells := 0, slots := 0, locals := 21 }
set_option maxRecDepth 100000 in
set_option maxHeartbeats 4000000 in
theorem tX8_copy (l : Launch) (D : va_G) (cs : Nat → ClassId) (a : Nat → Nat) (nn : Nat → Nat) (x1 : Int32) (x2 : Int32) (x3 : Int32) (x4 : Int32) (x5 : Int32) (M : ST) (N : LT) (r0 : Int32) (Mz : ST) (Nz : LT) (hf : fX8_copy x1 x2 x3 x4 x5 M N = some (r0, Mz, Nz)) : CG l yX8_copy (wsm yX8_copy cX8_copy 10 (some .int)) rmX8_copy D cs [.ref (a 0), .int x1, .int x2, .int x3, .int x4, .int x5] (some (.int r0)) ((kX8 cs a (.ref (nn 0)) M) ++ ((kJ160 cs nn N))) ((kX8 cs a (.ref (nn 0)) Mz) ++ ((kJ160 cs nn Nz))) := by
  refine CG.intro (by decide) (Nat.le_of_ble_eq_true rfl) ?_
  intro p e s m below meth c A Q hx hb hml hown hu hK hZ hP0 hD0 hS0 hA hri hrz hrl hrv hra ls0 hl0
  have h14 : ∀ (M : ST) (N : LT) (H : Heap) (locs : List Loc) (ls : Array Slot), va_P D vwCl ((kX8 cs a (.ref (nn 0)) M) ++ ((kJ160 cs nn N))) H → va_D A ((kX8 cs a (.ref (nn 0)) M) ++ ((kJ160 cs nn N))) → va_S A s.heap H locs → lv_has ls 10 [(0, .ref (a 0))] → fX8_copy_14 M N = some (r0, Mz, Nz) → W p l e rmX8_copy s m [.ref (a 0), .int x1, .int x2, .int x3, .int x4, .int x5].toArray below meth c H locs 0 0 Q (F0 m 14 ls []) := by
    intro M N H locs ls hP hD hS hl hf
    unfold fX8_copy_14 at hf
    refine lv_aload_n hx hb dX8_copy_14 rfl (lv_at hl 0 rfl) ?_
    refine lv_ldc (v := (-1000000001)) hx hb hown (hu _ q1008) dX8_copy_15 ?_
    obtain ⟨r4, M_5, hg6, hf⟩ := b2_el hf
    refine cc_V (w' := ((kX8 cs a (.ref (nn 0)) M_5) ++ ((kJ160 cs nn N)))) (wr := (kJ160 cs nn N)) (st1 := [.int r4]) [.int (-1000000001)] hx hb hml hown hu (tX8_finds l D cs a nn (-1000000001) M r4 M_5 hg6) q1012 q62 q1009 q1011 q19 pdX8_finds ⟨rfl, rfl, Nat.le_of_ble_eq_true rfl, Nat.le_of_ble_eq_true rfl⟩ hK hZ hP hD hS hA [0, 1, 2, 3, 4, 5, 6, 7, 8, 9, 10, 11, 12, 13, 14] [15] [1, 2, 3, 4, 5, 6, 7, 8, 9, 10, 11, 12, 13, 14, 15, 0] rfl rfl rfl rfl rfl rfl rfl rfl rfl rfl hl.1 rfl (Nat.le_of_ble_eq_true rfl) dX8_copy_17 rfl (fun H locs hP hD hS => ?_)
    have he := Option.some.inj hf
    obtain ⟨e0, ht0⟩ := Prod.mk.inj he
    obtain ⟨e1, e2⟩ := Prod.mk.inj ht0
    exact hri _ _ _ rfl (congrArg (fun z => some (Value.int z)) e0.symm) dX8_copy_20 _ _ _ (by rw [e1, e2]) hP hD hS
  have h39 : ∀ (M : ST) (N : LT) (H : Heap) (locs : List Loc) (ls : Array Slot), va_P D vwCl ((kX8 cs a (.ref (nn 0)) M) ++ ((kJ160 cs nn N))) H → va_D A ((kX8 cs a (.ref (nn 0)) M) ++ ((kJ160 cs nn N))) → va_S A s.heap H locs → lv_has ls 10 [(0, .ref (a 0))] → fX8_copy_39 M N = some (r0, Mz, Nz) → W p l e rmX8_copy s m [.ref (a 0), .int x1, .int x2, .int x3, .int x4, .int x5].toArray below meth c H locs 0 0 Q (F0 m 39 ls []) := by
    intro M N H locs ls hP hD hS hl hf
    unfold fX8_copy_39 at hf
    refine lv_aload_n hx hb dX8_copy_39 rfl (lv_at hl 0 rfl) ?_
    refine lv_ldcw (v := (-1000000006)) hx hb hown (hu _ q1300) dX8_copy_40 ?_
    obtain ⟨r12, M_13, hg14, hf⟩ := b2_el hf
    refine cc_V (w' := ((kX8 cs a (.ref (nn 0)) M_13) ++ ((kJ160 cs nn N)))) (wr := (kJ160 cs nn N)) (st1 := [.int r12]) [.int (-1000000006)] hx hb hml hown hu (tX8_finds l D cs a nn (-1000000006) M r12 M_13 hg14) q1012 q62 q1009 q1011 q19 pdX8_finds ⟨rfl, rfl, Nat.le_of_ble_eq_true rfl, Nat.le_of_ble_eq_true rfl⟩ hK hZ hP hD hS hA [0, 1, 2, 3, 4, 5, 6, 7, 8, 9, 10, 11, 12, 13, 14] [15] [1, 2, 3, 4, 5, 6, 7, 8, 9, 10, 11, 12, 13, 14, 15, 0] rfl rfl rfl rfl rfl rfl rfl rfl rfl rfl hl.1 rfl (Nat.le_of_ble_eq_true rfl) dX8_copy_43 rfl (fun H locs hP hD hS => ?_)
    have he := Option.some.inj hf
    obtain ⟨e0, ht0⟩ := Prod.mk.inj he
    obtain ⟨e1, e2⟩ := Prod.mk.inj ht0
    exact hri _ _ _ rfl (congrArg (fun z => some (Value.int z)) e0.symm) dX8_copy_46 _ _ _ (by rw [e1, e2]) hP hD hS
  have h110 : ∀ (M : ST) (N : LT) (H : Heap) (locs : List Loc) (ls : Array Slot), va_P D vwCl ((kX8 cs a (.ref (nn 0)) M) ++ ((kJ160 cs nn N))) H → va_D A ((kX8 cs a (.ref (nn 0)) M) ++ ((kJ160 cs nn N))) → va_S A s.heap H locs → lv_has ls 10 [(0, .ref (a 0))] → fX8_copy_110 M N = some (r0, Mz, Nz) → W p l e rmX8_copy s m [.ref (a 0), .int x1, .int x2, .int x3, .int x4, .int x5].toArray below meth c H locs 0 0 Q (F0 m 110 ls []) := by
    intro M N H locs ls hP hD hS hl hf
    unfold fX8_copy_110 at hf
    refine lv_aload_n hx hb dX8_copy_110 rfl (lv_at hl 0 rfl) ?_
    refine lv_ldc (v := (-1000000001)) hx hb hown (hu _ q1008) dX8_copy_111 ?_
    obtain ⟨r21, M_22, hg23, hf⟩ := b2_el hf
    refine cc_V (w' := ((kX8 cs a (.ref (nn 0)) M_22) ++ ((kJ160 cs nn N)))) (wr := (kJ160 cs nn N)) (st1 := [.int r21]) [.int (-1000000001)] hx hb hml hown hu (tX8_finds l D cs a nn (-1000000001) M r21 M_22 hg23) q1012 q62 q1009 q1011 q19 pdX8_finds ⟨rfl, rfl, Nat.le_of_ble_eq_true rfl, Nat.le_of_ble_eq_true rfl⟩ hK hZ hP hD hS hA [0, 1, 2, 3, 4, 5, 6, 7, 8, 9, 10, 11, 12, 13, 14] [15] [1, 2, 3, 4, 5, 6, 7, 8, 9, 10, 11, 12, 13, 14, 15, 0] rfl rfl rfl rfl rfl rfl rfl rfl rfl rfl hl.1 rfl (Nat.le_of_ble_eq_true rfl) dX8_copy_113 rfl (fun H locs hP hD hS => ?_)
    have he := Option.some.inj hf
    obtain ⟨e0, ht0⟩ := Prod.mk.inj he
    obtain ⟨e1, e2⟩ := Prod.mk.inj ht0
    exact hri _ _ _ rfl (congrArg (fun z => some (Value.int z)) e0.symm) dX8_copy_116 _ _ _ (by rw [e1, e2]) hP hD hS
  have h163 : ∀ (k137 : Int32 → Int32 → Int32 → Int32 → ST → LT → Option (Int32 × ST × LT)), (∀ (y5 : Int32) (y6 : Int32) (y7 : Int32) (y8 : Int32) (M : ST) (N : LT) (H : Heap) (locs : List Loc) (ls : Array Slot), va_P D vwCl ((kX8 cs a (.ref (nn 0)) M) ++ ((kJ160 cs nn N))) H → va_D A ((kX8 cs a (.ref (nn 0)) M) ++ ((kJ160 cs nn N))) → va_S A s.heap H locs → lv_has ls 10 [(0, .ref (a 0)), (5, .int y5), (6, .int y6), (7, .int y7), (8, .int y8)] → k137 y5 y6 y7 y8 M N = some (r0, Mz, Nz) → W p l e rmX8_copy s m [.ref (a 0), .int x1, .int x2, .int x3, .int x4, .int x5].toArray below meth c H locs 0 0 Q (F0 m 137 ls [])) → ∀ (y5 : Int32) (y6 : Int32) (y7 : Int32) (y8 : Int32) (s0 : Int32) (M : ST) (N : LT) (H : Heap) (locs : List Loc) (ls : Array Slot), va_P D vwCl ((kX8 cs a (.ref (nn 0)) M) ++ ((kJ160 cs nn N))) H → va_D A ((kX8 cs a (.ref (nn 0)) M) ++ ((kJ160 cs nn N))) → va_S A s.heap H locs → lv_has ls 10 [(0, .ref (a 0)), (5, .int y5), (6, .int y6), (7, .int y7), (8, .int y8)] → fX8_copy_163 k137 y5 y6 y7 y8 s0 M N = some (r0, Mz, Nz) → W p l e rmX8_copy s m [.ref (a 0), .int x1, .int x2, .int x3, .int x4, .int x5].toArray below meth c H locs 0 0 Q (F0 m 163 ls [.int s0]) := by
    intro k137 hk137 y5 y6 y7 y8 s0 M N H locs ls hP hD hS hl hf
    unfold fX8_copy_163 at hf
    refine lv_istore (lv' := [(9, .int s0), (0, .ref (a 0)), (5, .int y5), (6, .int y6), (7, .int y7), (8, .int y8)]) hx hb dX8_copy_163 hl (by decide) rfl (fun ls hl => ?_)
    refine lv_aload_n hx hb dX8_copy_165 rfl (lv_at hl 1 rfl) ?_
    refine va_get (D := D) (ci := 8) (v := .ref (nn 0)) (C := RX8) (T := TX8) (N := 26) hx hb hu inX8 hown hK.1 hP 0 rfl rfl 8 (by decide) (hu _ q925) (fun _ h9 => h9) rfl dX8_copy_166 ?_
    refine lv_iload hx hb dX8_copy_169 (lv_at hl 4 rfl) ?_
    refine lv_iload hx hb dX8_copy_171 (lv_at hl 0 rfl) ?_
    refine lv_iadd hx hb dX8_copy_173 ?_
    refine lv_aload_n hx hb dX8_copy_174 rfl (lv_at hl 1 rfl) ?_
    refine va_get (D := D) (ci := 8) (v := .ref (nn 0)) (C := RX8) (T := TX8) (N := 26) hx hb hu inX8 hown hK.1 hP 0 rfl rfl 8 (by decide) (hu _ q925) (fun _ h9 => h9) rfl dX8_copy_175 ?_
    refine lv_iload hx hb dX8_copy_178 (lv_at hl 3 rfl) ?_
    refine lv_iload hx hb dX8_copy_180 (lv_at hl 0 rfl) ?_
    refine lv_iadd hx hb dX8_copy_182 ?_
    obtain ⟨hi34, hf⟩ := ck_el hf
    refine va_lald hx hb hK.1 hP 15 1 rfl rfl hi34 dX8_copy_183 ?_
    obtain ⟨hi35, hf⟩ := ck_el hf
    obtain ⟨N_36, hN_36, hf⟩ := lt_el hf
    refine va_last hx hb hK.1 hP hD hS 15 1 rfl rfl hi35 dX8_copy_184 (fun H locs hP hD hS => ?_)
    have hP : va_P D vwCl ((kX8 cs a (.ref (nn 0)) M) ++ ((kJ160 cs nn N_36))) H := by rw [hN_36]; exact hP
    have hD : va_D A ((kX8 cs a (.ref (nn 0)) M) ++ ((kJ160 cs nn N_36))) := by rw [hN_36]; exact hD
    obtain ⟨v37, hv37, hf⟩ := lt_el hf
    refine lv_iinc (v := v37) (lv' := [(8, .int v37), (9, .int s0), (0, .ref (a 0)), (5, .int y5), (6, .int y6), (7, .int y7)]) hx hb dX8_copy_185 hl (k := 5) rfl (by rw [hv37]; rfl) (by decide) rfl (fun ls hl => ?_)
    refine lv_goto (tgt := 137) hx hb dX8_copy_188 (by decide) ?_
    exact hk137 y5 y6 y7 v37 M N_36 _ _ _ hP hD hS (lv_sub hl [2, 3, 4, 5, 0] rfl) hf
  have hs137 : ∀ (k137 : Int32 → Int32 → Int32 → Int32 → ST → LT → Option (Int32 × ST × LT)), (∀ (y5 : Int32) (y6 : Int32) (y7 : Int32) (y8 : Int32) (M : ST) (N : LT) (H : Heap) (locs : List Loc) (ls : Array Slot), va_P D vwCl ((kX8 cs a (.ref (nn 0)) M) ++ ((kJ160 cs nn N))) H → va_D A ((kX8 cs a (.ref (nn 0)) M) ++ ((kJ160 cs nn N))) → va_S A s.heap H locs → lv_has ls 10 [(0, .ref (a 0)), (5, .int y5), (6, .int y6), (7, .int y7), (8, .int y8)] → k137 y5 y6 y7 y8 M N = some (r0, Mz, Nz) → W p l e rmX8_copy s m [.ref (a 0), .int x1, .int x2, .int x3, .int x4, .int x5].toArray below meth c H locs 0 0 Q (F0 m 137 ls [])) → ∀ (y5 : Int32) (y6 : Int32) (y7 : Int32) (y8 : Int32) (M : ST) (N : LT) (H : Heap) (locs : List Loc) (ls : Array Slot), va_P D vwCl ((kX8 cs a (.ref (nn 0)) M) ++ ((kJ160 cs nn N))) H → va_D A ((kX8 cs a (.ref (nn 0)) M) ++ ((kJ160 cs nn N))) → va_S A s.heap H locs → lv_has ls 10 [(0, .ref (a 0)), (5, .int y5), (6, .int y6), (7, .int y7), (8, .int y8)] → fX8_copy_137_s k137 y5 y6 y7 y8 M N = some (r0, Mz, Nz) → W p l e rmX8_copy s m [.ref (a 0), .int x1, .int x2, .int x3, .int x4, .int x5].toArray below meth c H locs 0 0 Q (F0 m 137 ls []) := by
    intro k137 hk137 y5 y6 y7 y8 M N H locs ls hP hD hS hl hf
    unfold fX8_copy_137_s at hf
    refine lv_iload hx hb dX8_copy_137 (lv_at hl 4 rfl) ?_
    refine lv_iload hx hb dX8_copy_139 (lv_at hl 1 rfl) ?_
    refine lv_icmp_ge (tgt := 191) hx hb dX8_copy_141 (by decide) (fun hc32 => ?_) (fun hc32 => ?_)
    · have hf := ip_el hc32 hf
      refine lv_iload hx hb dX8_copy_191 (lv_at hl 1 rfl) ?_
      have he := Option.some.inj hf
      obtain ⟨e0, ht0⟩ := Prod.mk.inj he
      obtain ⟨e1, e2⟩ := Prod.mk.inj ht0
      exact hri _ _ _ rfl (congrArg (fun z => some (Value.int z)) e0.symm) dX8_copy_193 _ _ _ (by rw [e1, e2]) hP hD hS
    · have hf := in_el hc32 hf
      refine lv_iload hx hb dX8_copy_144 (lv_at hl 2 rfl) ?_
      refine lv_iload hx hb dX8_copy_146 (lv_at hl 3 rfl) ?_
      refine lv_icmp_ge (tgt := 161) hx hb dX8_copy_148 (by decide) (fun hc33 => ?_) (fun hc33 => ?_)
      · have hf := ip_el hc33 hf
        refine lv_iload hx hb dX8_copy_161 (lv_at hl 4 rfl) ?_
        exact h163 k137 hk137 y5 y6 y7 y8 y8 M N _ _ _ hP hD hS (lv_sub hl [0, 1, 2, 3, 4] rfl) hf
      · have hf := in_el hc33 hf
        refine lv_iload hx hb dX8_copy_151 (lv_at hl 1 rfl) ?_
        refine lv_iconst (v := 1) hx hb dX8_copy_153 (by decide) ?_
        refine lv_isub hx hb dX8_copy_154 ?_
        refine lv_iload hx hb dX8_copy_155 (lv_at hl 4 rfl) ?_
        refine lv_isub hx hb dX8_copy_157 ?_
        refine lv_goto (tgt := 163) hx hb dX8_copy_158 (by decide) ?_
        exact h163 k137 hk137 y5 y6 y7 y8 ((y5 - 1) - y8) M N _ _ _ hP hD hS (lv_sub hl [0, 1, 2, 3, 4] rfl) hf
  have h137 : ∀ (n : Nat), ∀ (y5 : Int32) (y6 : Int32) (y7 : Int32) (y8 : Int32) (M : ST) (N : LT) (H : Heap) (locs : List Loc) (ls : Array Slot), va_P D vwCl ((kX8 cs a (.ref (nn 0)) M) ++ ((kJ160 cs nn N))) H → va_D A ((kX8 cs a (.ref (nn 0)) M) ++ ((kJ160 cs nn N))) → va_S A s.heap H locs → lv_has ls 10 [(0, .ref (a 0)), (5, .int y5), (6, .int y6), (7, .int y7), (8, .int y8)] → fX8_copy_137 n y5 y6 y7 y8 M N = some (r0, Mz, Nz) → W p l e rmX8_copy s m [.ref (a 0), .int x1, .int x2, .int x3, .int x4, .int x5].toArray below meth c H locs 0 0 Q (F0 m 137 ls []) := by
    intro n
    induction n with
    | zero => intro y5 y6 y7 y8 M N H locs ls hP hD hS hl hf; exact no_el hf
    | succ n ih => intro y5 y6 y7 y8 M N H locs ls hP hD hS hl hf; exact hs137 _ ih y5 y6 y7 y8 M N _ _ _ hP hD hS hl hf
  have hl : lv_has ls0 10 [(0, .ref (a 0)), (1, .int x1), (2, .int x2), (3, .int x3), (4, .int x4), (5, .int x5)] := hl0
  have hP := hP0
  have hD := hD0
  have hS := hS0
  unfold fX8_copy at hf
  refine lv_iload_n hx hb dX8_copy_0 rfl (lv_at hl 1 rfl) ?_
  obtain ⟨r1, hg2, hf⟩ := b1_el hf
  refine cc_S0 (st1 := [.int r1]) [.int x1] hx hb hml hown hu (tX8_isSheet l D cs x1 r1 hg2) q1294 q62 q1292 q1293 pdX8_isSheet ⟨rfl, rfl, Nat.le_of_ble_eq_true rfl, Nat.le_of_ble_eq_true rfl⟩ hK hZ hP hD hS hA rfl hl.1 rfl (Nat.le_of_ble_eq_true rfl) dX8_copy_1 rfl (fun H locs hP hD hS => ?_)
  refine lv_if_eq (tgt := 14) hx hb dX8_copy_4 (by decide) (fun hc3 => ?_) (fun hc3 => ?_)
  · have hf := ip_el hc3 hf
    exact h14 M N _ _ _ hP hD hS (lv_sub hl [0] rfl) hf
  · have hf := in_el hc3 hf
    refine lv_iload_n hx hb dX8_copy_7 rfl (lv_at hl 3 rfl) ?_
    obtain ⟨r7, hg8, hf⟩ := b1_el hf
    refine cc_S0 (st1 := [.int r7]) [.int x3] hx hb hml hown hu (tX8_isSheet l D cs x3 r7 hg8) q1294 q62 q1292 q1293 pdX8_isSheet ⟨rfl, rfl, Nat.le_of_ble_eq_true rfl, Nat.le_of_ble_eq_true rfl⟩ hK hZ hP hD hS hA rfl hl.1 rfl (Nat.le_of_ble_eq_true rfl) dX8_copy_8 rfl (fun H locs hP hD hS => ?_)
    refine lv_if_ne (tgt := 21) hx hb dX8_copy_11 (by decide) (fun hc9 => ?_) (fun hc9 => ?_)
    · have hf := in_el hc9 hf
      refine lv_aload_n hx hb dX8_copy_21 rfl (lv_at hl 0 rfl) ?_
      refine va_get (D := D) (ci := 8) (v := .ref (a 7)) (C := RX8) (T := TX8) (N := 26) hx hb hu inX8 hown hK.1 hP 0 rfl rfl 6 (by decide) (hu _ q923) (fun _ h9 => h9) rfl dX8_copy_22 ?_
      refine lv_iload_n hx hb dX8_copy_25 rfl (lv_at hl 1 rfl) ?_
      obtain ⟨hi10, hf⟩ := ck_el hf
      refine va_iald hx hb hK.1 hP 5 0 rfl rfl hi10 dX8_copy_26 ?_
      refine lv_if_lt (tgt := 39) hx hb dX8_copy_27 (by decide) (fun hc11 => ?_) (fun hc11 => ?_)
      · have hf := ip_el hc11 hf
        exact h39 M N _ _ _ hP hD hS (lv_sub hl [0] rfl) hf
      · have hf := in_el hc11 hf
        refine lv_aload_n hx hb dX8_copy_30 rfl (lv_at hl 0 rfl) ?_
        refine va_get (D := D) (ci := 8) (v := .ref (a 7)) (C := RX8) (T := TX8) (N := 26) hx hb hu inX8 hown hK.1 hP 0 rfl rfl 6 (by decide) (hu _ q923) (fun _ h9 => h9) rfl dX8_copy_31 ?_
        refine lv_iload_n hx hb dX8_copy_34 rfl (lv_at hl 3 rfl) ?_
        obtain ⟨hi15, hf⟩ := ck_el hf
        refine va_iald hx hb hK.1 hP 5 0 rfl rfl hi15 dX8_copy_35 ?_
        refine lv_if_ge (tgt := 47) hx hb dX8_copy_36 (by decide) (fun hc16 => ?_) (fun hc16 => ?_)
        · have hf := ip_el hc16 hf
          refine lv_aload_n hx hb dX8_copy_47 rfl (lv_at hl 0 rfl) ?_
          refine va_get (D := D) (ci := 8) (v := .ref (a 7)) (C := RX8) (T := TX8) (N := 26) hx hb hu inX8 hown hK.1 hP 0 rfl rfl 6 (by decide) (hu _ q923) (fun _ h9 => h9) rfl dX8_copy_48 ?_
          refine lv_iload_n hx hb dX8_copy_51 rfl (lv_at hl 1 rfl) ?_
          obtain ⟨hi17, hf⟩ := ck_el hf
          refine va_iald hx hb hK.1 hP 5 0 rfl rfl hi17 dX8_copy_52 ?_
          refine lv_aload_n hx hb dX8_copy_53 rfl (lv_at hl 0 rfl) ?_
          refine va_get (D := D) (ci := 8) (v := .ref (a 7)) (C := RX8) (T := TX8) (N := 26) hx hb hu inX8 hown hK.1 hP 0 rfl rfl 6 (by decide) (hu _ q923) (fun _ h9 => h9) rfl dX8_copy_54 ?_
          refine lv_iload_n hx hb dX8_copy_57 rfl (lv_at hl 3 rfl) ?_
          obtain ⟨hi18, hf⟩ := ck_el hf
          refine va_iald hx hb hK.1 hP 5 0 rfl rfl hi18 dX8_copy_58 ?_
          refine lv_icmp_eq (tgt := 69) hx hb dX8_copy_59 (by decide) (fun hc19 => ?_) (fun hc19 => ?_)
          · have hf := ip_el hc19 hf
            refine lv_iload_n hx hb dX8_copy_69 rfl (lv_at hl 2 rfl) ?_
            refine lv_if_lt (tgt := 110) hx hb dX8_copy_70 (by decide) (fun hc20 => ?_) (fun hc20 => ?_)
            · have hf := ip_el hc20 hf
              exact h110 M N _ _ _ hP hD hS (lv_sub hl [0] rfl) hf
            · have hf := in_el hc20 hf
              refine lv_iload hx hb dX8_copy_73 (lv_at hl 4 rfl) ?_
              refine lv_if_lt (tgt := 110) hx hb dX8_copy_75 (by decide) (fun hc24 => ?_) (fun hc24 => ?_)
              · have hf := ip_el hc24 hf
                exact h110 M N _ _ _ hP hD hS (lv_sub hl [0] rfl) hf
              · have hf := in_el hc24 hf
                refine lv_iload hx hb dX8_copy_78 (lv_at hl 5 rfl) ?_
                refine lv_if_lt (tgt := 110) hx hb dX8_copy_80 (by decide) (fun hc25 => ?_) (fun hc25 => ?_)
                · have hf := ip_el hc25 hf
                  exact h110 M N _ _ _ hP hD hS (lv_sub hl [0] rfl) hf
                · have hf := in_el hc25 hf
                  refine lv_iload hx hb dX8_copy_83 (lv_at hl 5 rfl) ?_
                  refine lv_aload_n hx hb dX8_copy_85 rfl (lv_at hl 0 rfl) ?_
                  refine va_get (D := D) (ci := 8) (v := .ref (a 8)) (C := RX8) (T := TX8) (N := 26) hx hb hu inX8 hown hK.1 hP 0 rfl rfl 7 (by decide) (hu _ q924) (fun _ h9 => h9) rfl dX8_copy_86 ?_
                  refine lv_iload_n hx hb dX8_copy_89 rfl (lv_at hl 1 rfl) ?_
                  obtain ⟨hi26, hf⟩ := ck_el hf
                  refine va_iald hx hb hK.1 hP 6 0 rfl rfl hi26 dX8_copy_90 ?_
                  refine lv_iload_n hx hb dX8_copy_91 rfl (lv_at hl 2 rfl) ?_
                  refine lv_isub hx hb dX8_copy_92 ?_
                  refine lv_icmp_gt (tgt := 110) hx hb dX8_copy_93 (by decide) (fun hc27 => ?_) (fun hc27 => ?_)
                  · have hf := ip_el hc27 hf
                    exact h110 M N _ _ _ hP hD hS (lv_sub hl [0] rfl) hf
                  · have hf := in_el hc27 hf
                    refine lv_iload hx hb dX8_copy_96 (lv_at hl 5 rfl) ?_
                    refine lv_aload_n hx hb dX8_copy_98 rfl (lv_at hl 0 rfl) ?_
                    refine va_get (D := D) (ci := 8) (v := .ref (a 8)) (C := RX8) (T := TX8) (N := 26) hx hb hu inX8 hown hK.1 hP 0 rfl rfl 7 (by decide) (hu _ q924) (fun _ h9 => h9) rfl dX8_copy_99 ?_
                    refine lv_iload_n hx hb dX8_copy_102 rfl (lv_at hl 3 rfl) ?_
                    obtain ⟨hi28, hf⟩ := ck_el hf
                    refine va_iald hx hb hK.1 hP 6 0 rfl rfl hi28 dX8_copy_103 ?_
                    refine lv_iload hx hb dX8_copy_104 (lv_at hl 4 rfl) ?_
                    refine lv_isub hx hb dX8_copy_106 ?_
                    refine lv_icmp_le (tgt := 117) hx hb dX8_copy_107 (by decide) (fun hc29 => ?_) (fun hc29 => ?_)
                    · have hf := ip_el hc29 hf
                      refine lv_bipush (v := 40) hx hb dX8_copy_117 (by decide) ?_
                      refine lv_iload_n hx hb dX8_copy_119 rfl (lv_at hl 1 rfl) ?_
                      refine lv_imul hx hb dX8_copy_120 ?_
                      refine lv_iload_n hx hb dX8_copy_121 rfl (lv_at hl 2 rfl) ?_
                      refine lv_iadd hx hb dX8_copy_122 ?_
                      obtain ⟨v30, hv30, hf⟩ := lt_el hf
                      refine lv_tope hv30 ?_
                      refine lv_istore (lv' := [(6, .int v30), (0, .ref (a 0)), (1, .int x1), (2, .int x2), (3, .int x3), (4, .int x4), (5, .int x5)]) hx hb dX8_copy_123 hl (by decide) rfl (fun ls hl => ?_)
                      refine lv_bipush (v := 40) hx hb dX8_copy_125 (by decide) ?_
                      refine lv_iload_n hx hb dX8_copy_127 rfl (lv_at hl 4 rfl) ?_
                      refine lv_imul hx hb dX8_copy_128 ?_
                      refine lv_iload hx hb dX8_copy_129 (lv_at hl 5 rfl) ?_
                      refine lv_iadd hx hb dX8_copy_131 ?_
                      obtain ⟨v31, hv31, hf⟩ := lt_el hf
                      refine lv_tope hv31 ?_
                      refine lv_istore (lv' := [(7, .int v31), (6, .int v30), (0, .ref (a 0)), (1, .int x1), (2, .int x2), (3, .int x3), (4, .int x4), (5, .int x5)]) hx hb dX8_copy_132 hl (by decide) rfl (fun ls hl => ?_)
                      refine lv_iconst (v := 0) hx hb dX8_copy_134 (by decide) ?_
                      refine lv_istore (lv' := [(8, .int 0), (7, .int v31), (6, .int v30), (0, .ref (a 0)), (1, .int x1), (2, .int x2), (3, .int x3), (4, .int x4), (5, .int x5)]) hx hb dX8_copy_135 hl (by decide) rfl (fun ls hl => ?_)
                      exact h137 400 x5 v30 v31 0 M N _ _ _ hP hD hS (lv_sub hl [3, 8, 2, 1, 0] rfl) hf
                    · have hf := in_el hc29 hf
                      exact h110 M N _ _ _ hP hD hS (lv_sub hl [0] rfl) hf
          · have hf := in_el hc19 hf
            refine lv_aload_n hx hb dX8_copy_62 rfl (lv_at hl 0 rfl) ?_
            refine lv_ldc (v := (-1000000003)) hx hb hown (hu _ q1098) dX8_copy_63 ?_
            obtain ⟨r38, M_39, hg40, hf⟩ := b2_el hf
            refine cc_V (w' := ((kX8 cs a (.ref (nn 0)) M_39) ++ ((kJ160 cs nn N)))) (wr := (kJ160 cs nn N)) (st1 := [.int r38]) [.int (-1000000003)] hx hb hml hown hu (tX8_finds l D cs a nn (-1000000003) M r38 M_39 hg40) q1012 q62 q1009 q1011 q19 pdX8_finds ⟨rfl, rfl, Nat.le_of_ble_eq_true rfl, Nat.le_of_ble_eq_true rfl⟩ hK hZ hP hD hS hA [0, 1, 2, 3, 4, 5, 6, 7, 8, 9, 10, 11, 12, 13, 14] [15] [1, 2, 3, 4, 5, 6, 7, 8, 9, 10, 11, 12, 13, 14, 15, 0] rfl rfl rfl rfl rfl rfl rfl rfl rfl rfl hl.1 rfl (Nat.le_of_ble_eq_true rfl) dX8_copy_65 rfl (fun H locs hP hD hS => ?_)
            have he := Option.some.inj hf
            obtain ⟨e0, ht0⟩ := Prod.mk.inj he
            obtain ⟨e1, e2⟩ := Prod.mk.inj ht0
            exact hri _ _ _ rfl (congrArg (fun z => some (Value.int z)) e0.symm) dX8_copy_68 _ _ _ (by rw [e1, e2]) hP hD hS
        · have hf := in_el hc16 hf
          exact h39 M N _ _ _ hP hD hS (lv_sub hl [0] rfl) hf
    · have hf := ip_el hc9 hf
      exact h14 M N _ _ _ hP hD hS (lv_sub hl [0] rfl) hf

def fX8_lays_51_s (N : LT) (k51 : Int32 → Int32 → Int32 → Int32 → ST → Option (Int32 × ST)) (y1 : Int32) (y2 : Int32) (y3 : Int32) (y4 : Int32) (M : ST) : Option (Int32 × ST) :=
  dc_ck y1 4 ((if (M 8 (Int32.toNatClampNeg y1)) ≤ y4 then some (y3, M) else (if (M 1 0) ≤ y4 then some (y3, M) else dc_ck ((40 * y1) + y4) 160 (dc_lt (N (Int32.toNatClampNeg ((40 * y1) + y4))) (fun v13 => (if y4 = y2 then dc_lt (y4 + 1) (fun v15 => k51 y1 y2 y3 v15 M) else dc_b1 (fX8_isIn v13 (-9) 9) (fun r16 => (if r16 = 0 then dc_lt (y4 + 1) (fun v19 => k51 y1 y2 y3 v19 M) else dc_ck ((74 + (10 * y2)) + y4) 271 (dc_lt (sti M 1 (Int32.toNatClampNeg ((74 + (10 * y2)) + y4)) (v13.toInt32)) (fun M_21 => dc_lt (y3 + 1) (fun v22 => dc_lt (y4 + 1) (fun v23 => k51 y1 y2 v22 v23 M_21))))))))))))
def fX8_lays_51 (N : LT) : Nat → Int32 → Int32 → Int32 → Int32 → ST → Option (Int32 × ST)
  | 0 => fun _ _ _ _ _ => none
  | n + 1 => fX8_lays_51_s N (fX8_lays_51 N n)
def fX8_lays (x1 : Int32) (x2 : Int32) (M : ST) (N : LT) : Option (Int32 × ST) :=
  dc_b1 (fX8_isSheet x1) (fun r1 => (if r1 = 0 then dc_b2 (fX8_finds (-1000000001) M) (fun r30 M_31 => some (r30, M_31)) else dc_ck x1 4 ((if 0 ≤ (M 7 (Int32.toNatClampNeg x1)) then dc_b1 (fX8_isPerson x2 M) (fun r6 => (if r6 = 0 then dc_b2 (fX8_finds (-1000000001) M) (fun r24 M_25 => some (r24, M_25)) else fX8_lays_51 N 400 x1 x2 0 0 M)) else dc_b2 (fX8_finds (-1000000006) M) (fun r27 M_28 => some (r27, M_28))))))
abbrev rmX8_lays : Room := { frames := 1, cells := 0, slots := 0, locals := 25 }
set_option maxRecDepth 100000 in
set_option maxHeartbeats 4000000 in
theorem tX8_lays (l : Launch) (D : va_G) (cs : Nat → ClassId) (a : Nat → Nat) (nn : Nat → Nat) (x1 : Int32) (x2 : Int32) (M : ST) (N : LT) (r0 : Int32) (Mz : ST) (hf : fX8_lays x1 x2 M N = some (r0, Mz)) : CG l yX8_lays (wsm yX8_lays cX8_lays 7 (some .int)) rmX8_lays D cs [.ref (a 0), .int x1, .int x2] (some (.int r0)) ((kX8 cs a (.ref (nn 0)) M) ++ ((kJ160 cs nn N))) ((kX8 cs a (.ref (nn 0)) Mz) ++ ((kJ160 cs nn N))) := by
  refine CG.intro (by decide) (Nat.le_of_ble_eq_true rfl) ?_
  intro p e s m below meth c A Q hx hb hml hown hu hK hZ hP0 hD0 hS0 hA hri hrz hrl hrv hra ls0 hl0
  have hs51 : ∀ (k51 : Int32 → Int32 → Int32 → Int32 → ST → Option (Int32 × ST)), (∀ (y1 : Int32) (y2 : Int32) (y3 : Int32) (y4 : Int32) (M : ST) (H : Heap) (locs : List Loc) (ls : Array Slot), va_P D vwCl ((kX8 cs a (.ref (nn 0)) M) ++ ((kJ160 cs nn N))) H → va_D A ((kX8 cs a (.ref (nn 0)) M) ++ ((kJ160 cs nn N))) → va_S A s.heap H locs → lv_has ls 7 [(0, .ref (a 0)), (1, .int y1), (2, .int y2), (3, .int y3), (4, .int y4)] → k51 y1 y2 y3 y4 M = some (r0, Mz) → W p l e rmX8_lays s m [.ref (a 0), .int x1, .int x2].toArray below meth c H locs 0 0 Q (F0 m 51 ls [])) → ∀ (y1 : Int32) (y2 : Int32) (y3 : Int32) (y4 : Int32) (M : ST) (H : Heap) (locs : List Loc) (ls : Array Slot), va_P D vwCl ((kX8 cs a (.ref (nn 0)) M) ++ ((kJ160 cs nn N))) H → va_D A ((kX8 cs a (.ref (nn 0)) M) ++ ((kJ160 cs nn N))) → va_S A s.heap H locs → lv_has ls 7 [(0, .ref (a 0)), (1, .int y1), (2, .int y2), (3, .int y3), (4, .int y4)] → fX8_lays_51_s N k51 y1 y2 y3 y4 M = some (r0, Mz) → W p l e rmX8_lays s m [.ref (a 0), .int x1, .int x2].toArray below meth c H locs 0 0 Q (F0 m 51 ls []) := by
    intro k51 hk51 y1 y2 y3 y4 M H locs ls hP hD hS hl hf
    unfold fX8_lays_51_s at hf
    refine lv_iload hx hb dX8_lays_51 (lv_at hl 4 rfl) ?_
    refine lv_aload_n hx hb dX8_lays_53 rfl (lv_at hl 0 rfl) ?_
    refine va_get (D := D) (ci := 8) (v := .ref (a 8)) (C := RX8) (T := TX8) (N := 26) hx hb hu inX8 hown hK.1 hP 0 rfl rfl 7 (by decide) (hu _ q924) (fun _ h9 => h9) rfl dX8_lays_54 ?_
    refine lv_iload_n hx hb dX8_lays_57 rfl (lv_at hl 1 rfl) ?_
    obtain ⟨hi9, hf⟩ := ck_el hf
    refine va_iald hx hb hK.1 hP 6 0 rfl rfl hi9 dX8_lays_58 ?_
    refine lv_icmp_ge (tgt := 134) hx hb dX8_lays_59 (by decide) (fun hc10 => ?_) (fun hc10 => ?_)
    · have hf := ip_el hc10 hf
      refine lv_iload_n hx hb dX8_lays_134 rfl (lv_at hl 3 rfl) ?_
      have he := Option.some.inj hf
      obtain ⟨e0, e1⟩ := Prod.mk.inj he
      exact hri _ _ _ rfl (congrArg (fun z => some (Value.int z)) e0.symm) dX8_lays_135 _ _ _ (by rw [e1]) hP hD hS
    · have hf := in_el hc10 hf
      refine lv_iload hx hb dX8_lays_62 (lv_at hl 4 rfl) ?_
      refine lv_aload_n hx hb dX8_lays_64 rfl (lv_at hl 0 rfl) ?_
      refine va_get (D := D) (ci := 8) (v := .ref (a 1)) (C := RX8) (T := TX8) (N := 26) hx hb hu inX8 hown hK.1 hP 0 rfl rfl 0 (by decide) (hu _ q917) (fun _ h9 => h9) rfl dX8_lays_65 ?_
      refine lv_iconst (v := 0) hx hb dX8_lays_68 (by decide) ?_
      refine ia_lit hx hb hK hP 1 0 rfl (by decide) dX8_lays_69 ?_
      refine lv_icmp_ge (tgt := 134) hx hb dX8_lays_70 (by decide) (fun hc11 => ?_) (fun hc11 => ?_)
      · have hf := ip_el hc11 hf
        refine lv_iload_n hx hb dX8_lays_134 rfl (lv_at hl 3 rfl) ?_
        have he := Option.some.inj hf
        obtain ⟨e0, e1⟩ := Prod.mk.inj he
        exact hri _ _ _ rfl (congrArg (fun z => some (Value.int z)) e0.symm) dX8_lays_135 _ _ _ (by rw [e1]) hP hD hS
      · have hf := in_el hc11 hf
        refine lv_aload_n hx hb dX8_lays_73 rfl (lv_at hl 0 rfl) ?_
        refine va_get (D := D) (ci := 8) (v := .ref (nn 0)) (C := RX8) (T := TX8) (N := 26) hx hb hu inX8 hown hK.1 hP 0 rfl rfl 8 (by decide) (hu _ q925) (fun _ h9 => h9) rfl dX8_lays_74 ?_
        refine lv_bipush (v := 40) hx hb dX8_lays_77 (by decide) ?_
        refine lv_iload_n hx hb dX8_lays_79 rfl (lv_at hl 1 rfl) ?_
        refine lv_imul hx hb dX8_lays_80 ?_
        refine lv_iload hx hb dX8_lays_81 (lv_at hl 4 rfl) ?_
        refine lv_iadd hx hb dX8_lays_83 ?_
        obtain ⟨hi12, hf⟩ := ck_el hf
        refine va_lald hx hb hK.1 hP 15 1 rfl rfl hi12 dX8_lays_84 ?_
        obtain ⟨v13, hv13, hf⟩ := lt_el hf
        refine lv_topel hv13 ?_
        refine lv_lstore (lv' := [(5, .long v13), (0, .ref (a 0)), (1, .int y1), (2, .int y2), (3, .int y3), (4, .int y4)]) hx hb dX8_lays_85 hl (by decide) rfl (fun ls hl => ?_)
        refine lv_iload hx hb dX8_lays_87 (lv_at hl 5 rfl) ?_
        refine lv_iload_n hx hb dX8_lays_89 rfl (lv_at hl 3 rfl) ?_
        refine lv_icmp_eq (tgt := 128) hx hb dX8_lays_90 (by decide) (fun hc14 => ?_) (fun hc14 => ?_)
        · have hf := ip_el hc14 hf
          obtain ⟨v15, hv15, hf⟩ := lt_el hf
          refine lv_iinc (v := v15) (lv' := [(4, .int v15), (5, .long v13), (0, .ref (a 0)), (1, .int y1), (2, .int y2), (3, .int y3)]) hx hb dX8_lays_128 hl (k := 5) rfl (by rw [hv15]; rfl) (by decide) rfl (fun ls hl => ?_)
          refine lv_goto (tgt := 51) hx hb dX8_lays_131 (by decide) ?_
          exact hk51 y1 y2 y3 v15 M _ _ _ hP hD hS (lv_sub hl [2, 3, 4, 5, 0] rfl) hf
        · have hf := in_el hc14 hf
          refine lv_lload hx hb dX8_lays_93 (lv_at hl 0 rfl) ?_
          refine lv_ldc2 (v := (-9)) hx hb hown (hu _ q1103) dX8_lays_95 ?_
          refine lv_ldc2 (v := 9) hx hb hown (hu _ q1104) dX8_lays_98 ?_
          obtain ⟨r16, hg17, hf⟩ := b1_el hf
          refine cc_S0 (st1 := [.int r16]) [.long v13, .long (-9), .long 9] hx hb hml hown hu (tX8_isIn l D cs v13 (-9) 9 r16 hg17) q1004 q62 q1002 q1003 pdX8_isIn ⟨rfl, rfl, Nat.le_of_ble_eq_true rfl, Nat.le_of_ble_eq_true rfl⟩ hK hZ hP hD hS hA rfl hl.1 rfl (Nat.le_of_ble_eq_true rfl) dX8_lays_101 rfl (fun H locs hP hD hS => ?_)
          refine lv_if_eq (tgt := 128) hx hb dX8_lays_104 (by decide) (fun hc18 => ?_) (fun hc18 => ?_)
          · have hf := ip_el hc18 hf
            obtain ⟨v19, hv19, hf⟩ := lt_el hf
            refine lv_iinc (v := v19) (lv' := [(4, .int v19), (5, .long v13), (0, .ref (a 0)), (1, .int y1), (2, .int y2), (3, .int y3)]) hx hb dX8_lays_128 hl (k := 5) rfl (by rw [hv19]; rfl) (by decide) rfl (fun ls hl => ?_)
            refine lv_goto (tgt := 51) hx hb dX8_lays_131 (by decide) ?_
            exact hk51 y1 y2 y3 v19 M _ _ _ hP hD hS (lv_sub hl [2, 3, 4, 5, 0] rfl) hf
          · have hf := in_el hc18 hf
            refine lv_aload_n hx hb dX8_lays_107 rfl (lv_at hl 1 rfl) ?_
            refine va_get (D := D) (ci := 8) (v := .ref (a 1)) (C := RX8) (T := TX8) (N := 26) hx hb hu inX8 hown hK.1 hP 0 rfl rfl 0 (by decide) (hu _ q917) (fun _ h9 => h9) rfl dX8_lays_108 ?_
            refine lv_bipush (v := 74) hx hb dX8_lays_111 (by decide) ?_
            refine lv_bipush (v := 10) hx hb dX8_lays_113 (by decide) ?_
            refine lv_iload_n hx hb dX8_lays_115 rfl (lv_at hl 3 rfl) ?_
            refine lv_imul hx hb dX8_lays_116 ?_
            refine lv_iadd hx hb dX8_lays_117 ?_
            refine lv_iload hx hb dX8_lays_118 (lv_at hl 5 rfl) ?_
            refine lv_iadd hx hb dX8_lays_120 ?_
            refine lv_lload hx hb dX8_lays_121 (lv_at hl 0 rfl) ?_
            refine lv_l2i (v := (v13.toInt32)) hx hb dX8_lays_123 rfl ?_
            obtain ⟨hi20, hf⟩ := ck_el hf
            obtain ⟨M_21, hM_21, hf⟩ := lt_el hf
            refine va_iast hx hb hK.1 hP hD hS 1 0 rfl rfl hi20 dX8_lays_124 (fun H locs hP hD hS => ?_)
            have hP : va_P D vwCl ((kX8 cs a (.ref (nn 0)) M_21) ++ ((kJ160 cs nn N))) H := by rw [hM_21]; exact hP
            have hD : va_D A ((kX8 cs a (.ref (nn 0)) M_21) ++ ((kJ160 cs nn N))) := by rw [hM_21]; exact hD
            obtain ⟨v22, hv22, hf⟩ := lt_el hf
            refine lv_iinc (v := v22) (lv' := [(3, .int v22), (5, .long v13), (0, .ref (a 0)), (1, .int y1), (2, .int y2), (4, .int y4)]) hx hb dX8_lays_125 hl (k := 4) rfl (by rw [hv22]; rfl) (by decide) rfl (fun ls hl => ?_)
            obtain ⟨v23, hv23, hf⟩ := lt_el hf
            refine lv_iinc (v := v23) (lv' := [(4, .int v23), (3, .int v22), (5, .long v13), (0, .ref (a 0)), (1, .int y1), (2, .int y2)]) hx hb dX8_lays_128 hl (k := 5) rfl (by rw [hv23]; rfl) (by decide) rfl (fun ls hl => ?_)
            refine lv_goto (tgt := 51) hx hb dX8_lays_131 (by decide) ?_
            exact hk51 y1 y2 v22 v23 M_21 _ _ _ hP hD hS (lv_sub hl [3, 4, 5, 1, 0] rfl) hf
  have h51 : ∀ (n : Nat), ∀ (y1 : Int32) (y2 : Int32) (y3 : Int32) (y4 : Int32) (M : ST) (H : Heap) (locs : List Loc) (ls : Array Slot), va_P D vwCl ((kX8 cs a (.ref (nn 0)) M) ++ ((kJ160 cs nn N))) H → va_D A ((kX8 cs a (.ref (nn 0)) M) ++ ((kJ160 cs nn N))) → va_S A s.heap H locs → lv_has ls 7 [(0, .ref (a 0)), (1, .int y1), (2, .int y2), (3, .int y3), (4, .int y4)] → fX8_lays_51 N n y1 y2 y3 y4 M = some (r0, Mz) → W p l e rmX8_lays s m [.ref (a 0), .int x1, .int x2].toArray below meth c H locs 0 0 Q (F0 m 51 ls []) := by
    intro n
    induction n with
    | zero => intro y1 y2 y3 y4 M H locs ls hP hD hS hl hf; exact no_el hf
    | succ n ih => intro y1 y2 y3 y4 M H locs ls hP hD hS hl hf; exact hs51 _ ih y1 y2 y3 y4 M _ _ _ hP hD hS hl hf
  have hl : lv_has ls0 7 [(0, .ref (a 0)), (1, .int x1), (2, .int x2)] := hl0
  have hP := hP0
  have hD := hD0
  have hS := hS0
  unfold fX8_lays at hf
  refine lv_iload_n hx hb dX8_lays_0 rfl (lv_at hl 1 rfl) ?_
  obtain ⟨r1, hg2, hf⟩ := b1_el hf
  refine cc_S0 (st1 := [.int r1]) [.int x1] hx hb hml hown hu (tX8_isSheet l D cs x1 r1 hg2) q1294 q62 q1292 q1293 pdX8_isSheet ⟨rfl, rfl, Nat.le_of_ble_eq_true rfl, Nat.le_of_ble_eq_true rfl⟩ hK hZ hP hD hS hA rfl hl.1 rfl (Nat.le_of_ble_eq_true rfl) dX8_lays_1 rfl (fun H locs hP hD hS => ?_)
  refine lv_if_ne (tgt := 14) hx hb dX8_lays_4 (by decide) (fun hc3 => ?_) (fun hc3 => ?_)
  · have hf := in_el hc3 hf
    refine lv_aload_n hx hb dX8_lays_14 rfl (lv_at hl 0 rfl) ?_
    refine va_get (D := D) (ci := 8) (v := .ref (a 7)) (C := RX8) (T := TX8) (N := 26) hx hb hu inX8 hown hK.1 hP 0 rfl rfl 6 (by decide) (hu _ q923) (fun _ h9 => h9) rfl dX8_lays_15 ?_
    refine lv_iload_n hx hb dX8_lays_18 rfl (lv_at hl 1 rfl) ?_
    obtain ⟨hi4, hf⟩ := ck_el hf
    refine va_iald hx hb hK.1 hP 5 0 rfl rfl hi4 dX8_lays_19 ?_
    refine lv_if_ge (tgt := 31) hx hb dX8_lays_20 (by decide) (fun hc5 => ?_) (fun hc5 => ?_)
    · have hf := ip_el hc5 hf
      refine lv_aload_n hx hb dX8_lays_31 rfl (lv_at hl 0 rfl) ?_
      refine lv_iload_n hx hb dX8_lays_32 rfl (lv_at hl 2 rfl) ?_
      obtain ⟨r6, hg7, hf⟩ := b1_el hf
      refine cc_V (w' := ((kX8 cs a (.ref (nn 0)) M) ++ ((kJ160 cs nn N)))) (wr := (kJ160 cs nn N)) (st1 := [.int r6]) [.int x2] hx hb hml hown hu (tX8_isPerson l D cs a nn x2 M r6 hg7) q1021 q62 q1018 q1020 q20 pdX8_isPerson ⟨rfl, rfl, Nat.le_of_ble_eq_true rfl, Nat.le_of_ble_eq_true rfl⟩ hK hZ hP hD hS hA [0, 1, 2, 3, 4, 5, 6, 7, 8, 9, 10, 11, 12, 13, 14] [15] [1, 2, 3, 4, 5, 6, 7, 8, 9, 10, 11, 12, 13, 14, 15, 0] rfl rfl rfl rfl rfl rfl rfl rfl rfl rfl hl.1 rfl (Nat.le_of_ble_eq_true rfl) dX8_lays_33 rfl (fun H locs hP hD hS => ?_)
      refine lv_if_ne (tgt := 46) hx hb dX8_lays_36 (by decide) (fun hc8 => ?_) (fun hc8 => ?_)
      · have hf := in_el hc8 hf
        refine lv_iconst (v := 0) hx hb dX8_lays_46 (by decide) ?_
        refine lv_istore_n (lv' := [(3, .int 0), (0, .ref (a 0)), (1, .int x1), (2, .int x2)]) hx hb dX8_lays_47 rfl hl (by decide) rfl (fun ls hl => ?_)
        refine lv_iconst (v := 0) hx hb dX8_lays_48 (by decide) ?_
        refine lv_istore (lv' := [(4, .int 0), (3, .int 0), (0, .ref (a 0)), (1, .int x1), (2, .int x2)]) hx hb dX8_lays_49 hl (by decide) rfl (fun ls hl => ?_)
        exact h51 400 x1 x2 0 0 M _ _ _ hP hD hS (lv_sub hl [2, 3, 4, 1, 0] rfl) hf
      · have hf := ip_el hc8 hf
        refine lv_aload_n hx hb dX8_lays_39 rfl (lv_at hl 0 rfl) ?_
        refine lv_ldc (v := (-1000000001)) hx hb hown (hu _ q1008) dX8_lays_40 ?_
        obtain ⟨r24, M_25, hg26, hf⟩ := b2_el hf
        refine cc_V (w' := ((kX8 cs a (.ref (nn 0)) M_25) ++ ((kJ160 cs nn N)))) (wr := (kJ160 cs nn N)) (st1 := [.int r24]) [.int (-1000000001)] hx hb hml hown hu (tX8_finds l D cs a nn (-1000000001) M r24 M_25 hg26) q1012 q62 q1009 q1011 q19 pdX8_finds ⟨rfl, rfl, Nat.le_of_ble_eq_true rfl, Nat.le_of_ble_eq_true rfl⟩ hK hZ hP hD hS hA [0, 1, 2, 3, 4, 5, 6, 7, 8, 9, 10, 11, 12, 13, 14] [15] [1, 2, 3, 4, 5, 6, 7, 8, 9, 10, 11, 12, 13, 14, 15, 0] rfl rfl rfl rfl rfl rfl rfl rfl rfl rfl hl.1 rfl (Nat.le_of_ble_eq_true rfl) dX8_lays_42 rfl (fun H locs hP hD hS => ?_)
        have he := Option.some.inj hf
        obtain ⟨e0, e1⟩ := Prod.mk.inj he
        exact hri _ _ _ rfl (congrArg (fun z => some (Value.int z)) e0.symm) dX8_lays_45 _ _ _ (by rw [e1]) hP hD hS
    · have hf := in_el hc5 hf
      refine lv_aload_n hx hb dX8_lays_23 rfl (lv_at hl 0 rfl) ?_
      refine lv_ldcw (v := (-1000000006)) hx hb hown (hu _ q1300) dX8_lays_24 ?_
      obtain ⟨r27, M_28, hg29, hf⟩ := b2_el hf
      refine cc_V (w' := ((kX8 cs a (.ref (nn 0)) M_28) ++ ((kJ160 cs nn N)))) (wr := (kJ160 cs nn N)) (st1 := [.int r27]) [.int (-1000000006)] hx hb hml hown hu (tX8_finds l D cs a nn (-1000000006) M r27 M_28 hg29) q1012 q62 q1009 q1011 q19 pdX8_finds ⟨rfl, rfl, Nat.le_of_ble_eq_true rfl, Nat.le_of_ble_eq_true rfl⟩ hK hZ hP hD hS hA [0, 1, 2, 3, 4, 5, 6, 7, 8, 9, 10, 11, 12, 13, 14] [15] [1, 2, 3, 4, 5, 6, 7, 8, 9, 10, 11, 12, 13, 14, 15, 0] rfl rfl rfl rfl rfl rfl rfl rfl rfl rfl hl.1 rfl (Nat.le_of_ble_eq_true rfl) dX8_lays_27 rfl (fun H locs hP hD hS => ?_)
      have he := Option.some.inj hf
      obtain ⟨e0, e1⟩ := Prod.mk.inj he
      exact hri _ _ _ rfl (congrArg (fun z => some (Value.int z)) e0.symm) dX8_lays_30 _ _ _ (by rw [e1]) hP hD hS
  · have hf := ip_el hc3 hf
    refine lv_aload_n hx hb dX8_lays_7 rfl (lv_at hl 0 rfl) ?_
    refine lv_ldc (v := (-1000000001)) hx hb hown (hu _ q1008) dX8_lays_8 ?_
    obtain ⟨r30, M_31, hg32, hf⟩ := b2_el hf
    refine cc_V (w' := ((kX8 cs a (.ref (nn 0)) M_31) ++ ((kJ160 cs nn N)))) (wr := (kJ160 cs nn N)) (st1 := [.int r30]) [.int (-1000000001)] hx hb hml hown hu (tX8_finds l D cs a nn (-1000000001) M r30 M_31 hg32) q1012 q62 q1009 q1011 q19 pdX8_finds ⟨rfl, rfl, Nat.le_of_ble_eq_true rfl, Nat.le_of_ble_eq_true rfl⟩ hK hZ hP hD hS hA [0, 1, 2, 3, 4, 5, 6, 7, 8, 9, 10, 11, 12, 13, 14] [15] [1, 2, 3, 4, 5, 6, 7, 8, 9, 10, 11, 12, 13, 14, 15, 0] rfl rfl rfl rfl rfl rfl rfl rfl rfl rfl hl.1 rfl (Nat.le_of_ble_eq_true rfl) dX8_lays_10 rfl (fun H locs hP hD hS => ?_)
    have he := Option.some.inj hf
    obtain ⟨e0, e1⟩ := Prod.mk.inj he
    exact hri _ _ _ rfl (congrArg (fun z => some (Value.int z)) e0.symm) dX8_lays_13 _ _ _ (by rw [e1]) hP hD hS

def fX8_image_2_s (k2 : Int32 → ST → Option (Int32 × ST)) (y1 : Int32) (M : ST) : Option (Int32 × ST) :=
  (if 271 ≤ y1 then dc_lt (sti M 0 2 1) (fun M_2 => some (1, M_2)) else dc_ck y1 271 (dc_ck y1 271 (dc_lt (sti M 2 (Int32.toNatClampNeg y1) (M 1 (Int32.toNatClampNeg y1))) (fun M_5 => dc_lt (y1 + 1) (fun v6 => k2 v6 M_5)))))
def fX8_image_2 : Nat → Int32 → ST → Option (Int32 × ST)
  | 0 => fun _ _ => none
  | n + 1 => fX8_image_2_s (fX8_image_2 n)
def fX8_image (M : ST) : Option (Int32 × ST) :=
  fX8_image_2 400 0 M
abbrev rmX8_image : Room := { frames := 0, cells := 0, slots := 0, locals := 0 }
set_option maxRecDepth 100000 in
set_option maxHeartbeats 4000000 in
theorem tX8_image (l : Launch) (D : va_G) (cs : Nat → ClassId) (a : Nat → Nat) (nn : Nat → Nat) (M : ST) (r0 : Int32) (Mz : ST) (hf : fX8_image M = some (r0, Mz)) : CG l yX8_image (wsm yX8_image cX8_image 2 (some .int)) rmX8_image D cs [.ref (a 0)] (some (.int r0)) (kX8 cs a (.ref (nn 0)) M) (kX8 cs a (.ref (nn 0)) Mz) := by
  refine CG.intro (by decide) (Nat.le_of_ble_eq_true rfl) ?_
  intro p e s m below meth c A Q hx hb hml hown hu hK hZ hP0 hD0 hS0 hA hri hrz hrl hrv hra ls0 hl0
  have hs2 : ∀ (k2 : Int32 → ST → Option (Int32 × ST)), (∀ (y1 : Int32) (M : ST) (H : Heap) (locs : List Loc) (ls : Array Slot), va_P D vwCl (kX8 cs a (.ref (nn 0)) M) H → va_D A (kX8 cs a (.ref (nn 0)) M) → va_S A s.heap H locs → lv_has ls 2 [(0, .ref (a 0)), (1, .int y1)] → k2 y1 M = some (r0, Mz) → W p l e rmX8_image s m [.ref (a 0)].toArray below meth c H locs 0 0 Q (F0 m 2 ls [])) → ∀ (y1 : Int32) (M : ST) (H : Heap) (locs : List Loc) (ls : Array Slot), va_P D vwCl (kX8 cs a (.ref (nn 0)) M) H → va_D A (kX8 cs a (.ref (nn 0)) M) → va_S A s.heap H locs → lv_has ls 2 [(0, .ref (a 0)), (1, .int y1)] → fX8_image_2_s k2 y1 M = some (r0, Mz) → W p l e rmX8_image s m [.ref (a 0)].toArray below meth c H locs 0 0 Q (F0 m 2 ls []) := by
    intro k2 hk2 y1 M H locs ls hP hD hS hl hf
    unfold fX8_image_2_s at hf
    refine lv_iload_n hx hb dX8_image_2 rfl (lv_at hl 1 rfl) ?_
    refine lv_sipush (v := 271) hx hb dX8_image_3 (by decide) ?_
    refine lv_icmp_ge (tgt := 27) hx hb dX8_image_6 (by decide) (fun hc1 => ?_) (fun hc1 => ?_)
    · have hf := ip_el hc1 hf
      refine lv_aload_n hx hb dX8_image_27 rfl (lv_at hl 0 rfl) ?_
      refine lv_iconst (v := 1) hx hb dX8_image_28 (by decide) ?_
      obtain ⟨M_2, hM_2, hf⟩ := lt_el hf
      refine va_put (D := D) (ci := 8) (v := .int 1) (ty := .boolean) (C := RX8) (T := TX8) (N := 26) hx hb hu inX8 tyX8 tyX8_ok nmX8 hown hK.1 hP hD hS 0 rfl rfl 2 (by decide) (hu _ q919) (fun _ h9 => h9) rfl (by decide +kernel) rfl rfl (Nat.le_of_ble_eq_true rfl) dX8_image_29 (fun H locs hP hD hS => ?_)
      have hP : va_P D vwCl (kX8 cs a (.ref (nn 0)) M_2) H := by rw [hM_2]; exact hP
      have hD : va_D A (kX8 cs a (.ref (nn 0)) M_2) := by rw [hM_2]; exact hD
      refine lv_iconst (v := 1) hx hb dX8_image_32 (by decide) ?_
      have he := Option.some.inj hf
      obtain ⟨e0, e1⟩ := Prod.mk.inj he
      exact hri _ _ _ rfl (congrArg (fun z => some (Value.int z)) e0.symm) dX8_image_33 _ _ _ (by rw [e1]) hP hD hS
    · have hf := in_el hc1 hf
      refine lv_aload_n hx hb dX8_image_9 rfl (lv_at hl 0 rfl) ?_
      refine va_get (D := D) (ci := 8) (v := .ref (a 2)) (C := RX8) (T := TX8) (N := 26) hx hb hu inX8 hown hK.1 hP 0 rfl rfl 1 (by decide) (hu _ q918) (fun _ h9 => h9) rfl dX8_image_10 ?_
      refine lv_iload_n hx hb dX8_image_13 rfl (lv_at hl 1 rfl) ?_
      refine lv_aload_n hx hb dX8_image_14 rfl (lv_at hl 0 rfl) ?_
      refine va_get (D := D) (ci := 8) (v := .ref (a 1)) (C := RX8) (T := TX8) (N := 26) hx hb hu inX8 hown hK.1 hP 0 rfl rfl 0 (by decide) (hu _ q917) (fun _ h9 => h9) rfl dX8_image_15 ?_
      refine lv_iload_n hx hb dX8_image_18 rfl (lv_at hl 1 rfl) ?_
      obtain ⟨hi3, hf⟩ := ck_el hf
      refine va_iald hx hb hK.1 hP 1 0 rfl rfl hi3 dX8_image_19 ?_
      obtain ⟨hi4, hf⟩ := ck_el hf
      obtain ⟨M_5, hM_5, hf⟩ := lt_el hf
      refine va_iast hx hb hK.1 hP hD hS 2 0 rfl rfl hi4 dX8_image_20 (fun H locs hP hD hS => ?_)
      have hP : va_P D vwCl (kX8 cs a (.ref (nn 0)) M_5) H := by rw [hM_5]; exact hP
      have hD : va_D A (kX8 cs a (.ref (nn 0)) M_5) := by rw [hM_5]; exact hD
      obtain ⟨v6, hv6, hf⟩ := lt_el hf
      refine lv_iinc (v := v6) (lv' := [(1, .int v6), (0, .ref (a 0))]) hx hb dX8_image_21 hl (k := 1) rfl (by rw [hv6]; rfl) (by decide) rfl (fun ls hl => ?_)
      refine lv_goto (tgt := 2) hx hb dX8_image_24 (by decide) ?_
      exact hk2 v6 M_5 _ _ _ hP hD hS (lv_sub hl [1, 0] rfl) hf
  have h2 : ∀ (n : Nat), ∀ (y1 : Int32) (M : ST) (H : Heap) (locs : List Loc) (ls : Array Slot), va_P D vwCl (kX8 cs a (.ref (nn 0)) M) H → va_D A (kX8 cs a (.ref (nn 0)) M) → va_S A s.heap H locs → lv_has ls 2 [(0, .ref (a 0)), (1, .int y1)] → fX8_image_2 n y1 M = some (r0, Mz) → W p l e rmX8_image s m [.ref (a 0)].toArray below meth c H locs 0 0 Q (F0 m 2 ls []) := by
    intro n
    induction n with
    | zero => intro y1 M H locs ls hP hD hS hl hf; exact no_el hf
    | succ n ih => intro y1 M H locs ls hP hD hS hl hf; exact hs2 _ ih y1 M _ _ _ hP hD hS hl hf
  have hl : lv_has ls0 2 [(0, .ref (a 0))] := hl0
  have hP := hP0
  have hD := hD0
  have hS := hS0
  unfold fX8_image at hf
  refine lv_iconst (v := 0) hx hb dX8_image_0 (by decide) ?_
  refine lv_istore_n (lv' := [(1, .int 0), (0, .ref (a 0))]) hx hb dX8_image_1 rfl hl (by decide) rfl (fun ls hl => ?_)
  exact h2 400 0 M _ _ _ hP hD hS (lv_sub hl [1, 0] rfl) hf

def fX8_undo_16_s (k16 : Int32 → ST → Option (Int32 × ST)) (y1 : Int32) (M : ST) : Option (Int32 × ST) :=
  (if 271 ≤ y1 then some ((M 1 0), M) else dc_ck y1 271 (dc_ck y1 271 (dc_lt (sti M 1 (Int32.toNatClampNeg y1) (M 2 (Int32.toNatClampNeg y1))) (fun M_5 => dc_lt (y1 + 1) (fun v6 => k16 v6 M_5)))))
def fX8_undo_16 : Nat → Int32 → ST → Option (Int32 × ST)
  | 0 => fun _ _ => none
  | n + 1 => fX8_undo_16_s (fX8_undo_16 n)
def fX8_undo (M : ST) : Option (Int32 × ST) :=
  (if (M 0 2) = 0 then dc_b2 (fX8_finds (-1000000004) M) (fun r7 M_8 => some (r7, M_8)) else fX8_undo_16 400 0 M)
abbrev rmX8_undo : Room := { frames := 1, cells := 0, slots := 0, locals := 21 }
set_option maxRecDepth 100000 in
set_option maxHeartbeats 4000000 in
theorem tX8_undo (l : Launch) (D : va_G) (cs : Nat → ClassId) (a : Nat → Nat) (nn : Nat → Nat) (M : ST) (r0 : Int32) (Mz : ST) (hf : fX8_undo M = some (r0, Mz)) : CG l yX8_undo (wsm yX8_undo cX8_undo 2 (some .int)) rmX8_undo D cs [.ref (a 0)] (some (.int r0)) (kX8 cs a (.ref (nn 0)) M) (kX8 cs a (.ref (nn 0)) Mz) := by
  refine CG.intro (by decide) (Nat.le_of_ble_eq_true rfl) ?_
  intro p e s m below meth c A Q hx hb hml hown hu hK hZ hP0 hD0 hS0 hA hri hrz hrl hrv hra ls0 hl0
  have hs16 : ∀ (k16 : Int32 → ST → Option (Int32 × ST)), (∀ (y1 : Int32) (M : ST) (H : Heap) (locs : List Loc) (ls : Array Slot), va_P D vwCl (kX8 cs a (.ref (nn 0)) M) H → va_D A (kX8 cs a (.ref (nn 0)) M) → va_S A s.heap H locs → lv_has ls 2 [(0, .ref (a 0)), (1, .int y1)] → k16 y1 M = some (r0, Mz) → W p l e rmX8_undo s m [.ref (a 0)].toArray below meth c H locs 0 0 Q (F0 m 16 ls [])) → ∀ (y1 : Int32) (M : ST) (H : Heap) (locs : List Loc) (ls : Array Slot), va_P D vwCl (kX8 cs a (.ref (nn 0)) M) H → va_D A (kX8 cs a (.ref (nn 0)) M) → va_S A s.heap H locs → lv_has ls 2 [(0, .ref (a 0)), (1, .int y1)] → fX8_undo_16_s k16 y1 M = some (r0, Mz) → W p l e rmX8_undo s m [.ref (a 0)].toArray below meth c H locs 0 0 Q (F0 m 16 ls []) := by
    intro k16 hk16 y1 M H locs ls hP hD hS hl hf
    unfold fX8_undo_16_s at hf
    refine lv_iload_n hx hb dX8_undo_16 rfl (lv_at hl 1 rfl) ?_
    refine lv_sipush (v := 271) hx hb dX8_undo_17 (by decide) ?_
    refine lv_icmp_ge (tgt := 41) hx hb dX8_undo_20 (by decide) (fun hc2 => ?_) (fun hc2 => ?_)
    · have hf := ip_el hc2 hf
      refine lv_aload_n hx hb dX8_undo_41 rfl (lv_at hl 0 rfl) ?_
      refine va_get (D := D) (ci := 8) (v := .ref (a 1)) (C := RX8) (T := TX8) (N := 26) hx hb hu inX8 hown hK.1 hP 0 rfl rfl 0 (by decide) (hu _ q917) (fun _ h9 => h9) rfl dX8_undo_42 ?_
      refine lv_iconst (v := 0) hx hb dX8_undo_45 (by decide) ?_
      refine ia_lit hx hb hK hP 1 0 rfl (by decide) dX8_undo_46 ?_
      have he := Option.some.inj hf
      obtain ⟨e0, e1⟩ := Prod.mk.inj he
      exact hri _ _ _ rfl (congrArg (fun z => some (Value.int z)) e0.symm) dX8_undo_47 _ _ _ (by rw [e1]) hP hD hS
    · have hf := in_el hc2 hf
      refine lv_aload_n hx hb dX8_undo_23 rfl (lv_at hl 0 rfl) ?_
      refine va_get (D := D) (ci := 8) (v := .ref (a 1)) (C := RX8) (T := TX8) (N := 26) hx hb hu inX8 hown hK.1 hP 0 rfl rfl 0 (by decide) (hu _ q917) (fun _ h9 => h9) rfl dX8_undo_24 ?_
      refine lv_iload_n hx hb dX8_undo_27 rfl (lv_at hl 1 rfl) ?_
      refine lv_aload_n hx hb dX8_undo_28 rfl (lv_at hl 0 rfl) ?_
      refine va_get (D := D) (ci := 8) (v := .ref (a 2)) (C := RX8) (T := TX8) (N := 26) hx hb hu inX8 hown hK.1 hP 0 rfl rfl 1 (by decide) (hu _ q918) (fun _ h9 => h9) rfl dX8_undo_29 ?_
      refine lv_iload_n hx hb dX8_undo_32 rfl (lv_at hl 1 rfl) ?_
      obtain ⟨hi3, hf⟩ := ck_el hf
      refine va_iald hx hb hK.1 hP 2 0 rfl rfl hi3 dX8_undo_33 ?_
      obtain ⟨hi4, hf⟩ := ck_el hf
      obtain ⟨M_5, hM_5, hf⟩ := lt_el hf
      refine va_iast hx hb hK.1 hP hD hS 1 0 rfl rfl hi4 dX8_undo_34 (fun H locs hP hD hS => ?_)
      have hP : va_P D vwCl (kX8 cs a (.ref (nn 0)) M_5) H := by rw [hM_5]; exact hP
      have hD : va_D A (kX8 cs a (.ref (nn 0)) M_5) := by rw [hM_5]; exact hD
      obtain ⟨v6, hv6, hf⟩ := lt_el hf
      refine lv_iinc (v := v6) (lv' := [(1, .int v6), (0, .ref (a 0))]) hx hb dX8_undo_35 hl (k := 1) rfl (by rw [hv6]; rfl) (by decide) rfl (fun ls hl => ?_)
      refine lv_goto (tgt := 16) hx hb dX8_undo_38 (by decide) ?_
      exact hk16 v6 M_5 _ _ _ hP hD hS (lv_sub hl [1, 0] rfl) hf
  have h16 : ∀ (n : Nat), ∀ (y1 : Int32) (M : ST) (H : Heap) (locs : List Loc) (ls : Array Slot), va_P D vwCl (kX8 cs a (.ref (nn 0)) M) H → va_D A (kX8 cs a (.ref (nn 0)) M) → va_S A s.heap H locs → lv_has ls 2 [(0, .ref (a 0)), (1, .int y1)] → fX8_undo_16 n y1 M = some (r0, Mz) → W p l e rmX8_undo s m [.ref (a 0)].toArray below meth c H locs 0 0 Q (F0 m 16 ls []) := by
    intro n
    induction n with
    | zero => intro y1 M H locs ls hP hD hS hl hf; exact no_el hf
    | succ n ih => intro y1 M H locs ls hP hD hS hl hf; exact hs16 _ ih y1 M _ _ _ hP hD hS hl hf
  have hl : lv_has ls0 2 [(0, .ref (a 0))] := hl0
  have hP := hP0
  have hD := hD0
  have hS := hS0
  unfold fX8_undo at hf
  refine lv_aload_n hx hb dX8_undo_0 rfl (lv_at hl 0 rfl) ?_
  refine va_get (D := D) (ci := 8) (v := .int (M 0 2)) (C := RX8) (T := TX8) (N := 26) hx hb hu inX8 hown hK.1 hP 0 rfl rfl 2 (by decide) (hu _ q919) (fun _ h9 => h9) rfl dX8_undo_1 ?_
  refine lv_if_ne (tgt := 14) hx hb dX8_undo_4 (by decide) (fun hc1 => ?_) (fun hc1 => ?_)
  · have hf := in_el hc1 hf
    refine lv_iconst (v := 0) hx hb dX8_undo_14 (by decide) ?_
    refine lv_istore_n (lv' := [(1, .int 0), (0, .ref (a 0))]) hx hb dX8_undo_15 rfl hl (by decide) rfl (fun ls hl => ?_)
    exact h16 400 0 M _ _ _ hP hD hS (lv_sub hl [1, 0] rfl) hf
  · have hf := ip_el hc1 hf
    refine lv_aload_n hx hb dX8_undo_7 rfl (lv_at hl 0 rfl) ?_
    refine lv_ldc (v := (-1000000004)) hx hb hown (hu _ q1195) dX8_undo_8 ?_
    obtain ⟨r7, M_8, hg9, hf⟩ := b2_el hf
    refine cc_V1 (w' := (kX8 cs a (.ref (nn 0)) M_8)) (st1 := [.int r7]) [.int (-1000000004)] hx hb hml hown hu (tX8_finds l D cs a nn (-1000000004) M r7 M_8 hg9) q1012 q62 q1009 q1011 q19 pdX8_finds ⟨rfl, rfl, Nat.le_of_ble_eq_true rfl, Nat.le_of_ble_eq_true rfl⟩ hK hZ hP hD hS hA rfl rfl rfl rfl hl.1 rfl (Nat.le_of_ble_eq_true rfl) dX8_undo_10 rfl (fun H locs hP hD hS => ?_)
    have he := Option.some.inj hf
    obtain ⟨e0, e1⟩ := Prod.mk.inj he
    exact hri _ _ _ rfl (congrArg (fun z => some (Value.int z)) e0.symm) dX8_undo_13 _ _ _ (by rw [e1]) hP hD hS

def fX8_tear (M : ST) : Option (Int32 × ST) :=
  dc_lt (M 0 2) (fun v1 => dc_lt (sti M 0 2 0) (fun M_2 => (if v1 = 0 then some (0, M_2) else some (1, M_2))))
abbrev rmX8_tear : Room := { frames := 0, cells := 0, slots := 0, locals := 0 }
set_option maxRecDepth 100000 in
set_option maxHeartbeats 4000000 in
theorem tX8_tear (l : Launch) (D : va_G) (cs : Nat → ClassId) (a : Nat → Nat) (nn : Nat → Nat) (M : ST) (r0 : Int32) (Mz : ST) (hf : fX8_tear M = some (r0, Mz)) : CG l yX8_tear (wsm yX8_tear cX8_tear 2 (some .int)) rmX8_tear D cs [.ref (a 0)] (some (.int r0)) (kX8 cs a (.ref (nn 0)) M) (kX8 cs a (.ref (nn 0)) Mz) := by
  refine CG.intro (by decide) (Nat.le_of_ble_eq_true rfl) ?_
  intro p e s m below meth c A Q hx hb hml hown hu hK hZ hP0 hD0 hS0 hA hri hrz hrl hrv hra ls0 hl0
  have hl : lv_has ls0 2 [(0, .ref (a 0))] := hl0
  have hP := hP0
  have hD := hD0
  have hS := hS0
  unfold fX8_tear at hf
  refine lv_aload_n hx hb dX8_tear_0 rfl (lv_at hl 0 rfl) ?_
  refine va_get (D := D) (ci := 8) (v := .int (M 0 2)) (C := RX8) (T := TX8) (N := 26) hx hb hu inX8 hown hK.1 hP 0 rfl rfl 2 (by decide) (hu _ q919) (fun _ h9 => h9) rfl dX8_tear_1 ?_
  obtain ⟨v1, hv1, hf⟩ := lt_el hf
  refine lv_tope hv1 ?_
  refine lv_istore_n (lv' := [(1, .int v1), (0, .ref (a 0))]) hx hb dX8_tear_4 rfl hl (by decide) rfl (fun ls hl => ?_)
  refine lv_aload_n hx hb dX8_tear_5 rfl (lv_at hl 1 rfl) ?_
  refine lv_iconst (v := 0) hx hb dX8_tear_6 (by decide) ?_
  obtain ⟨M_2, hM_2, hf⟩ := lt_el hf
  refine va_put (D := D) (ci := 8) (v := .int 0) (ty := .boolean) (C := RX8) (T := TX8) (N := 26) hx hb hu inX8 tyX8 tyX8_ok nmX8 hown hK.1 hP hD hS 0 rfl rfl 2 (by decide) (hu _ q919) (fun _ h9 => h9) rfl (by decide +kernel) rfl rfl (Nat.le_of_ble_eq_true rfl) dX8_tear_7 (fun H locs hP hD hS => ?_)
  have hP : va_P D vwCl (kX8 cs a (.ref (nn 0)) M_2) H := by rw [hM_2]; exact hP
  have hD : va_D A (kX8 cs a (.ref (nn 0)) M_2) := by rw [hM_2]; exact hD
  refine lv_iload_n hx hb dX8_tear_10 rfl (lv_at hl 0 rfl) ?_
  refine lv_if_eq (tgt := 18) hx hb dX8_tear_11 (by decide) (fun hc3 => ?_) (fun hc3 => ?_)
  · have hf := ip_el hc3 hf
    refine lv_iconst (v := 0) hx hb dX8_tear_18 (by decide) ?_
    have he := Option.some.inj hf
    obtain ⟨e0, e1⟩ := Prod.mk.inj he
    exact hri _ _ _ rfl (congrArg (fun z => some (Value.int z)) e0.symm) dX8_tear_19 _ _ _ (by rw [e1]) hP hD hS
  · have hf := in_el hc3 hf
    refine lv_iconst (v := 1) hx hb dX8_tear_14 (by decide) ?_
    refine lv_goto (tgt := 19) hx hb dX8_tear_15 (by decide) ?_
    have he := Option.some.inj hf
    obtain ⟨e0, e1⟩ := Prod.mk.inj he
    exact hri _ _ _ rfl (congrArg (fun z => some (Value.int z)) e0.symm) dX8_tear_19 _ _ _ (by rw [e1]) hP hD hS

def fX8_ofAll_4_s (M : ST) (k4 : Int32 → Int32 → Int32 → Option Int32) (y1 : Int32) (y2 : Int32) (y3 : Int32) : Option Int32 :=
  (if (M 1 0) ≤ y3 then some y2 else dc_b1 (fX8_has0 y3 y1 M) (fun r2 => dc_lt (y2 + r2) (fun v4 => dc_lt (y3 + 1) (fun v5 => k4 y1 v4 v5))))
def fX8_ofAll_4 (M : ST) : Nat → Int32 → Int32 → Int32 → Option Int32
  | 0 => fun _ _ _ => none
  | n + 1 => fX8_ofAll_4_s M (fX8_ofAll_4 M n)
def fX8_ofAll (x1 : Int32) (M : ST) : Option Int32 :=
  fX8_ofAll_4 M 400 x1 0 0
abbrev rmX8_ofAll : Room := { frames := 1, cells := 0, slots := 0, locals := 22 }
set_option maxRecDepth 100000 in
set_option maxHeartbeats 4000000 in
theorem tX8_ofAll (l : Launch) (D : va_G) (cs : Nat → ClassId) (a : Nat → Nat) (nn : Nat → Nat) (x1 : Int32) (M : ST) (r0 : Int32) (hf : fX8_ofAll x1 M = some r0) : CG l yX8_ofAll (wsm yX8_ofAll cX8_ofAll 4 (some .int)) rmX8_ofAll D cs [.ref (a 0), .int x1] (some (.int r0)) (kX8 cs a (.ref (nn 0)) M) (kX8 cs a (.ref (nn 0)) M) := by
  refine CG.intro (by decide) (Nat.le_of_ble_eq_true rfl) ?_
  intro p e s m below meth c A Q hx hb hml hown hu hK hZ hP0 hD0 hS0 hA hri hrz hrl hrv hra ls0 hl0
  have hs4 : ∀ (k4 : Int32 → Int32 → Int32 → Option Int32), (∀ (y1 : Int32) (y2 : Int32) (y3 : Int32) (H : Heap) (locs : List Loc) (ls : Array Slot), va_P D vwCl (kX8 cs a (.ref (nn 0)) M) H → va_D A (kX8 cs a (.ref (nn 0)) M) → va_S A s.heap H locs → lv_has ls 4 [(0, .ref (a 0)), (1, .int y1), (2, .int y2), (3, .int y3)] → k4 y1 y2 y3 = some r0 → W p l e rmX8_ofAll s m [.ref (a 0), .int x1].toArray below meth c H locs 0 0 Q (F0 m 4 ls [])) → ∀ (y1 : Int32) (y2 : Int32) (y3 : Int32) (H : Heap) (locs : List Loc) (ls : Array Slot), va_P D vwCl (kX8 cs a (.ref (nn 0)) M) H → va_D A (kX8 cs a (.ref (nn 0)) M) → va_S A s.heap H locs → lv_has ls 4 [(0, .ref (a 0)), (1, .int y1), (2, .int y2), (3, .int y3)] → fX8_ofAll_4_s M k4 y1 y2 y3 = some r0 → W p l e rmX8_ofAll s m [.ref (a 0), .int x1].toArray below meth c H locs 0 0 Q (F0 m 4 ls []) := by
    intro k4 hk4 y1 y2 y3 H locs ls hP hD hS hl hf
    unfold fX8_ofAll_4_s at hf
    refine lv_iload_n hx hb dX8_ofAll_4 rfl (lv_at hl 3 rfl) ?_
    refine lv_aload_n hx hb dX8_ofAll_5 rfl (lv_at hl 0 rfl) ?_
    refine va_get (D := D) (ci := 8) (v := .ref (a 1)) (C := RX8) (T := TX8) (N := 26) hx hb hu inX8 hown hK.1 hP 0 rfl rfl 0 (by decide) (hu _ q917) (fun _ h9 => h9) rfl dX8_ofAll_6 ?_
    refine lv_iconst (v := 0) hx hb dX8_ofAll_9 (by decide) ?_
    refine ia_lit hx hb hK hP 1 0 rfl (by decide) dX8_ofAll_10 ?_
    refine lv_icmp_ge (tgt := 29) hx hb dX8_ofAll_11 (by decide) (fun hc1 => ?_) (fun hc1 => ?_)
    · have hf := ip_el hc1 hf
      refine lv_iload_n hx hb dX8_ofAll_29 rfl (lv_at hl 2 rfl) ?_
      have he := Option.some.inj hf
      have e0 := he
      exact hri _ _ _ rfl (congrArg (fun z => some (Value.int z)) e0.symm) dX8_ofAll_30 _ _ _ rfl hP hD hS
    · have hf := in_el hc1 hf
      refine lv_iload_n hx hb dX8_ofAll_14 rfl (lv_at hl 2 rfl) ?_
      refine lv_aload_n hx hb dX8_ofAll_15 rfl (lv_at hl 0 rfl) ?_
      refine lv_iload_n hx hb dX8_ofAll_16 rfl (lv_at hl 3 rfl) ?_
      refine lv_iload_n hx hb dX8_ofAll_17 rfl (lv_at hl 1 rfl) ?_
      obtain ⟨r2, hg3, hf⟩ := b1_el hf
      refine cc_V1 (w' := (kX8 cs a (.ref (nn 0)) M)) (st1 := [.int r2, .int y2]) [.int y3, .int y1] hx hb hml hown hu (tX8_has0 l D cs a nn y3 y1 M r2 hg3) q1026 q62 q1023 q1025 q21 pdX8_has0 ⟨rfl, rfl, Nat.le_of_ble_eq_true rfl, Nat.le_of_ble_eq_true rfl⟩ hK hZ hP hD hS hA rfl rfl rfl rfl hl.1 rfl (Nat.le_of_ble_eq_true rfl) dX8_ofAll_18 rfl (fun H locs hP hD hS => ?_)
      refine lv_iadd hx hb dX8_ofAll_21 ?_
      obtain ⟨v4, hv4, hf⟩ := lt_el hf
      refine lv_tope hv4 ?_
      refine lv_istore_n (lv' := [(2, .int v4), (0, .ref (a 0)), (1, .int y1), (3, .int y3)]) hx hb dX8_ofAll_22 rfl hl (by decide) rfl (fun ls hl => ?_)
      obtain ⟨v5, hv5, hf⟩ := lt_el hf
      refine lv_iinc (v := v5) (lv' := [(3, .int v5), (2, .int v4), (0, .ref (a 0)), (1, .int y1)]) hx hb dX8_ofAll_23 hl (k := 3) rfl (by rw [hv5]; rfl) (by decide) rfl (fun ls hl => ?_)
      refine lv_goto (tgt := 4) hx hb dX8_ofAll_26 (by decide) ?_
      exact hk4 y1 v4 v5 _ _ _ hP hD hS (lv_sub hl [2, 3, 1, 0] rfl) hf
  have h4 : ∀ (n : Nat), ∀ (y1 : Int32) (y2 : Int32) (y3 : Int32) (H : Heap) (locs : List Loc) (ls : Array Slot), va_P D vwCl (kX8 cs a (.ref (nn 0)) M) H → va_D A (kX8 cs a (.ref (nn 0)) M) → va_S A s.heap H locs → lv_has ls 4 [(0, .ref (a 0)), (1, .int y1), (2, .int y2), (3, .int y3)] → fX8_ofAll_4 M n y1 y2 y3 = some r0 → W p l e rmX8_ofAll s m [.ref (a 0), .int x1].toArray below meth c H locs 0 0 Q (F0 m 4 ls []) := by
    intro n
    induction n with
    | zero => intro y1 y2 y3 H locs ls hP hD hS hl hf; exact no_el hf
    | succ n ih => intro y1 y2 y3 H locs ls hP hD hS hl hf; exact hs4 _ ih y1 y2 y3 _ _ _ hP hD hS hl hf
  have hl : lv_has ls0 4 [(0, .ref (a 0)), (1, .int x1)] := hl0
  have hP := hP0
  have hD := hD0
  have hS := hS0
  unfold fX8_ofAll at hf
  refine lv_iconst (v := 0) hx hb dX8_ofAll_0 (by decide) ?_
  refine lv_istore_n (lv' := [(2, .int 0), (0, .ref (a 0)), (1, .int x1)]) hx hb dX8_ofAll_1 rfl hl (by decide) rfl (fun ls hl => ?_)
  refine lv_iconst (v := 0) hx hb dX8_ofAll_2 (by decide) ?_
  refine lv_istore_n (lv' := [(3, .int 0), (2, .int 0), (0, .ref (a 0)), (1, .int x1)]) hx hb dX8_ofAll_3 rfl hl (by decide) rfl (fun ls hl => ?_)
  exact h4 400 x1 0 0 _ _ _ hP hD hS (lv_sub hl [2, 3, 1, 0] rfl) hf

def fX8_namedMany_4_s (M : ST) (k4 : Int32 → Int32 → Option Int32) (y1 : Int32) (y2 : Int32) : Option Int32 :=
  (if 4 ≤ y2 then some y1 else dc_ck (10 + y2) 271 ((if (M 1 (Int32.toNatClampNeg (10 + y2))) < 0 then dc_lt (y1 + 0) (fun v4 => dc_lt (y2 + 1) (fun v5 => k4 v4 v5)) else dc_lt (y1 + 1) (fun v6 => dc_lt (y2 + 1) (fun v7 => k4 v6 v7)))))
def fX8_namedMany_4 (M : ST) : Nat → Int32 → Int32 → Option Int32
  | 0 => fun _ _ => none
  | n + 1 => fX8_namedMany_4_s M (fX8_namedMany_4 M n)
def fX8_namedMany (M : ST) : Option Int32 :=
  fX8_namedMany_4 M 400 0 0
abbrev rmX8_namedMany : Room := { frames := 0, cells := 0, slots := 0, locals := 0 }
set_option maxRecDepth 100000 in
set_option maxHeartbeats 4000000 in
theorem tX8_namedMany (l : Launch) (D : va_G) (cs : Nat → ClassId) (a : Nat → Nat) (nn : Nat → Nat) (M : ST) (r0 : Int32) (hf : fX8_namedMany M = some r0) : CG l yX8_namedMany (wsm yX8_namedMany cX8_namedMany 3 (some .int)) rmX8_namedMany D cs [.ref (a 0)] (some (.int r0)) (kX8 cs a (.ref (nn 0)) M) (kX8 cs a (.ref (nn 0)) M) := by
  refine CG.intro (by decide) (Nat.le_of_ble_eq_true rfl) ?_
  intro p e s m below meth c A Q hx hb hml hown hu hK hZ hP0 hD0 hS0 hA hri hrz hrl hrv hra ls0 hl0
  have hs4 : ∀ (k4 : Int32 → Int32 → Option Int32), (∀ (y1 : Int32) (y2 : Int32) (H : Heap) (locs : List Loc) (ls : Array Slot), va_P D vwCl (kX8 cs a (.ref (nn 0)) M) H → va_D A (kX8 cs a (.ref (nn 0)) M) → va_S A s.heap H locs → lv_has ls 3 [(0, .ref (a 0)), (1, .int y1), (2, .int y2)] → k4 y1 y2 = some r0 → W p l e rmX8_namedMany s m [.ref (a 0)].toArray below meth c H locs 0 0 Q (F0 m 4 ls [])) → ∀ (y1 : Int32) (y2 : Int32) (H : Heap) (locs : List Loc) (ls : Array Slot), va_P D vwCl (kX8 cs a (.ref (nn 0)) M) H → va_D A (kX8 cs a (.ref (nn 0)) M) → va_S A s.heap H locs → lv_has ls 3 [(0, .ref (a 0)), (1, .int y1), (2, .int y2)] → fX8_namedMany_4_s M k4 y1 y2 = some r0 → W p l e rmX8_namedMany s m [.ref (a 0)].toArray below meth c H locs 0 0 Q (F0 m 4 ls []) := by
    intro k4 hk4 y1 y2 H locs ls hP hD hS hl hf
    unfold fX8_namedMany_4_s at hf
    refine lv_iload_n hx hb dX8_namedMany_4 rfl (lv_at hl 2 rfl) ?_
    refine lv_iconst (v := 4) hx hb dX8_namedMany_5 (by decide) ?_
    refine lv_icmp_ge (tgt := 35) hx hb dX8_namedMany_6 (by decide) (fun hc1 => ?_) (fun hc1 => ?_)
    · have hf := ip_el hc1 hf
      refine lv_iload_n hx hb dX8_namedMany_35 rfl (lv_at hl 1 rfl) ?_
      have he := Option.some.inj hf
      have e0 := he
      exact hri _ _ _ rfl (congrArg (fun z => some (Value.int z)) e0.symm) dX8_namedMany_36 _ _ _ rfl hP hD hS
    · have hf := in_el hc1 hf
      refine lv_iload_n hx hb dX8_namedMany_9 rfl (lv_at hl 1 rfl) ?_
      refine lv_aload_n hx hb dX8_namedMany_10 rfl (lv_at hl 0 rfl) ?_
      refine va_get (D := D) (ci := 8) (v := .ref (a 1)) (C := RX8) (T := TX8) (N := 26) hx hb hu inX8 hown hK.1 hP 0 rfl rfl 0 (by decide) (hu _ q917) (fun _ h9 => h9) rfl dX8_namedMany_11 ?_
      refine lv_bipush (v := 10) hx hb dX8_namedMany_14 (by decide) ?_
      refine lv_iload_n hx hb dX8_namedMany_16 rfl (lv_at hl 2 rfl) ?_
      refine lv_iadd hx hb dX8_namedMany_17 ?_
      obtain ⟨hi2, hf⟩ := ck_el hf
      refine va_iald hx hb hK.1 hP 1 0 rfl rfl hi2 dX8_namedMany_18 ?_
      refine lv_if_lt (tgt := 26) hx hb dX8_namedMany_19 (by decide) (fun hc3 => ?_) (fun hc3 => ?_)
      · have hf := ip_el hc3 hf
        refine lv_iconst (v := 0) hx hb dX8_namedMany_26 (by decide) ?_
        refine lv_iadd hx hb dX8_namedMany_27 ?_
        obtain ⟨v4, hv4, hf⟩ := lt_el hf
        refine lv_tope hv4 ?_
        refine lv_istore_n (lv' := [(1, .int v4), (0, .ref (a 0)), (2, .int y2)]) hx hb dX8_namedMany_28 rfl hl (by decide) rfl (fun ls hl => ?_)
        obtain ⟨v5, hv5, hf⟩ := lt_el hf
        refine lv_iinc (v := v5) (lv' := [(2, .int v5), (1, .int v4), (0, .ref (a 0))]) hx hb dX8_namedMany_29 hl (k := 2) rfl (by rw [hv5]; rfl) (by decide) rfl (fun ls hl => ?_)
        refine lv_goto (tgt := 4) hx hb dX8_namedMany_32 (by decide) ?_
        exact hk4 v4 v5 _ _ _ hP hD hS (lv_sub hl [2, 1, 0] rfl) hf
      · have hf := in_el hc3 hf
        refine lv_iconst (v := 1) hx hb dX8_namedMany_22 (by decide) ?_
        refine lv_goto (tgt := 27) hx hb dX8_namedMany_23 (by decide) ?_
        refine lv_iadd hx hb dX8_namedMany_27 ?_
        obtain ⟨v6, hv6, hf⟩ := lt_el hf
        refine lv_tope hv6 ?_
        refine lv_istore_n (lv' := [(1, .int v6), (0, .ref (a 0)), (2, .int y2)]) hx hb dX8_namedMany_28 rfl hl (by decide) rfl (fun ls hl => ?_)
        obtain ⟨v7, hv7, hf⟩ := lt_el hf
        refine lv_iinc (v := v7) (lv' := [(2, .int v7), (1, .int v6), (0, .ref (a 0))]) hx hb dX8_namedMany_29 hl (k := 2) rfl (by rw [hv7]; rfl) (by decide) rfl (fun ls hl => ?_)
        refine lv_goto (tgt := 4) hx hb dX8_namedMany_32 (by decide) ?_
        exact hk4 v6 v7 _ _ _ hP hD hS (lv_sub hl [2, 1, 0] rfl) hf
  have h4 : ∀ (n : Nat), ∀ (y1 : Int32) (y2 : Int32) (H : Heap) (locs : List Loc) (ls : Array Slot), va_P D vwCl (kX8 cs a (.ref (nn 0)) M) H → va_D A (kX8 cs a (.ref (nn 0)) M) → va_S A s.heap H locs → lv_has ls 3 [(0, .ref (a 0)), (1, .int y1), (2, .int y2)] → fX8_namedMany_4 M n y1 y2 = some r0 → W p l e rmX8_namedMany s m [.ref (a 0)].toArray below meth c H locs 0 0 Q (F0 m 4 ls []) := by
    intro n
    induction n with
    | zero => intro y1 y2 H locs ls hP hD hS hl hf; exact no_el hf
    | succ n ih => intro y1 y2 H locs ls hP hD hS hl hf; exact hs4 _ ih y1 y2 _ _ _ hP hD hS hl hf
  have hl : lv_has ls0 3 [(0, .ref (a 0))] := hl0
  have hP := hP0
  have hD := hD0
  have hS := hS0
  unfold fX8_namedMany at hf
  refine lv_iconst (v := 0) hx hb dX8_namedMany_0 (by decide) ?_
  refine lv_istore_n (lv' := [(1, .int 0), (0, .ref (a 0))]) hx hb dX8_namedMany_1 rfl hl (by decide) rfl (fun ls hl => ?_)
  refine lv_iconst (v := 0) hx hb dX8_namedMany_2 (by decide) ?_
  refine lv_istore_n (lv' := [(2, .int 0), (1, .int 0), (0, .ref (a 0))]) hx hb dX8_namedMany_3 rfl hl (by decide) rfl (fun ls hl => ?_)
  exact h4 400 0 0 _ _ _ hP hD hS (lv_sub hl [2, 1, 0] rfl) hf

def fX8_count (x1 : Int32) (M : ST) : Option (Int32 × ST) :=
  (if x1 = 0 then some ((M 1 0), M) else if x1 = 1 then dc_b1 (fX8_ofAll 5 M) (fun r3 => some (((M 1 0) - r3), M)) else if x1 = 2 then dc_b1 (fX8_namedMany M) (fun r6 => some (r6, M)) else if x1 = 3 then dc_b1 (fX8_ofAll 4 M) (fun r9 => some (r9, M)) else if x1 = 4 then some ((M 0 5), M) else if x1 = 5 then some ((M 1 3), M) else dc_b2 (fX8_finds (-1000000001) M) (fun r13 M_14 => some (r13, M_14)))
abbrev rmX8_count : Room := { frames := 2, cells := 0, slots := 0, locals := 45 }
set_option maxRecDepth 100000 in
set_option maxHeartbeats 4000000 in
theorem tX8_count (l : Launch) (D : va_G) (cs : Nat → ClassId) (a : Nat → Nat) (nn : Nat → Nat) (x1 : Int32) (M : ST) (r0 : Int32) (Mz : ST) (hf : fX8_count x1 M = some (r0, Mz)) : CG l yX8_count (wsm yX8_count cX8_count 2 (some .int)) rmX8_count D cs [.ref (a 0), .int x1] (some (.int r0)) (kX8 cs a (.ref (nn 0)) M) (kX8 cs a (.ref (nn 0)) Mz) := by
  refine CG.intro (by decide) (Nat.le_of_ble_eq_true rfl) ?_
  intro p e s m below meth c A Q hx hb hml hown hu hK hZ hP0 hD0 hS0 hA hri hrz hrl hrv hra ls0 hl0
  have hl : lv_has ls0 2 [(0, .ref (a 0)), (1, .int x1)] := hl0
  have hP := hP0
  have hD := hD0
  have hS := hS0
  unfold fX8_count at hf
  refine lv_iload_n hx hb dX8_count_0 rfl (lv_at hl 1 rfl) ?_
  by_cases hc1 : x1 = 0
  · have hf := ip_el hc1 hf
    refine lv_tableIn (off := 39) (tgt := 40) hx hb dX8_count_1 (by rw [hc1]; decide) (by rw [hc1]; decide) (by rw [hc1]; decide) (by decide) ?_
    refine lv_aload_n hx hb dX8_count_40 rfl (lv_at hl 0 rfl) ?_
    refine va_get (D := D) (ci := 8) (v := .ref (a 1)) (C := RX8) (T := TX8) (N := 26) hx hb hu inX8 hown hK.1 hP 0 rfl rfl 0 (by decide) (hu _ q917) (fun _ h9 => h9) rfl dX8_count_41 ?_
    refine lv_iconst (v := 0) hx hb dX8_count_44 (by decide) ?_
    refine ia_lit hx hb hK hP 1 0 rfl (by decide) dX8_count_45 ?_
    have he := Option.some.inj hf
    obtain ⟨e0, e1⟩ := Prod.mk.inj he
    exact hri _ _ _ rfl (congrArg (fun z => some (Value.int z)) e0.symm) dX8_count_46 _ _ _ (by rw [e1]) hP hD hS
  have hf := in_el hc1 hf
  by_cases hc2 : x1 = 1
  · have hf := ip_el hc2 hf
    refine lv_tableIn (off := 46) (tgt := 47) hx hb dX8_count_1 (by rw [hc2]; decide) (by rw [hc2]; decide) (by rw [hc2]; decide) (by decide) ?_
    refine lv_aload_n hx hb dX8_count_47 rfl (lv_at hl 0 rfl) ?_
    refine va_get (D := D) (ci := 8) (v := .ref (a 1)) (C := RX8) (T := TX8) (N := 26) hx hb hu inX8 hown hK.1 hP 0 rfl rfl 0 (by decide) (hu _ q917) (fun _ h9 => h9) rfl dX8_count_48 ?_
    refine lv_iconst (v := 0) hx hb dX8_count_51 (by decide) ?_
    refine ia_lit hx hb hK hP 1 0 rfl (by decide) dX8_count_52 ?_
    refine lv_aload_n hx hb dX8_count_53 rfl (lv_at hl 0 rfl) ?_
    refine lv_iconst (v := 5) hx hb dX8_count_54 (by decide) ?_
    obtain ⟨r3, hg4, hf⟩ := b1_el hf
    refine cc_V1 (w' := (kX8 cs a (.ref (nn 0)) M)) (st1 := [.int r3, .int (M 1 0)]) [.int 5] hx hb hml hown hu (tX8_ofAll l D cs a nn 5 M r3 hg4) q1335 q62 q1332 q1334 q51 pdX8_ofAll ⟨rfl, rfl, Nat.le_of_ble_eq_true rfl, Nat.le_of_ble_eq_true rfl⟩ hK hZ hP hD hS hA rfl rfl rfl rfl hl.1 rfl (Nat.le_of_ble_eq_true rfl) dX8_count_55 rfl (fun H locs hP hD hS => ?_)
    refine lv_isub hx hb dX8_count_58 ?_
    have he := Option.some.inj hf
    obtain ⟨e0, e1⟩ := Prod.mk.inj he
    exact hri _ _ _ rfl (congrArg (fun z => some (Value.int z)) e0.symm) dX8_count_59 _ _ _ (by rw [e1]) hP hD hS
  have hf := in_el hc2 hf
  by_cases hc5 : x1 = 2
  · have hf := ip_el hc5 hf
    refine lv_tableIn (off := 59) (tgt := 60) hx hb dX8_count_1 (by rw [hc5]; decide) (by rw [hc5]; decide) (by rw [hc5]; decide) (by decide) ?_
    refine lv_aload_n hx hb dX8_count_60 rfl (lv_at hl 0 rfl) ?_
    obtain ⟨r6, hg7, hf⟩ := b1_el hf
    refine cc_V1 (w' := (kX8 cs a (.ref (nn 0)) M)) (st1 := [.int r6]) [] hx hb hml hown hu (tX8_namedMany l D cs a nn M r6 hg7) q1339 q62 q1336 q1338 q52 pdX8_namedMany ⟨rfl, rfl, Nat.le_of_ble_eq_true rfl, Nat.le_of_ble_eq_true rfl⟩ hK hZ hP hD hS hA rfl rfl rfl rfl hl.1 rfl (Nat.le_of_ble_eq_true rfl) dX8_count_61 rfl (fun H locs hP hD hS => ?_)
    have he := Option.some.inj hf
    obtain ⟨e0, e1⟩ := Prod.mk.inj he
    exact hri _ _ _ rfl (congrArg (fun z => some (Value.int z)) e0.symm) dX8_count_64 _ _ _ (by rw [e1]) hP hD hS
  have hf := in_el hc5 hf
  by_cases hc8 : x1 = 3
  · have hf := ip_el hc8 hf
    refine lv_tableIn (off := 64) (tgt := 65) hx hb dX8_count_1 (by rw [hc8]; decide) (by rw [hc8]; decide) (by rw [hc8]; decide) (by decide) ?_
    refine lv_aload_n hx hb dX8_count_65 rfl (lv_at hl 0 rfl) ?_
    refine lv_iconst (v := 4) hx hb dX8_count_66 (by decide) ?_
    obtain ⟨r9, hg10, hf⟩ := b1_el hf
    refine cc_V1 (w' := (kX8 cs a (.ref (nn 0)) M)) (st1 := [.int r9]) [.int 4] hx hb hml hown hu (tX8_ofAll l D cs a nn 4 M r9 hg10) q1335 q62 q1332 q1334 q51 pdX8_ofAll ⟨rfl, rfl, Nat.le_of_ble_eq_true rfl, Nat.le_of_ble_eq_true rfl⟩ hK hZ hP hD hS hA rfl rfl rfl rfl hl.1 rfl (Nat.le_of_ble_eq_true rfl) dX8_count_67 rfl (fun H locs hP hD hS => ?_)
    have he := Option.some.inj hf
    obtain ⟨e0, e1⟩ := Prod.mk.inj he
    exact hri _ _ _ rfl (congrArg (fun z => some (Value.int z)) e0.symm) dX8_count_70 _ _ _ (by rw [e1]) hP hD hS
  have hf := in_el hc8 hf
  by_cases hc11 : x1 = 4
  · have hf := ip_el hc11 hf
    refine lv_tableIn (off := 70) (tgt := 71) hx hb dX8_count_1 (by rw [hc11]; decide) (by rw [hc11]; decide) (by rw [hc11]; decide) (by decide) ?_
    refine lv_aload_n hx hb dX8_count_71 rfl (lv_at hl 0 rfl) ?_
    refine va_get (D := D) (ci := 8) (v := .int (M 0 5)) (C := RX8) (T := TX8) (N := 26) hx hb hu inX8 hown hK.1 hP 0 rfl rfl 5 (by decide) (hu _ q922) (fun _ h9 => h9) rfl dX8_count_72 ?_
    have he := Option.some.inj hf
    obtain ⟨e0, e1⟩ := Prod.mk.inj he
    exact hri _ _ _ rfl (congrArg (fun z => some (Value.int z)) e0.symm) dX8_count_75 _ _ _ (by rw [e1]) hP hD hS
  have hf := in_el hc11 hf
  by_cases hc12 : x1 = 5
  · have hf := ip_el hc12 hf
    refine lv_tableIn (off := 75) (tgt := 76) hx hb dX8_count_1 (by rw [hc12]; decide) (by rw [hc12]; decide) (by rw [hc12]; decide) (by decide) ?_
    refine lv_aload_n hx hb dX8_count_76 rfl (lv_at hl 0 rfl) ?_
    refine va_get (D := D) (ci := 8) (v := .ref (a 1)) (C := RX8) (T := TX8) (N := 26) hx hb hu inX8 hown hK.1 hP 0 rfl rfl 0 (by decide) (hu _ q917) (fun _ h9 => h9) rfl dX8_count_77 ?_
    refine lv_iconst (v := 3) hx hb dX8_count_80 (by decide) ?_
    refine ia_lit hx hb hK hP 1 3 rfl (by decide) dX8_count_81 ?_
    have he := Option.some.inj hf
    obtain ⟨e0, e1⟩ := Prod.mk.inj he
    exact hri _ _ _ rfl (congrArg (fun z => some (Value.int z)) e0.symm) dX8_count_82 _ _ _ (by rw [e1]) hP hD hS
  have hf := in_el hc12 hf
  have nhc1 := sw_ne (a := 0) hc1 (by decide)
  have nhc2 := sw_ne (a := 1) hc2 (by decide)
  have nhc5 := sw_ne (a := 2) hc5 (by decide)
  have nhc8 := sw_ne (a := 3) hc8 (by decide)
  have nhc11 := sw_ne (a := 4) hc11 (by decide)
  have nhc12 := sw_ne (a := 5) hc12 (by decide)
  refine lv_tableOut (tgt := 83) hx hb dX8_count_1 (by omega) (by decide) ?_
  refine lv_aload_n hx hb dX8_count_83 rfl (lv_at hl 0 rfl) ?_
  refine lv_ldc (v := (-1000000001)) hx hb hown (hu _ q1008) dX8_count_84 ?_
  obtain ⟨r13, M_14, hg15, hf⟩ := b2_el hf
  refine cc_V1 (w' := (kX8 cs a (.ref (nn 0)) M_14)) (st1 := [.int r13]) [.int (-1000000001)] hx hb hml hown hu (tX8_finds l D cs a nn (-1000000001) M r13 M_14 hg15) q1012 q62 q1009 q1011 q19 pdX8_finds ⟨rfl, rfl, Nat.le_of_ble_eq_true rfl, Nat.le_of_ble_eq_true rfl⟩ hK hZ hP hD hS hA rfl rfl rfl rfl hl.1 rfl (Nat.le_of_ble_eq_true rfl) dX8_count_86 rfl (fun H locs hP hD hS => ?_)
  have he := Option.some.inj hf
  obtain ⟨e0, e1⟩ := Prod.mk.inj he
  exact hri _ _ _ rfl (congrArg (fun z => some (Value.int z)) e0.symm) dX8_count_89 _ _ _ (by rw [e1]) hP hD hS

def fX8_status (x1 : Int32) (M : ST) : Option (Int32 × ST) :=
  dc_b1 (fX8_isIn (x1.toInt64) (-1) 6) (fun r1 => (if r1 = 0 then dc_b2 (fX8_finds (-1000000001) M) (fun r4 M_5 => some (r4, M_5)) else dc_ck (x1 + 1) 8 (some ((M 4 (Int32.toNatClampNeg (x1 + 1))), M))))
abbrev rmX8_status : Room := { frames := 1, cells := 0, slots := 0, locals := 25 }
set_option maxRecDepth 100000 in
set_option maxHeartbeats 4000000 in
theorem tX8_status (l : Launch) (D : va_G) (cs : Nat → ClassId) (a : Nat → Nat) (nn : Nat → Nat) (x1 : Int32) (M : ST) (r0 : Int32) (Mz : ST) (hf : fX8_status x1 M = some (r0, Mz)) : CG l yX8_status (wsm yX8_status cX8_status 2 (some .int)) rmX8_status D cs [.ref (a 0), .int x1] (some (.int r0)) (kX8 cs a (.ref (nn 0)) M) (kX8 cs a (.ref (nn 0)) Mz) := by
  refine CG.intro (by decide) (Nat.le_of_ble_eq_true rfl) ?_
  intro p e s m below meth c A Q hx hb hml hown hu hK hZ hP0 hD0 hS0 hA hri hrz hrl hrv hra ls0 hl0
  have hl : lv_has ls0 2 [(0, .ref (a 0)), (1, .int x1)] := hl0
  have hP := hP0
  have hD := hD0
  have hS := hS0
  unfold fX8_status at hf
  refine lv_iload_n hx hb dX8_status_0 rfl (lv_at hl 1 rfl) ?_
  refine lv_i2l (v := (x1.toInt64)) hx hb dX8_status_1 rfl ?_
  refine lv_ldc2 (v := (-1)) hx hb hown (hu _ q1344) dX8_status_2 ?_
  refine lv_ldc2 (v := 6) hx hb hown (hu _ q1001) dX8_status_5 ?_
  obtain ⟨r1, hg2, hf⟩ := b1_el hf
  refine cc_S0 (st1 := [.int r1]) [.long (x1.toInt64), .long (-1), .long 6] hx hb hml hown hu (tX8_isIn l D cs (x1.toInt64) (-1) 6 r1 hg2) q1004 q62 q1002 q1003 pdX8_isIn ⟨rfl, rfl, Nat.le_of_ble_eq_true rfl, Nat.le_of_ble_eq_true rfl⟩ hK hZ hP hD hS hA rfl hl.1 rfl (Nat.le_of_ble_eq_true rfl) dX8_status_8 rfl (fun H locs hP hD hS => ?_)
  refine lv_if_eq (tgt := 25) hx hb dX8_status_11 (by decide) (fun hc3 => ?_) (fun hc3 => ?_)
  · have hf := ip_el hc3 hf
    refine lv_aload_n hx hb dX8_status_25 rfl (lv_at hl 0 rfl) ?_
    refine lv_ldc (v := (-1000000001)) hx hb hown (hu _ q1008) dX8_status_26 ?_
    obtain ⟨r4, M_5, hg6, hf⟩ := b2_el hf
    refine cc_V1 (w' := (kX8 cs a (.ref (nn 0)) M_5)) (st1 := [.int r4]) [.int (-1000000001)] hx hb hml hown hu (tX8_finds l D cs a nn (-1000000001) M r4 M_5 hg6) q1012 q62 q1009 q1011 q19 pdX8_finds ⟨rfl, rfl, Nat.le_of_ble_eq_true rfl, Nat.le_of_ble_eq_true rfl⟩ hK hZ hP hD hS hA rfl rfl rfl rfl hl.1 rfl (Nat.le_of_ble_eq_true rfl) dX8_status_28 rfl (fun H locs hP hD hS => ?_)
    have he := Option.some.inj hf
    obtain ⟨e0, e1⟩ := Prod.mk.inj he
    exact hri _ _ _ rfl (congrArg (fun z => some (Value.int z)) e0.symm) dX8_status_31 _ _ _ (by rw [e1]) hP hD hS
  · have hf := in_el hc3 hf
    refine lv_aload_n hx hb dX8_status_14 rfl (lv_at hl 0 rfl) ?_
    refine va_get (D := D) (ci := 8) (v := .ref (a 4)) (C := RX8) (T := TX8) (N := 26) hx hb hu inX8 hown hK.1 hP 0 rfl rfl 3 (by decide) (hu _ q920) (fun _ h9 => h9) rfl dX8_status_15 ?_
    refine lv_iload_n hx hb dX8_status_18 rfl (lv_at hl 1 rfl) ?_
    refine lv_iconst (v := 1) hx hb dX8_status_19 (by decide) ?_
    refine lv_iadd hx hb dX8_status_20 ?_
    obtain ⟨hi7, hf⟩ := ck_el hf
    refine va_iald hx hb hK.1 hP 3 0 rfl rfl hi7 dX8_status_21 ?_
    refine lv_goto (tgt := 31) hx hb dX8_status_22 (by decide) ?_
    have he := Option.some.inj hf
    obtain ⟨e0, e1⟩ := Prod.mk.inj he
    exact hri _ _ _ rfl (congrArg (fun z => some (Value.int z)) e0.symm) dX8_status_31 _ _ _ (by rw [e1]) hP hD hS
