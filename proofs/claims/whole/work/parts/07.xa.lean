def fJ6_bitCount_0f7a4 (x0 : Int32) : Option Int32 :=
  dc_lt (x0 - ((dc_ushr x0 1) &&& 1431655765)) (fun v1 => dc_lt ((v1 &&& 858993459) + ((dc_ushr v1 2) &&& 858993459)) (fun v2 => dc_lt ((v2 + (dc_ushr v2 4)) &&& 252645135) (fun v3 => dc_lt (v3 + (dc_ushr v3 8)) (fun v4 => dc_lt (v4 + (dc_ushr v4 16)) (fun v5 => some (v5 &&& 63))))))
abbrev rmJ6_bitCount_0f7a4 : Room := { frames := 0, cells := 0, slots := 0, locals := 0 }
set_option maxRecDepth 100000 in
set_option maxHeartbeats 4000000 in
theorem tJ6_bitCount_0f7a4 (l : Launch) (D : va_G) (cs : Nat → ClassId) (x0 : Int32) (r0 : Int32) (hf : fJ6_bitCount_0f7a4 x0 = some r0) : CG l yJ6_bitCount_0f7a4 (wsm yJ6_bitCount_0f7a4 cJ6_bitCount_0f7a4 1 (some .int)) rmJ6_bitCount_0f7a4 D cs [.int x0] (some (.int r0)) ([] : va_W) ([] : va_W) := by
  refine CG.intro (by decide) (Nat.le_of_ble_eq_true rfl) ?_
  intro p e s m below meth c A Q hx hb hml hown hu hK hZ hP0 hD0 hS0 hA hri hrz hrl hrv hra ls0 hl0
  have hl : lv_has ls0 1 [(0, .int x0)] := hl0
  have hP := hP0
  have hD := hD0
  have hS := hS0
  unfold fJ6_bitCount_0f7a4 at hf
  refine lv_iload_n hx hb dJ6_bitCount_0f7a4_0 rfl (lv_at hl 0 rfl) ?_
  refine lv_iload_n hx hb dJ6_bitCount_0f7a4_1 rfl (lv_at hl 0 rfl) ?_
  refine lv_iconst (v := 1) hx hb dJ6_bitCount_0f7a4_2 (by decide) ?_
  refine lv_iushr (v := (dc_ushr x0 1)) hx hb dJ6_bitCount_0f7a4_3 rfl ?_
  refine lv_ldcw (v := 1431655765) hx hb hown (hu _ q648) dJ6_bitCount_0f7a4_4 ?_
  refine lv_iand hx hb dJ6_bitCount_0f7a4_7 ?_
  refine lv_isub hx hb dJ6_bitCount_0f7a4_8 ?_
  obtain ⟨v1, hv1, hf⟩ := lt_el hf
  refine lv_tope hv1 ?_
  refine lv_istore_n (lv' := [(0, .int v1)]) hx hb dJ6_bitCount_0f7a4_9 rfl hl (by decide) rfl (fun ls hl => ?_)
  refine lv_iload_n hx hb dJ6_bitCount_0f7a4_10 rfl (lv_at hl 0 rfl) ?_
  refine lv_ldcw (v := 858993459) hx hb hown (hu _ q649) dJ6_bitCount_0f7a4_11 ?_
  refine lv_iand hx hb dJ6_bitCount_0f7a4_14 ?_
  refine lv_iload_n hx hb dJ6_bitCount_0f7a4_15 rfl (lv_at hl 0 rfl) ?_
  refine lv_iconst (v := 2) hx hb dJ6_bitCount_0f7a4_16 (by decide) ?_
  refine lv_iushr (v := (dc_ushr v1 2)) hx hb dJ6_bitCount_0f7a4_17 rfl ?_
  refine lv_ldcw (v := 858993459) hx hb hown (hu _ q649) dJ6_bitCount_0f7a4_18 ?_
  refine lv_iand hx hb dJ6_bitCount_0f7a4_21 ?_
  refine lv_iadd hx hb dJ6_bitCount_0f7a4_22 ?_
  obtain ⟨v2, hv2, hf⟩ := lt_el hf
  refine lv_tope hv2 ?_
  refine lv_istore_n (lv' := [(0, .int v2)]) hx hb dJ6_bitCount_0f7a4_23 rfl hl (by decide) rfl (fun ls hl => ?_)
  refine lv_iload_n hx hb dJ6_bitCount_0f7a4_24 rfl (lv_at hl 0 rfl) ?_
  refine lv_iload_n hx hb dJ6_bitCount_0f7a4_25 rfl (lv_at hl 0 rfl) ?_
  refine lv_iconst (v := 4) hx hb dJ6_bitCount_0f7a4_26 (by decide) ?_
  refine lv_iushr (v := (dc_ushr v2 4)) hx hb dJ6_bitCount_0f7a4_27 rfl ?_
  refine lv_iadd hx hb dJ6_bitCount_0f7a4_28 ?_
  refine lv_ldcw (v := 252645135) hx hb hown (hu _ q650) dJ6_bitCount_0f7a4_29 ?_
  refine lv_iand hx hb dJ6_bitCount_0f7a4_32 ?_
  obtain ⟨v3, hv3, hf⟩ := lt_el hf
  refine lv_tope hv3 ?_
  refine lv_istore_n (lv' := [(0, .int v3)]) hx hb dJ6_bitCount_0f7a4_33 rfl hl (by decide) rfl (fun ls hl => ?_)
  refine lv_iload_n hx hb dJ6_bitCount_0f7a4_34 rfl (lv_at hl 0 rfl) ?_
  refine lv_iload_n hx hb dJ6_bitCount_0f7a4_35 rfl (lv_at hl 0 rfl) ?_
  refine lv_bipush (v := 8) hx hb dJ6_bitCount_0f7a4_36 (by decide) ?_
  refine lv_iushr (v := (dc_ushr v3 8)) hx hb dJ6_bitCount_0f7a4_38 rfl ?_
  refine lv_iadd hx hb dJ6_bitCount_0f7a4_39 ?_
  obtain ⟨v4, hv4, hf⟩ := lt_el hf
  refine lv_tope hv4 ?_
  refine lv_istore_n (lv' := [(0, .int v4)]) hx hb dJ6_bitCount_0f7a4_40 rfl hl (by decide) rfl (fun ls hl => ?_)
  refine lv_iload_n hx hb dJ6_bitCount_0f7a4_41 rfl (lv_at hl 0 rfl) ?_
  refine lv_iload_n hx hb dJ6_bitCount_0f7a4_42 rfl (lv_at hl 0 rfl) ?_
  refine lv_bipush (v := 16) hx hb dJ6_bitCount_0f7a4_43 (by decide) ?_
  refine lv_iushr (v := (dc_ushr v4 16)) hx hb dJ6_bitCount_0f7a4_45 rfl ?_
  refine lv_iadd hx hb dJ6_bitCount_0f7a4_46 ?_
  obtain ⟨v5, hv5, hf⟩ := lt_el hf
  refine lv_tope hv5 ?_
  refine lv_istore_n (lv' := [(0, .int v5)]) hx hb dJ6_bitCount_0f7a4_47 rfl hl (by decide) rfl (fun ls hl => ?_)
  refine lv_iload_n hx hb dJ6_bitCount_0f7a4_48 rfl (lv_at hl 0 rfl) ?_
  refine lv_bipush (v := 63) hx hb dJ6_bitCount_0f7a4_49 (by decide) ?_
  refine lv_iand hx hb dJ6_bitCount_0f7a4_51 ?_
  have he := Option.some.inj hf
  have e0 := he
  exact hri _ _ _ rfl (congrArg (fun z => some (Value.int z)) e0.symm) dJ6_bitCount_0f7a4_52 _ _ _ rfl hP hD hS

def fJ7_rangeCheck_23922_59 (y0 : Int32) (y2 : Int32) : Option Unit :=
  (if y2 ≤ y0 then some () else none)
def fJ7_rangeCheck_23922_46 (y0 : Int32) (y1 : Int32) (y2 : Int32) : Option Unit :=
  (if 0 ≤ y1 then fJ7_rangeCheck_23922_59 y0 y2 else none)
def fJ7_rangeCheck_23922 (x0 : Int32) (x1 : Int32) (x2 : Int32) : Option Unit :=
  (if x1 ≤ x2 then fJ7_rangeCheck_23922_46 x0 x1 x2 else none)
abbrev rmJ7_rangeCheck_23922 : Room := { frames := 0, cells := 0, slots := 0, locals := 0 }
set_option maxRecDepth 100000 in
set_option maxHeartbeats 4000000 in
theorem tJ7_rangeCheck_23922 (l : Launch) (D : va_G) (cs : Nat → ClassId) (x0 : Int32) (x1 : Int32) (x2 : Int32) (hf : fJ7_rangeCheck_23922 x0 x1 x2 = some ()) : CG l yJ7_rangeCheck_23922 (wsm yJ7_rangeCheck_23922 cJ7_rangeCheck_23922 3 none) rmJ7_rangeCheck_23922 D cs [.int x0, .int x1, .int x2] none ([] : va_W) ([] : va_W) := by
  refine CG.intro (by decide) (Nat.le_of_ble_eq_true rfl) ?_
  intro p e s m below meth c A Q hx hb hml hown hu hK hZ hP0 hD0 hS0 hA hri hrz hrl hrv hra ls0 hl0
  have h59 : ∀ (y0 : Int32) (y2 : Int32) (H : Heap) (locs : List Loc) (ls : Array Slot), va_P D vwCl ([] : va_W) H → va_D A ([] : va_W) → va_S A s.heap H locs → lv_has ls 3 [(0, .int y0), (2, .int y2)] → fJ7_rangeCheck_23922_59 y0 y2 = some () → W p l e rmJ7_rangeCheck_23922 s m [.int x0, .int x1, .int x2].toArray below meth c H locs 0 0 Q (F0 m 59 ls []) := by
    intro y0 y2 H locs ls hP hD hS hl hf
    unfold fJ7_rangeCheck_23922_59 at hf
    refine lv_iload_n hx hb dJ7_rangeCheck_23922_59 rfl (lv_at hl 1 rfl) ?_
    refine lv_iload_n hx hb dJ7_rangeCheck_23922_60 rfl (lv_at hl 0 rfl) ?_
    refine lv_icmp_le (tgt := 73) hx hb dJ7_rangeCheck_23922_61 (by decide) (fun hc3 => ?_) (fun hc3 => ?_)
    · have hf := ip_el hc3 hf
      have he := Option.some.inj hf
      exact hrv _ _ rfl rfl dJ7_rangeCheck_23922_73 _ _ _ rfl hP hD hS
    · have hf := in_el hc3 hf
      exact no_el hf
  have h46 : ∀ (y0 : Int32) (y1 : Int32) (y2 : Int32) (H : Heap) (locs : List Loc) (ls : Array Slot), va_P D vwCl ([] : va_W) H → va_D A ([] : va_W) → va_S A s.heap H locs → lv_has ls 3 [(0, .int y0), (1, .int y1), (2, .int y2)] → fJ7_rangeCheck_23922_46 y0 y1 y2 = some () → W p l e rmJ7_rangeCheck_23922 s m [.int x0, .int x1, .int x2].toArray below meth c H locs 0 0 Q (F0 m 46 ls []) := by
    intro y0 y1 y2 H locs ls hP hD hS hl hf
    unfold fJ7_rangeCheck_23922_46 at hf
    refine lv_iload_n hx hb dJ7_rangeCheck_23922_46 rfl (lv_at hl 1 rfl) ?_
    refine lv_if_ge (tgt := 59) hx hb dJ7_rangeCheck_23922_47 (by decide) (fun hc2 => ?_) (fun hc2 => ?_)
    · have hf := ip_el hc2 hf
      exact h59 y0 y2 _ _ _ hP hD hS (lv_sub hl [0, 2] rfl) hf
    · have hf := in_el hc2 hf
      exact no_el hf
  have hl : lv_has ls0 3 [(0, .int x0), (1, .int x1), (2, .int x2)] := hl0
  have hP := hP0
  have hD := hD0
  have hS := hS0
  unfold fJ7_rangeCheck_23922 at hf
  refine lv_iload_n hx hb dJ7_rangeCheck_23922_0 rfl (lv_at hl 1 rfl) ?_
  refine lv_iload_n hx hb dJ7_rangeCheck_23922_1 rfl (lv_at hl 2 rfl) ?_
  refine lv_icmp_le (tgt := 46) hx hb dJ7_rangeCheck_23922_2 (by decide) (fun hc1 => ?_) (fun hc1 => ?_)
  · have hf := ip_el hc1 hf
    exact h46 x0 x1 x2 _ _ _ hP hD hS (lv_sub hl [0, 1, 2] rfl) hf
  · have hf := in_el hc1 hf
    exact no_el hf

def fJ7_fill_53178_5_s (k5 : Int32 → Int32 → Int32 → (Nat → Int32) → Option (Nat → Int32)) (y1 : Int32) (y2 : Int32) (y3 : Int32) (Ia : (Nat → Int32)) : Option (Nat → Int32) :=
  (if y3 ≤ y2 then some Ia else dc_ck y2 4 (dc_lt (upd Ia (Int32.toNatClampNeg y2) y1) (fun Ia_3 => dc_lt (y2 + 1) (fun v4 => k5 y1 v4 y3 Ia_3))))
def fJ7_fill_53178_5 : Nat → Int32 → Int32 → Int32 → (Nat → Int32) → Option (Nat → Int32)
  | 0 => fun _ _ _ _ => none
  | n + 1 => fJ7_fill_53178_5_s (fJ7_fill_53178_5 n)
def fJ7_fill_53178 (x1 : Int32) (Ia : (Nat → Int32)) : Option (Nat → Int32) :=
  fJ7_fill_53178_5 400 x1 0 4 Ia
abbrev rmJ7_fill_53178 : Room := { frames := 0, cells := 0, slots := 0, locals := 0 }
set_option maxRecDepth 100000 in
set_option maxHeartbeats 4000000 in
theorem tJ7_fill_53178 (l : Launch) (D : va_G) (cs : Nat → ClassId) (ia : Nat → Nat) (x1 : Int32) (Ia : (Nat → Int32)) (Iaz : (Nat → Int32)) (hf : fJ7_fill_53178 x1 Ia = some Iaz) : CG l yJ7_fill_53178 (wsm yJ7_fill_53178 cJ7_fill_53178 4 none) rmJ7_fill_53178 D cs [.ref (ia 0), .int x1] none (kI4 cs ia Ia) (kI4 cs ia Iaz) := by
  refine CG.intro (by decide) (Nat.le_of_ble_eq_true rfl) ?_
  intro p e s m below meth c A Q hx hb hml hown hu hK hZ hP0 hD0 hS0 hA hri hrz hrl hrv hra ls0 hl0
  have hs5 : ∀ (k5 : Int32 → Int32 → Int32 → (Nat → Int32) → Option (Nat → Int32)), (∀ (y1 : Int32) (y2 : Int32) (y3 : Int32) (Ia : (Nat → Int32)) (H : Heap) (locs : List Loc) (ls : Array Slot), va_P D vwCl (kI4 cs ia Ia) H → va_D A (kI4 cs ia Ia) → va_S A s.heap H locs → lv_has ls 4 [(0, .ref (ia 0)), (1, .int y1), (2, .int y2), (3, .int y3)] → k5 y1 y2 y3 Ia = some Iaz → W p l e rmJ7_fill_53178 s m [.ref (ia 0), .int x1].toArray below meth c H locs 0 0 Q (F0 m 5 ls [])) → ∀ (y1 : Int32) (y2 : Int32) (y3 : Int32) (Ia : (Nat → Int32)) (H : Heap) (locs : List Loc) (ls : Array Slot), va_P D vwCl (kI4 cs ia Ia) H → va_D A (kI4 cs ia Ia) → va_S A s.heap H locs → lv_has ls 4 [(0, .ref (ia 0)), (1, .int y1), (2, .int y2), (3, .int y3)] → fJ7_fill_53178_5_s k5 y1 y2 y3 Ia = some Iaz → W p l e rmJ7_fill_53178 s m [.ref (ia 0), .int x1].toArray below meth c H locs 0 0 Q (F0 m 5 ls []) := by
    intro k5 hk5 y1 y2 y3 Ia H locs ls hP hD hS hl hf
    unfold fJ7_fill_53178_5_s at hf
    refine lv_iload_n hx hb dJ7_fill_53178_5 rfl (lv_at hl 2 rfl) ?_
    refine lv_iload_n hx hb dJ7_fill_53178_6 rfl (lv_at hl 3 rfl) ?_
    refine lv_icmp_ge (tgt := 20) hx hb dJ7_fill_53178_7 (by decide) (fun hc1 => ?_) (fun hc1 => ?_)
    · have hf := ip_el hc1 hf
      have he := Option.some.inj hf
      have e0 := he
      exact hrv _ _ rfl rfl dJ7_fill_53178_20 _ _ _ (by rw [e0]) hP hD hS
    · have hf := in_el hc1 hf
      refine lv_aload_n hx hb dJ7_fill_53178_10 rfl (lv_at hl 0 rfl) ?_
      refine lv_iload_n hx hb dJ7_fill_53178_11 rfl (lv_at hl 2 rfl) ?_
      refine lv_iload_n hx hb dJ7_fill_53178_12 rfl (lv_at hl 1 rfl) ?_
      obtain ⟨hi2, hf⟩ := ck_el hf
      obtain ⟨Ia_3, hIa_3, hf⟩ := lt_el hf
      refine va_iast hx hb hK.1 hP hD hS 0 0 rfl rfl hi2 dJ7_fill_53178_13 (fun H locs hP hD hS => ?_)
      have hP : va_P D vwCl (kI4 cs ia Ia_3) H := by rw [hIa_3]; exact hP
      have hD : va_D A (kI4 cs ia Ia_3) := by rw [hIa_3]; exact hD
      obtain ⟨v4, hv4, hf⟩ := lt_el hf
      refine lv_iinc (v := v4) (lv' := [(2, .int v4), (0, .ref (ia 0)), (1, .int y1), (3, .int y3)]) hx hb dJ7_fill_53178_14 hl (k := 2) rfl (by rw [hv4]; rfl) (by decide) rfl (fun ls hl => ?_)
      refine lv_goto (tgt := 5) hx hb dJ7_fill_53178_17 (by decide) ?_
      exact hk5 y1 v4 y3 Ia_3 _ _ _ hP hD hS (lv_sub hl [1, 2, 0, 3] rfl) hf
  have h5 : ∀ (n : Nat), ∀ (y1 : Int32) (y2 : Int32) (y3 : Int32) (Ia : (Nat → Int32)) (H : Heap) (locs : List Loc) (ls : Array Slot), va_P D vwCl (kI4 cs ia Ia) H → va_D A (kI4 cs ia Ia) → va_S A s.heap H locs → lv_has ls 4 [(0, .ref (ia 0)), (1, .int y1), (2, .int y2), (3, .int y3)] → fJ7_fill_53178_5 n y1 y2 y3 Ia = some Iaz → W p l e rmJ7_fill_53178 s m [.ref (ia 0), .int x1].toArray below meth c H locs 0 0 Q (F0 m 5 ls []) := by
    intro n
    induction n with
    | zero => intro y1 y2 y3 Ia H locs ls hP hD hS hl hf; exact no_el hf
    | succ n ih => intro y1 y2 y3 Ia H locs ls hP hD hS hl hf; exact hs5 _ ih y1 y2 y3 Ia _ _ _ hP hD hS hl hf
  have hl : lv_has ls0 4 [(0, .ref (ia 0)), (1, .int x1)] := hl0
  have hP := hP0
  have hD := hD0
  have hS := hS0
  unfold fJ7_fill_53178 at hf
  refine lv_iconst (v := 0) hx hb dJ7_fill_53178_0 (by decide) ?_
  refine lv_istore_n (lv' := [(2, .int 0), (0, .ref (ia 0)), (1, .int x1)]) hx hb dJ7_fill_53178_1 rfl hl (by decide) rfl (fun ls hl => ?_)
  refine lv_aload_n hx hb dJ7_fill_53178_2 rfl (lv_at hl 1 rfl) ?_
  refine va_alen (v := 4) hx hb hK.1 hP 0 0 rfl rfl rfl dJ7_fill_53178_3 ?_
  refine lv_istore_n (lv' := [(3, .int 4), (2, .int 0), (0, .ref (ia 0)), (1, .int x1)]) hx hb dJ7_fill_53178_4 rfl hl (by decide) rfl (fun ls hl => ?_)
  exact h5 400 x1 0 4 Ia _ _ _ hP hD hS (lv_sub hl [2, 3, 1, 0] rfl) hf

def fJ7_fill_fda19_10_s (k10 : Int32 → Int32 → Int32 → (Nat → Int32) → Option (Nat → Int32)) (y2 : Int32) (y3 : Int32) (y4 : Int32) (Ia : (Nat → Int32)) : Option (Nat → Int32) :=
  (if y2 ≤ y4 then some Ia else dc_ck y4 4 (dc_lt (upd Ia (Int32.toNatClampNeg y4) y3) (fun Ia_4 => dc_lt (y4 + 1) (fun v5 => k10 y2 y3 v5 Ia_4))))
def fJ7_fill_fda19_10 : Nat → Int32 → Int32 → Int32 → (Nat → Int32) → Option (Nat → Int32)
  | 0 => fun _ _ _ _ => none
  | n + 1 => fJ7_fill_fda19_10_s (fJ7_fill_fda19_10 n)
def fJ7_fill_fda19 (x1 : Int32) (x2 : Int32) (x3 : Int32) (Ia : (Nat → Int32)) : Option (Nat → Int32) :=
  dc_b1 (fJ7_rangeCheck_23922 4 x1 x2) (fun _ => fJ7_fill_fda19_10 400 x2 x3 x1 Ia)
abbrev rmJ7_fill_fda19 : Room := { frames := 1, cells := 0, slots := 0, locals := 22 }
set_option maxRecDepth 100000 in
set_option maxHeartbeats 4000000 in
theorem tJ7_fill_fda19 (l : Launch) (D : va_G) (cs : Nat → ClassId) (ia : Nat → Nat) (x1 : Int32) (x2 : Int32) (x3 : Int32) (Ia : (Nat → Int32)) (Iaz : (Nat → Int32)) (hf : fJ7_fill_fda19 x1 x2 x3 Ia = some Iaz) : CG l yJ7_fill_fda19 (wsm yJ7_fill_fda19 cJ7_fill_fda19 5 none) rmJ7_fill_fda19 D cs [.ref (ia 0), .int x1, .int x2, .int x3] none (kI4 cs ia Ia) (kI4 cs ia Iaz) := by
  refine CG.intro (by decide) (Nat.le_of_ble_eq_true rfl) ?_
  intro p e s m below meth c A Q hx hb hml hown hu hK hZ hP0 hD0 hS0 hA hri hrz hrl hrv hra ls0 hl0
  have hs10 : ∀ (k10 : Int32 → Int32 → Int32 → (Nat → Int32) → Option (Nat → Int32)), (∀ (y2 : Int32) (y3 : Int32) (y4 : Int32) (Ia : (Nat → Int32)) (H : Heap) (locs : List Loc) (ls : Array Slot), va_P D vwCl (kI4 cs ia Ia) H → va_D A (kI4 cs ia Ia) → va_S A s.heap H locs → lv_has ls 5 [(0, .ref (ia 0)), (2, .int y2), (3, .int y3), (4, .int y4)] → k10 y2 y3 y4 Ia = some Iaz → W p l e rmJ7_fill_fda19 s m [.ref (ia 0), .int x1, .int x2, .int x3].toArray below meth c H locs 0 0 Q (F0 m 10 ls [])) → ∀ (y2 : Int32) (y3 : Int32) (y4 : Int32) (Ia : (Nat → Int32)) (H : Heap) (locs : List Loc) (ls : Array Slot), va_P D vwCl (kI4 cs ia Ia) H → va_D A (kI4 cs ia Ia) → va_S A s.heap H locs → lv_has ls 5 [(0, .ref (ia 0)), (2, .int y2), (3, .int y3), (4, .int y4)] → fJ7_fill_fda19_10_s k10 y2 y3 y4 Ia = some Iaz → W p l e rmJ7_fill_fda19 s m [.ref (ia 0), .int x1, .int x2, .int x3].toArray below meth c H locs 0 0 Q (F0 m 10 ls []) := by
    intro k10 hk10 y2 y3 y4 Ia H locs ls hP hD hS hl hf
    unfold fJ7_fill_fda19_10_s at hf
    refine lv_iload hx hb dJ7_fill_fda19_10 (lv_at hl 3 rfl) ?_
    refine lv_iload_n hx hb dJ7_fill_fda19_12 rfl (lv_at hl 1 rfl) ?_
    refine lv_icmp_ge (tgt := 27) hx hb dJ7_fill_fda19_13 (by decide) (fun hc2 => ?_) (fun hc2 => ?_)
    · have hf := ip_el hc2 hf
      have he := Option.some.inj hf
      have e0 := he
      exact hrv _ _ rfl rfl dJ7_fill_fda19_27 _ _ _ (by rw [e0]) hP hD hS
    · have hf := in_el hc2 hf
      refine lv_aload_n hx hb dJ7_fill_fda19_16 rfl (lv_at hl 0 rfl) ?_
      refine lv_iload hx hb dJ7_fill_fda19_17 (lv_at hl 3 rfl) ?_
      refine lv_iload_n hx hb dJ7_fill_fda19_19 rfl (lv_at hl 2 rfl) ?_
      obtain ⟨hi3, hf⟩ := ck_el hf
      obtain ⟨Ia_4, hIa_4, hf⟩ := lt_el hf
      refine va_iast hx hb hK.1 hP hD hS 0 0 rfl rfl hi3 dJ7_fill_fda19_20 (fun H locs hP hD hS => ?_)
      have hP : va_P D vwCl (kI4 cs ia Ia_4) H := by rw [hIa_4]; exact hP
      have hD : va_D A (kI4 cs ia Ia_4) := by rw [hIa_4]; exact hD
      obtain ⟨v5, hv5, hf⟩ := lt_el hf
      refine lv_iinc (v := v5) (lv' := [(4, .int v5), (0, .ref (ia 0)), (2, .int y2), (3, .int y3)]) hx hb dJ7_fill_fda19_21 hl (k := 3) rfl (by rw [hv5]; rfl) (by decide) rfl (fun ls hl => ?_)
      refine lv_goto (tgt := 10) hx hb dJ7_fill_fda19_24 (by decide) ?_
      exact hk10 y2 y3 v5 Ia_4 _ _ _ hP hD hS (lv_sub hl [1, 2, 3, 0] rfl) hf
  have h10 : ∀ (n : Nat), ∀ (y2 : Int32) (y3 : Int32) (y4 : Int32) (Ia : (Nat → Int32)) (H : Heap) (locs : List Loc) (ls : Array Slot), va_P D vwCl (kI4 cs ia Ia) H → va_D A (kI4 cs ia Ia) → va_S A s.heap H locs → lv_has ls 5 [(0, .ref (ia 0)), (2, .int y2), (3, .int y3), (4, .int y4)] → fJ7_fill_fda19_10 n y2 y3 y4 Ia = some Iaz → W p l e rmJ7_fill_fda19 s m [.ref (ia 0), .int x1, .int x2, .int x3].toArray below meth c H locs 0 0 Q (F0 m 10 ls []) := by
    intro n
    induction n with
    | zero => intro y2 y3 y4 Ia H locs ls hP hD hS hl hf; exact no_el hf
    | succ n ih => intro y2 y3 y4 Ia H locs ls hP hD hS hl hf; exact hs10 _ ih y2 y3 y4 Ia _ _ _ hP hD hS hl hf
  have hl : lv_has ls0 5 [(0, .ref (ia 0)), (1, .int x1), (2, .int x2), (3, .int x3)] := hl0
  have hP := hP0
  have hD := hD0
  have hS := hS0
  unfold fJ7_fill_fda19 at hf
  refine lv_aload_n hx hb dJ7_fill_fda19_0 rfl (lv_at hl 0 rfl) ?_
  refine va_alen (v := 4) hx hb hK.1 hP 0 0 rfl rfl rfl dJ7_fill_fda19_1 ?_
  refine lv_iload_n hx hb dJ7_fill_fda19_2 rfl (lv_at hl 1 rfl) ?_
  refine lv_iload_n hx hb dJ7_fill_fda19_3 rfl (lv_at hl 2 rfl) ?_
  obtain ⟨_, hg1, hf⟩ := b1_el hf
  refine cc_S0 (st1 := []) [.int 4, .int x1, .int x2] hx hb hml hown hu (tJ7_rangeCheck_23922 l D cs 4 x1 x2 hg1) q495 q64 q493 q494 pdJ7_rangeCheck_23922 ⟨rfl, rfl, Nat.le_of_ble_eq_true rfl, Nat.le_of_ble_eq_true rfl⟩ hK hZ hP hD hS hA rfl hl.1 rfl (Nat.le_of_ble_eq_true rfl) dJ7_fill_fda19_4 rfl (fun H locs hP hD hS => ?_)
  refine lv_iload_n hx hb dJ7_fill_fda19_7 rfl (lv_at hl 1 rfl) ?_
  refine lv_istore (lv' := [(4, .int x1), (0, .ref (ia 0)), (1, .int x1), (2, .int x2), (3, .int x3)]) hx hb dJ7_fill_fda19_8 hl (by decide) rfl (fun ls hl => ?_)
  exact h10 400 x2 x3 x1 Ia _ _ _ hP hD hS (lv_sub hl [1, 3, 4, 0] rfl) hf

def fJ7_fill_d0a16_6_s (k6 : Int64 → Int32 → Int32 → LT → Option LT) (y1 : Int64) (y3 : Int32) (y4 : Int32) (Ja : LT) : Option LT :=
  (if y4 ≤ y3 then some Ja else dc_ck y3 40 (dc_lt (vp_updL Ja (Int32.toNatClampNeg y3) y1) (fun Ja_3 => dc_lt (y3 + 1) (fun v4 => k6 y1 v4 y4 Ja_3))))
def fJ7_fill_d0a16_6 : Nat → Int64 → Int32 → Int32 → LT → Option LT
  | 0 => fun _ _ _ _ => none
  | n + 1 => fJ7_fill_d0a16_6_s (fJ7_fill_d0a16_6 n)
def fJ7_fill_d0a16 (x1 : Int64) (Ja : LT) : Option LT :=
  fJ7_fill_d0a16_6 400 x1 0 40 Ja
abbrev rmJ7_fill_d0a16 : Room := { frames := 0, cells := 0, slots := 0, locals := 0 }
set_option maxRecDepth 100000 in
set_option maxHeartbeats 4000000 in
theorem tJ7_fill_d0a16 (l : Launch) (D : va_G) (cs : Nat → ClassId) (ja : Nat → Nat) (x1 : Int64) (Ja : LT) (Jaz : LT) (hf : fJ7_fill_d0a16 x1 Ja = some Jaz) : CG l yJ7_fill_d0a16 (wsm yJ7_fill_d0a16 cJ7_fill_d0a16 5 none) rmJ7_fill_d0a16 D cs [.ref (ja 0), .long x1] none (kJ40 cs ja Ja) (kJ40 cs ja Jaz) := by
  refine CG.intro (by decide) (Nat.le_of_ble_eq_true rfl) ?_
  intro p e s m below meth c A Q hx hb hml hown hu hK hZ hP0 hD0 hS0 hA hri hrz hrl hrv hra ls0 hl0
  have hs6 : ∀ (k6 : Int64 → Int32 → Int32 → LT → Option LT), (∀ (y1 : Int64) (y3 : Int32) (y4 : Int32) (Ja : LT) (H : Heap) (locs : List Loc) (ls : Array Slot), va_P D vwCl (kJ40 cs ja Ja) H → va_D A (kJ40 cs ja Ja) → va_S A s.heap H locs → lv_has ls 5 [(0, .ref (ja 0)), (1, .long y1), (3, .int y3), (4, .int y4)] → k6 y1 y3 y4 Ja = some Jaz → W p l e rmJ7_fill_d0a16 s m [.ref (ja 0), .long x1].toArray below meth c H locs 0 0 Q (F0 m 6 ls [])) → ∀ (y1 : Int64) (y3 : Int32) (y4 : Int32) (Ja : LT) (H : Heap) (locs : List Loc) (ls : Array Slot), va_P D vwCl (kJ40 cs ja Ja) H → va_D A (kJ40 cs ja Ja) → va_S A s.heap H locs → lv_has ls 5 [(0, .ref (ja 0)), (1, .long y1), (3, .int y3), (4, .int y4)] → fJ7_fill_d0a16_6_s k6 y1 y3 y4 Ja = some Jaz → W p l e rmJ7_fill_d0a16 s m [.ref (ja 0), .long x1].toArray below meth c H locs 0 0 Q (F0 m 6 ls []) := by
    intro k6 hk6 y1 y3 y4 Ja H locs ls hP hD hS hl hf
    unfold fJ7_fill_d0a16_6_s at hf
    refine lv_iload_n hx hb dJ7_fill_d0a16_6 rfl (lv_at hl 2 rfl) ?_
    refine lv_iload hx hb dJ7_fill_d0a16_7 (lv_at hl 3 rfl) ?_
    refine lv_icmp_ge (tgt := 22) hx hb dJ7_fill_d0a16_9 (by decide) (fun hc1 => ?_) (fun hc1 => ?_)
    · have hf := ip_el hc1 hf
      have he := Option.some.inj hf
      have e0 := he
      exact hrv _ _ rfl rfl dJ7_fill_d0a16_22 _ _ _ (by rw [e0]) hP hD hS
    · have hf := in_el hc1 hf
      refine lv_aload_n hx hb dJ7_fill_d0a16_12 rfl (lv_at hl 0 rfl) ?_
      refine lv_iload_n hx hb dJ7_fill_d0a16_13 rfl (lv_at hl 2 rfl) ?_
      refine lv_lload_n hx hb dJ7_fill_d0a16_14 rfl (lv_at hl 1 rfl) ?_
      obtain ⟨hi2, hf⟩ := ck_el hf
      obtain ⟨Ja_3, hJa_3, hf⟩ := lt_el hf
      refine va_last hx hb hK.1 hP hD hS 0 1 rfl rfl hi2 dJ7_fill_d0a16_15 (fun H locs hP hD hS => ?_)
      have hP : va_P D vwCl (kJ40 cs ja Ja_3) H := by rw [hJa_3]; exact hP
      have hD : va_D A (kJ40 cs ja Ja_3) := by rw [hJa_3]; exact hD
      obtain ⟨v4, hv4, hf⟩ := lt_el hf
      refine lv_iinc (v := v4) (lv' := [(3, .int v4), (0, .ref (ja 0)), (1, .long y1), (4, .int y4)]) hx hb dJ7_fill_d0a16_16 hl (k := 2) rfl (by rw [hv4]; rfl) (by decide) rfl (fun ls hl => ?_)
      refine lv_goto (tgt := 6) hx hb dJ7_fill_d0a16_19 (by decide) ?_
      exact hk6 y1 v4 y4 Ja_3 _ _ _ hP hD hS (lv_sub hl [1, 2, 0, 3] rfl) hf
  have h6 : ∀ (n : Nat), ∀ (y1 : Int64) (y3 : Int32) (y4 : Int32) (Ja : LT) (H : Heap) (locs : List Loc) (ls : Array Slot), va_P D vwCl (kJ40 cs ja Ja) H → va_D A (kJ40 cs ja Ja) → va_S A s.heap H locs → lv_has ls 5 [(0, .ref (ja 0)), (1, .long y1), (3, .int y3), (4, .int y4)] → fJ7_fill_d0a16_6 n y1 y3 y4 Ja = some Jaz → W p l e rmJ7_fill_d0a16 s m [.ref (ja 0), .long x1].toArray below meth c H locs 0 0 Q (F0 m 6 ls []) := by
    intro n
    induction n with
    | zero => intro y1 y3 y4 Ja H locs ls hP hD hS hl hf; exact no_el hf
    | succ n ih => intro y1 y3 y4 Ja H locs ls hP hD hS hl hf; exact hs6 _ ih y1 y3 y4 Ja _ _ _ hP hD hS hl hf
  have hl : lv_has ls0 5 [(0, .ref (ja 0)), (1, .long x1)] := hl0
  have hP := hP0
  have hD := hD0
  have hS := hS0
  unfold fJ7_fill_d0a16 at hf
  refine lv_iconst (v := 0) hx hb dJ7_fill_d0a16_0 (by decide) ?_
  refine lv_istore_n (lv' := [(3, .int 0), (0, .ref (ja 0)), (1, .long x1)]) hx hb dJ7_fill_d0a16_1 rfl hl (by decide) rfl (fun ls hl => ?_)
  refine lv_aload_n hx hb dJ7_fill_d0a16_2 rfl (lv_at hl 1 rfl) ?_
  refine va_alen (v := 40) hx hb hK.1 hP 0 1 rfl rfl rfl dJ7_fill_d0a16_3 ?_
  refine lv_istore (lv' := [(4, .int 40), (3, .int 0), (0, .ref (ja 0)), (1, .long x1)]) hx hb dJ7_fill_d0a16_4 hl (by decide) rfl (fun ls hl => ?_)
  exact h6 400 x1 0 40 Ja _ _ _ hP hD hS (lv_sub hl [2, 3, 1, 0] rfl) hf

def fJ0_coder_7d493 : Option Int32 :=
  some 0
abbrev rmJ0_coder_7d493 : Room := { frames := 0, cells := 0, slots := 0, locals := 0 }
set_option maxRecDepth 100000 in
set_option maxHeartbeats 4000000 in
theorem tJ0_coder_7d493 (l : Launch) (D : va_G) (cs : Nat → ClassId) (r0 : Int32) (hf : fJ0_coder_7d493 = some r0) : CG l yJ0_coder_7d493 (wsm yJ0_coder_7d493 cJ0_coder_7d493 1 (some .byte)) rmJ0_coder_7d493 D cs [.ref (cs 13)] (some (.int r0)) ([] : va_W) ([] : va_W) := by
  refine CG.intro (by decide) (Nat.le_of_ble_eq_true rfl) ?_
  intro p e s m below meth c A Q hx hb hml hown hu hK hZ hP0 hD0 hS0 hA hri hrz hrl hrv hra ls0 hl0
  have hl : lv_has ls0 1 [(0, .ref (cs 13))] := hl0
  have hP := hP0
  have hD := hD0
  have hS := hS0
  unfold fJ0_coder_7d493 at hf
  refine va_gets hx hb hZ.2.2.2.1 hS hown (hu _ q739) (fun _ h9 => h9) dJ0_coder_7d493_0 ?_
  refine lv_if_eq (tgt := 13) hx hb dJ0_coder_7d493_3 (by decide) (fun hc => absurd hc (by decide)) (fun _ => ?_)
  refine lv_aload_n hx hb dJ0_coder_7d493_6 rfl (lv_at hl 0 rfl) ?_
  refine vk_getf (v := .int 0) hx hb (hZ.2.2.2.2.2.1 0 (by decide)).2.1 hS hown (hu _ q1346) (fun _ h9 => h9) dJ0_coder_7d493_7 ?_
  refine lv_goto (tgt := 14) hx hb dJ0_coder_7d493_10 (by decide) ?_
  have he := Option.some.inj hf
  have e0 := he
  exact hrz _ _ _ .byte rfl rfl (congrArg (fun z => some (Value.int z)) e0.symm) dJ0_coder_7d493_14 _ _ _ rfl hP hD hS

def fJ0_isLatin1_aae02 : Option Int32 :=
  some 1
abbrev rmJ0_isLatin1_aae02 : Room := { frames := 0, cells := 0, slots := 0, locals := 0 }
set_option maxRecDepth 100000 in
set_option maxHeartbeats 4000000 in
theorem tJ0_isLatin1_aae02 (l : Launch) (D : va_G) (cs : Nat → ClassId) (r0 : Int32) (hf : fJ0_isLatin1_aae02 = some r0) : CG l yJ0_isLatin1_aae02 (wsm yJ0_isLatin1_aae02 cJ0_isLatin1_aae02 1 (some .boolean)) rmJ0_isLatin1_aae02 D cs [.ref (cs 13)] (some (.int r0)) ([] : va_W) ([] : va_W) := by
  refine CG.intro (by decide) (Nat.le_of_ble_eq_true rfl) ?_
  intro p e s m below meth c A Q hx hb hml hown hu hK hZ hP0 hD0 hS0 hA hri hrz hrl hrv hra ls0 hl0
  have hl : lv_has ls0 1 [(0, .ref (cs 13))] := hl0
  have hP := hP0
  have hD := hD0
  have hS := hS0
  unfold fJ0_isLatin1_aae02 at hf
  refine va_gets hx hb hZ.2.2.2.1 hS hown (hu _ q739) (fun _ h9 => h9) dJ0_isLatin1_aae02_0 ?_
  refine lv_if_eq (tgt := 17) hx hb dJ0_isLatin1_aae02_3 (by decide) (fun hc => absurd hc (by decide)) (fun _ => ?_)
  refine lv_aload_n hx hb dJ0_isLatin1_aae02_6 rfl (lv_at hl 0 rfl) ?_
  refine vk_getf (v := .int 0) hx hb (hZ.2.2.2.2.2.1 0 (by decide)).2.1 hS hown (hu _ q1346) (fun _ h9 => h9) dJ0_isLatin1_aae02_7 ?_
  refine lv_if_ne (tgt := 17) hx hb dJ0_isLatin1_aae02_10 (by decide) (fun hc => absurd hc (by decide)) (fun _ => ?_)
  refine lv_iconst (v := 1) hx hb dJ0_isLatin1_aae02_13 (by decide) ?_
  refine lv_goto (tgt := 18) hx hb dJ0_isLatin1_aae02_14 (by decide) ?_
  have he := Option.some.inj hf
  have e0 := he
  exact hrz _ _ _ .boolean rfl rfl (congrArg (fun z => some (Value.int z)) e0.symm) dJ0_isLatin1_aae02_18 _ _ _ rfl hP hD hS

def fJ0_length_8abf5 : Option Int32 :=
  dc_b1 (fJ0_coder_7d493) (fun r1 => some ((6 : Int32) >>> (r1 &&& 31)))
abbrev rmJ0_length_8abf5 : Room := { frames := 1, cells := 0, slots := 0, locals := 20 }
set_option maxRecDepth 100000 in
set_option maxHeartbeats 4000000 in
theorem tJ0_length_8abf5 (l : Launch) (D : va_G) (cs : Nat → ClassId) (r0 : Int32) (hf : fJ0_length_8abf5 = some r0) : CG l yJ0_length_8abf5 (wsm yJ0_length_8abf5 cJ0_length_8abf5 1 (some .int)) rmJ0_length_8abf5 D cs [.ref (cs 13)] (some (.int r0)) ([] : va_W) ([] : va_W) := by
  refine CG.intro (by decide) (Nat.le_of_ble_eq_true rfl) ?_
  intro p e s m below meth c A Q hx hb hml hown hu hK hZ hP0 hD0 hS0 hA hri hrz hrl hrv hra ls0 hl0
  have hl : lv_has ls0 1 [(0, .ref (cs 13))] := hl0
  have hP := hP0
  have hD := hD0
  have hS := hS0
  unfold fJ0_length_8abf5 at hf
  refine lv_aload_n hx hb dJ0_length_8abf5_0 rfl (lv_at hl 0 rfl) ?_
  refine vk_getf (v := .ref (cs 14)) hx hb (hZ.2.2.2.2.2.1 0 (by decide)).2.2.1 hS hown (hu _ q1347) (fun _ h9 => h9) dJ0_length_8abf5_1 ?_
  refine va_tlen (v := 6) hx hb (hZ.2.2.2.2.2.1 0 (by decide)).2.2.2 hS (by decide) dJ0_length_8abf5_4 ?_
  refine lv_aload_n hx hb dJ0_length_8abf5_5 rfl (lv_at hl 0 rfl) ?_
  obtain ⟨r1, hg2, hf⟩ := b1_el hf
  refine cc_Z0 (st1 := [.int r1, .int 6]) [] hx hb hml hown hu (tJ0_coder_7d493 l D cs r1 hg2) q748 q66 q745 q746 q747 pdJ0_coder_7d493 ⟨rfl, rfl, Nat.le_of_ble_eq_true rfl, Nat.le_of_ble_eq_true rfl⟩ hK hZ hP hD hS hA (vk_recv hZ.2.2.2.2.2 (i := 0) (by decide) hS) rfl hl.1 rfl (Nat.le_of_ble_eq_true rfl) dJ0_length_8abf5_6 rfl (fun H locs hP hD hS => ?_)
  refine lv_ishr hx hb dJ0_length_8abf5_9 ?_
  have he := Option.some.inj hf
  have e0 := he
  exact hri _ _ _ rfl (congrArg (fun z => some (Value.int z)) e0.symm) dJ0_length_8abf5_10 _ _ _ rfl hP hD hS

def fJ1_canEncode_9a6ad (x0 : Int32) : Option Int32 :=
  (if x0 < 0 then some 0 else (if 255 < x0 then some 0 else some 1))
abbrev rmJ1_canEncode_9a6ad : Room := { frames := 0, cells := 0, slots := 0, locals := 0 }
set_option maxRecDepth 100000 in
set_option maxHeartbeats 4000000 in
theorem tJ1_canEncode_9a6ad (l : Launch) (D : va_G) (cs : Nat → ClassId) (x0 : Int32) (r0 : Int32) (hf : fJ1_canEncode_9a6ad x0 = some r0) : CG l yJ1_canEncode_9a6ad (wsm yJ1_canEncode_9a6ad cJ1_canEncode_9a6ad 1 (some .boolean)) rmJ1_canEncode_9a6ad D cs [.int x0] (some (.int r0)) ([] : va_W) ([] : va_W) := by
  refine CG.intro (by decide) (Nat.le_of_ble_eq_true rfl) ?_
  intro p e s m below meth c A Q hx hb hml hown hu hK hZ hP0 hD0 hS0 hA hri hrz hrl hrv hra ls0 hl0
  have hl : lv_has ls0 1 [(0, .int x0)] := hl0
  have hP := hP0
  have hD := hD0
  have hS := hS0
  unfold fJ1_canEncode_9a6ad at hf
  refine lv_iload_n hx hb dJ1_canEncode_9a6ad_0 rfl (lv_at hl 0 rfl) ?_
  refine lv_if_lt (tgt := 15) hx hb dJ1_canEncode_9a6ad_1 (by decide) (fun hc1 => ?_) (fun hc1 => ?_)
  · have hf := ip_el hc1 hf
    refine lv_iconst (v := 0) hx hb dJ1_canEncode_9a6ad_15 (by decide) ?_
    have he := Option.some.inj hf
    have e0 := he
    exact hrz _ _ _ .boolean rfl rfl (congrArg (fun z => some (Value.int z)) e0.symm) dJ1_canEncode_9a6ad_16 _ _ _ rfl hP hD hS
  · have hf := in_el hc1 hf
    refine lv_iload_n hx hb dJ1_canEncode_9a6ad_4 rfl (lv_at hl 0 rfl) ?_
    refine lv_sipush (v := 255) hx hb dJ1_canEncode_9a6ad_5 (by decide) ?_
    refine lv_icmp_gt (tgt := 15) hx hb dJ1_canEncode_9a6ad_8 (by decide) (fun hc2 => ?_) (fun hc2 => ?_)
    · have hf := ip_el hc2 hf
      refine lv_iconst (v := 0) hx hb dJ1_canEncode_9a6ad_15 (by decide) ?_
      have he := Option.some.inj hf
      have e0 := he
      exact hrz _ _ _ .boolean rfl rfl (congrArg (fun z => some (Value.int z)) e0.symm) dJ1_canEncode_9a6ad_16 _ _ _ rfl hP hD hS
    · have hf := in_el hc2 hf
      refine lv_iconst (v := 1) hx hb dJ1_canEncode_9a6ad_11 (by decide) ?_
      refine lv_goto (tgt := 16) hx hb dJ1_canEncode_9a6ad_12 (by decide) ?_
      have he := Option.some.inj hf
      have e0 := he
      exact hrz _ _ _ .boolean rfl rfl (congrArg (fun z => some (Value.int z)) e0.symm) dJ1_canEncode_9a6ad_16 _ _ _ rfl hP hD hS

def fJ1_indexOfChar_4cfef_7_s (k7 : Int32 → Int32 → Int32 → Option Int32) (y3 : Int32) (y4 : Int32) (y5 : Int32) : Option Int32 :=
  (if y3 ≤ y5 then some (-1) else dc_ck y5 6 ((if (tabS (Int32.toNatClampNeg y5)) = y4 then some y5 else dc_lt (y5 + 1) (fun v5 => k7 y3 y4 v5))))
def fJ1_indexOfChar_4cfef_7 : Nat → Int32 → Int32 → Int32 → Option Int32
  | 0 => fun _ _ _ => none
  | n + 1 => fJ1_indexOfChar_4cfef_7_s (fJ1_indexOfChar_4cfef_7 n)
def fJ1_indexOfChar_4cfef (x1 : Int32) (x2 : Int32) (x3 : Int32) : Option Int32 :=
  dc_lt (x1.toInt8.toInt32) (fun v1 => fJ1_indexOfChar_4cfef_7 400 x3 v1 x2)
abbrev rmJ1_indexOfChar_4cfef : Room := { frames := 0, cells := 0, slots := 0, locals := 0 }
set_option maxRecDepth 100000 in
set_option maxHeartbeats 4000000 in
theorem tJ1_indexOfChar_4cfef (l : Launch) (D : va_G) (cs : Nat → ClassId) (x1 : Int32) (x2 : Int32) (x3 : Int32) (r0 : Int32) (hf : fJ1_indexOfChar_4cfef x1 x2 x3 = some r0) : CG l yJ1_indexOfChar_4cfef (wsm yJ1_indexOfChar_4cfef cJ1_indexOfChar_4cfef 6 (some .int)) rmJ1_indexOfChar_4cfef D cs [.ref (cs 14), .int x1, .int x2, .int x3] (some (.int r0)) ([] : va_W) ([] : va_W) := by
  refine CG.intro (by decide) (Nat.le_of_ble_eq_true rfl) ?_
  intro p e s m below meth c A Q hx hb hml hown hu hK hZ hP0 hD0 hS0 hA hri hrz hrl hrv hra ls0 hl0
  have hs7 : ∀ (k7 : Int32 → Int32 → Int32 → Option Int32), (∀ (y3 : Int32) (y4 : Int32) (y5 : Int32) (H : Heap) (locs : List Loc) (ls : Array Slot), va_P D vwCl ([] : va_W) H → va_D A ([] : va_W) → va_S A s.heap H locs → lv_has ls 6 [(0, .ref (cs 14)), (3, .int y3), (4, .int y4), (5, .int y5)] → k7 y3 y4 y5 = some r0 → W p l e rmJ1_indexOfChar_4cfef s m [.ref (cs 14), .int x1, .int x2, .int x3].toArray below meth c H locs 0 0 Q (F0 m 7 ls [])) → ∀ (y3 : Int32) (y4 : Int32) (y5 : Int32) (H : Heap) (locs : List Loc) (ls : Array Slot), va_P D vwCl ([] : va_W) H → va_D A ([] : va_W) → va_S A s.heap H locs → lv_has ls 6 [(0, .ref (cs 14)), (3, .int y3), (4, .int y4), (5, .int y5)] → fJ1_indexOfChar_4cfef_7_s k7 y3 y4 y5 = some r0 → W p l e rmJ1_indexOfChar_4cfef s m [.ref (cs 14), .int x1, .int x2, .int x3].toArray below meth c H locs 0 0 Q (F0 m 7 ls []) := by
    intro k7 hk7 y3 y4 y5 H locs ls hP hD hS hl hf
    unfold fJ1_indexOfChar_4cfef_7_s at hf
    refine lv_iload hx hb dJ1_indexOfChar_4cfef_7 (lv_at hl 3 rfl) ?_
    refine lv_iload_n hx hb dJ1_indexOfChar_4cfef_9 rfl (lv_at hl 1 rfl) ?_
    refine lv_icmp_ge (tgt := 31) hx hb dJ1_indexOfChar_4cfef_10 (by decide) (fun hc2 => ?_) (fun hc2 => ?_)
    · have hf := ip_el hc2 hf
      refine lv_iconst (v := (-1)) hx hb dJ1_indexOfChar_4cfef_31 (by decide) ?_
      have he := Option.some.inj hf
      have e0 := he
      exact hri _ _ _ rfl (congrArg (fun z => some (Value.int z)) e0.symm) dJ1_indexOfChar_4cfef_32 _ _ _ rfl hP hD hS
    · have hf := in_el hc2 hf
      refine lv_aload_n hx hb dJ1_indexOfChar_4cfef_13 rfl (lv_at hl 0 rfl) ?_
      refine lv_iload hx hb dJ1_indexOfChar_4cfef_14 (lv_at hl 3 rfl) ?_
      obtain ⟨hi3, hf⟩ := ck_el hf
      refine va_tb (v := .int (tabS (Int32.toNatClampNeg y5))) hx hb (hZ.2.2.2.2.2.1 0 (by decide)).2.2.2 hS hi3 rfl dJ1_indexOfChar_4cfef_16 ?_
      refine lv_iload hx hb dJ1_indexOfChar_4cfef_17 (lv_at hl 2 rfl) ?_
      refine lv_icmp_ne (tgt := 25) hx hb dJ1_indexOfChar_4cfef_19 (by decide) (fun hc4 => ?_) (fun hc4 => ?_)
      · have hf := in_el hc4 hf
        obtain ⟨v5, hv5, hf⟩ := lt_el hf
        refine lv_iinc (v := v5) (lv' := [(5, .int v5), (0, .ref (cs 14)), (3, .int y3), (4, .int y4)]) hx hb dJ1_indexOfChar_4cfef_25 hl (k := 3) rfl (by rw [hv5]; rfl) (by decide) rfl (fun ls hl => ?_)
        refine lv_goto (tgt := 7) hx hb dJ1_indexOfChar_4cfef_28 (by decide) ?_
        exact hk7 y3 y4 v5 _ _ _ hP hD hS (lv_sub hl [1, 2, 3, 0] rfl) hf
      · have hf := ip_el hc4 hf
        refine lv_iload hx hb dJ1_indexOfChar_4cfef_22 (lv_at hl 3 rfl) ?_
        have he := Option.some.inj hf
        have e0 := he
        exact hri _ _ _ rfl (congrArg (fun z => some (Value.int z)) e0.symm) dJ1_indexOfChar_4cfef_24 _ _ _ rfl hP hD hS
  have h7 : ∀ (n : Nat), ∀ (y3 : Int32) (y4 : Int32) (y5 : Int32) (H : Heap) (locs : List Loc) (ls : Array Slot), va_P D vwCl ([] : va_W) H → va_D A ([] : va_W) → va_S A s.heap H locs → lv_has ls 6 [(0, .ref (cs 14)), (3, .int y3), (4, .int y4), (5, .int y5)] → fJ1_indexOfChar_4cfef_7 n y3 y4 y5 = some r0 → W p l e rmJ1_indexOfChar_4cfef s m [.ref (cs 14), .int x1, .int x2, .int x3].toArray below meth c H locs 0 0 Q (F0 m 7 ls []) := by
    intro n
    induction n with
    | zero => intro y3 y4 y5 H locs ls hP hD hS hl hf; exact no_el hf
    | succ n ih => intro y3 y4 y5 H locs ls hP hD hS hl hf; exact hs7 _ ih y3 y4 y5 _ _ _ hP hD hS hl hf
  have hl : lv_has ls0 6 [(0, .ref (cs 14)), (1, .int x1), (2, .int x2), (3, .int x3)] := hl0
  have hP := hP0
  have hD := hD0
  have hS := hS0
  unfold fJ1_indexOfChar_4cfef at hf
  refine lv_iload_n hx hb dJ1_indexOfChar_4cfef_0 rfl (lv_at hl 1 rfl) ?_
  refine lv_i2b (v := (x1.toInt8.toInt32)) hx hb dJ1_indexOfChar_4cfef_1 rfl ?_
  obtain ⟨v1, hv1, hf⟩ := lt_el hf
  refine lv_tope hv1 ?_
  refine lv_istore (lv' := [(4, .int v1), (0, .ref (cs 14)), (1, .int x1), (2, .int x2), (3, .int x3)]) hx hb dJ1_indexOfChar_4cfef_2 hl (by decide) rfl (fun ls hl => ?_)
  refine lv_iload_n hx hb dJ1_indexOfChar_4cfef_4 rfl (lv_at hl 3 rfl) ?_
  refine lv_istore (lv' := [(5, .int x2), (4, .int v1), (0, .ref (cs 14)), (1, .int x1), (2, .int x2), (3, .int x3)]) hx hb dJ1_indexOfChar_4cfef_5 hl (by decide) rfl (fun ls hl => ?_)
  exact h7 400 x3 v1 x2 _ _ _ hP hD hS (lv_sub hl [2, 5, 1, 0] rfl) hf

def fJ1_indexOf_4cfef (x1 : Int32) (x2 : Int32) (x3 : Int32) : Option Int32 :=
  dc_b1 (fJ1_canEncode_9a6ad x1) (fun r1 => (if r1 = 0 then some (-1) else dc_lt (if x2 < 0 then 0 else x2) (fun v4 => dc_lt (if 6 < x3 then 6 else x3) (fun v5 => (if v4 < v5 then dc_b1 (fJ1_indexOfChar_4cfef x1 v4 v5) (fun r7 => some r7) else some (-1))))))
abbrev rmJ1_indexOf_4cfef : Room := { frames := 1, cells := 0, slots := 0, locals := 40 }
set_option maxRecDepth 100000 in
set_option maxHeartbeats 4000000 in
theorem tJ1_indexOf_4cfef (l : Launch) (D : va_G) (cs : Nat → ClassId) (x1 : Int32) (x2 : Int32) (x3 : Int32) (r0 : Int32) (hf : fJ1_indexOf_4cfef x1 x2 x3 = some r0) : CG l yJ1_indexOf_4cfef (wsm yJ1_indexOf_4cfef cJ1_indexOf_4cfef 4 (some .int)) rmJ1_indexOf_4cfef D cs [.ref (cs 14), .int x1, .int x2, .int x3] (some (.int r0)) ([] : va_W) ([] : va_W) := by
  refine CG.intro (by decide) (Nat.le_of_ble_eq_true rfl) ?_
  intro p e s m below meth c A Q hx hb hml hown hu hK hZ hP0 hD0 hS0 hA hri hrz hrl hrv hra ls0 hl0
  have hl : lv_has ls0 4 [(0, .ref (cs 14)), (1, .int x1), (2, .int x2), (3, .int x3)] := hl0
  have hP := hP0
  have hD := hD0
  have hS := hS0
  unfold fJ1_indexOf_4cfef at hf
  refine lv_iload_n hx hb dJ1_indexOf_4cfef_0 rfl (lv_at hl 1 rfl) ?_
  obtain ⟨r1, hg2, hf⟩ := b1_el hf
  refine cc_S0 (st1 := [.int r1]) [.int x1] hx hb hml hown hu (tJ1_canEncode_9a6ad l D cs x1 r1 hg2) q754 q67 q752 q753 pdJ1_canEncode_9a6ad ⟨rfl, rfl, Nat.le_of_ble_eq_true rfl, Nat.le_of_ble_eq_true rfl⟩ hK hZ hP hD hS hA rfl hl.1 rfl (Nat.le_of_ble_eq_true rfl) dJ1_indexOf_4cfef_1 rfl (fun H locs hP hD hS => ?_)
  refine lv_if_ne (tgt := 9) hx hb dJ1_indexOf_4cfef_4 (by decide) (fun hc3 => ?_) (fun hc3 => ?_)
  · have hf := in_el hc3 hf
    refine lv_iload_n hx hb dJ1_indexOf_4cfef_9 rfl (lv_at hl 2 rfl) ?_
    refine lv_iconst (v := 0) hx hb dJ1_indexOf_4cfef_10 (by decide) ?_
    refine va_mmax hx hb (hml.trans hl.1.symm) hown (hu _ q755) (hu _ q756) (hu _ q68) (hu _ q757) (Nat.le_of_ble_eq_true rfl) (Nat.le_of_ble_eq_true rfl) (Nat.zero_le _) (Nat.zero_le _) dJ1_indexOf_4cfef_11 ?_
    obtain ⟨v4, hv4, hf⟩ := lt_el hf
    refine lv_tope hv4 ?_
    refine lv_istore_n (lv' := [(2, .int v4), (0, .ref (cs 14)), (1, .int x1), (3, .int x3)]) hx hb dJ1_indexOf_4cfef_14 rfl hl (by decide) rfl (fun ls hl => ?_)
    refine lv_iload_n hx hb dJ1_indexOf_4cfef_15 rfl (lv_at hl 3 rfl) ?_
    refine lv_aload_n hx hb dJ1_indexOf_4cfef_16 rfl (lv_at hl 1 rfl) ?_
    refine va_tlen (v := 6) hx hb (hZ.2.2.2.2.2.1 0 (by decide)).2.2.2 hS (by decide) dJ1_indexOf_4cfef_17 ?_
    refine va_mmin hx hb (hml.trans hl.1.symm) hown (hu _ q758) (hu _ q759) (hu _ q68) (hu _ q760) (Nat.le_of_ble_eq_true rfl) (Nat.le_of_ble_eq_true rfl) (Nat.zero_le _) (Nat.zero_le _) dJ1_indexOf_4cfef_18 ?_
    obtain ⟨v5, hv5, hf⟩ := lt_el hf
    refine lv_tope hv5 ?_
    refine lv_istore_n (lv' := [(3, .int v5), (2, .int v4), (0, .ref (cs 14)), (1, .int x1)]) hx hb dJ1_indexOf_4cfef_21 rfl hl (by decide) rfl (fun ls hl => ?_)
    refine lv_iload_n hx hb dJ1_indexOf_4cfef_22 rfl (lv_at hl 1 rfl) ?_
    refine lv_iload_n hx hb dJ1_indexOf_4cfef_23 rfl (lv_at hl 0 rfl) ?_
    refine lv_icmp_lt (tgt := 29) hx hb dJ1_indexOf_4cfef_24 (by decide) (fun hc6 => ?_) (fun hc6 => ?_)
    · have hf := ip_el hc6 hf
      refine lv_aload_n hx hb dJ1_indexOf_4cfef_29 rfl (lv_at hl 2 rfl) ?_
      refine lv_iload_n hx hb dJ1_indexOf_4cfef_30 rfl (lv_at hl 3 rfl) ?_
      refine lv_iload_n hx hb dJ1_indexOf_4cfef_31 rfl (lv_at hl 1 rfl) ?_
      refine lv_iload_n hx hb dJ1_indexOf_4cfef_32 rfl (lv_at hl 0 rfl) ?_
      obtain ⟨r7, hg8, hf⟩ := b1_el hf
      refine cc_S0 (st1 := [.int r7]) [.ref (cs 14), .int x1, .int v4, .int v5] hx hb hml hown hu (tJ1_indexOfChar_4cfef l D cs x1 v4 v5 r7 hg8) q763 q67 q761 q762 pdJ1_indexOfChar_4cfef ⟨rfl, rfl, Nat.le_of_ble_eq_true rfl, Nat.le_of_ble_eq_true rfl⟩ hK hZ hP hD hS hA rfl hl.1 rfl (Nat.le_of_ble_eq_true rfl) dJ1_indexOf_4cfef_33 rfl (fun H locs hP hD hS => ?_)
      have he := Option.some.inj hf
      have e0 := he
      exact hri _ _ _ rfl (congrArg (fun z => some (Value.int z)) e0.symm) dJ1_indexOf_4cfef_36 _ _ _ rfl hP hD hS
    · have hf := in_el hc6 hf
      refine lv_iconst (v := (-1)) hx hb dJ1_indexOf_4cfef_27 (by decide) ?_
      have he := Option.some.inj hf
      have e0 := he
      exact hri _ _ _ rfl (congrArg (fun z => some (Value.int z)) e0.symm) dJ1_indexOf_4cfef_28 _ _ _ rfl hP hD hS
  · have hf := ip_el hc3 hf
    refine lv_iconst (v := (-1)) hx hb dJ1_indexOf_4cfef_7 (by decide) ?_
    have he := Option.some.inj hf
    have e0 := he
    exact hri _ _ _ rfl (congrArg (fun z => some (Value.int z)) e0.symm) dJ1_indexOf_4cfef_8 _ _ _ rfl hP hD hS

def fJ0_indexOf_7cf53 (x1 : Int32) (x2 : Int32) : Option Int32 :=
  dc_b1 (fJ0_isLatin1_aae02) (fun r1 => (if r1 = 0 then dc_b1 (fJ0_length_8abf5) (fun r4 => none) else dc_b1 (fJ0_length_8abf5) (fun r6 => dc_b1 (fJ1_indexOf_4cfef x1 x2 r6) (fun r8 => some r8))))
abbrev rmJ0_indexOf_7cf53 : Room := { frames := 2, cells := 0, slots := 0, locals := 63 }
set_option maxRecDepth 100000 in
set_option maxHeartbeats 4000000 in
theorem tJ0_indexOf_7cf53 (l : Launch) (D : va_G) (cs : Nat → ClassId) (x1 : Int32) (x2 : Int32) (r0 : Int32) (hf : fJ0_indexOf_7cf53 x1 x2 = some r0) : CG l yJ0_indexOf_7cf53 (wsm yJ0_indexOf_7cf53 cJ0_indexOf_7cf53 3 (some .int)) rmJ0_indexOf_7cf53 D cs [.ref (cs 13), .int x1, .int x2] (some (.int r0)) ([] : va_W) ([] : va_W) := by
  refine CG.intro (by decide) (Nat.le_of_ble_eq_true rfl) ?_
  intro p e s m below meth c A Q hx hb hml hown hu hK hZ hP0 hD0 hS0 hA hri hrz hrl hrv hra ls0 hl0
  have hl : lv_has ls0 3 [(0, .ref (cs 13)), (1, .int x1), (2, .int x2)] := hl0
  have hP := hP0
  have hD := hD0
  have hS := hS0
  unfold fJ0_indexOf_7cf53 at hf
  refine lv_aload_n hx hb dJ0_indexOf_7cf53_0 rfl (lv_at hl 0 rfl) ?_
  obtain ⟨r1, hg2, hf⟩ := b1_el hf
  refine cc_Z0 (st1 := [.int r1]) [] hx hb hml hown hu (tJ0_isLatin1_aae02 l D cs r1 hg2) q738 q66 q735 q736 q737 pdJ0_isLatin1_aae02 ⟨rfl, rfl, Nat.le_of_ble_eq_true rfl, Nat.le_of_ble_eq_true rfl⟩ hK hZ hP hD hS hA (vk_recv hZ.2.2.2.2.2 (i := 0) (by decide) hS) rfl hl.1 rfl (Nat.le_of_ble_eq_true rfl) dJ0_indexOf_7cf53_1 rfl (fun H locs hP hD hS => ?_)
  refine lv_if_eq (tgt := 23) hx hb dJ0_indexOf_7cf53_4 (by decide) (fun hc3 => ?_) (fun hc3 => ?_)
  · have hf := ip_el hc3 hf
    refine lv_aload_n hx hb dJ0_indexOf_7cf53_23 rfl (lv_at hl 0 rfl) ?_
    refine vk_getf (v := .ref (cs 14)) hx hb (hZ.2.2.2.2.2.1 0 (by decide)).2.2.1 hS hown (hu _ q1347) (fun _ h9 => h9) dJ0_indexOf_7cf53_24 ?_
    refine lv_iload_n hx hb dJ0_indexOf_7cf53_27 rfl (lv_at hl 1 rfl) ?_
    refine lv_iload_n hx hb dJ0_indexOf_7cf53_28 rfl (lv_at hl 2 rfl) ?_
    refine lv_aload_n hx hb dJ0_indexOf_7cf53_29 rfl (lv_at hl 0 rfl) ?_
    obtain ⟨r4, hg5, hf⟩ := b1_el hf
    refine cc_Z0 (st1 := [.int r4, .int x2, .int x1, .ref (cs 14)]) [] hx hb hml hown hu (tJ0_length_8abf5 l D cs r4 hg5) q744 q66 q741 q742 q743 pdJ0_length_8abf5 ⟨rfl, rfl, Nat.le_of_ble_eq_true rfl, Nat.le_of_ble_eq_true rfl⟩ hK hZ hP hD hS hA (vk_recv hZ.2.2.2.2.2 (i := 0) (by decide) hS) rfl hl.1 rfl (Nat.le_of_ble_eq_true rfl) dJ0_indexOf_7cf53_30 rfl (fun H locs hP hD hS => ?_)
    exact no_el hf
  · have hf := in_el hc3 hf
    refine lv_aload_n hx hb dJ0_indexOf_7cf53_7 rfl (lv_at hl 0 rfl) ?_
    refine vk_getf (v := .ref (cs 14)) hx hb (hZ.2.2.2.2.2.1 0 (by decide)).2.2.1 hS hown (hu _ q1347) (fun _ h9 => h9) dJ0_indexOf_7cf53_8 ?_
    refine lv_iload_n hx hb dJ0_indexOf_7cf53_11 rfl (lv_at hl 1 rfl) ?_
    refine lv_iload_n hx hb dJ0_indexOf_7cf53_12 rfl (lv_at hl 2 rfl) ?_
    refine lv_aload_n hx hb dJ0_indexOf_7cf53_13 rfl (lv_at hl 0 rfl) ?_
    obtain ⟨r6, hg7, hf⟩ := b1_el hf
    refine cc_Z0 (st1 := [.int r6, .int x2, .int x1, .ref (cs 14)]) [] hx hb hml hown hu (tJ0_length_8abf5 l D cs r6 hg7) q744 q66 q741 q742 q743 pdJ0_length_8abf5 ⟨rfl, rfl, Nat.le_of_ble_eq_true rfl, Nat.le_of_ble_eq_true rfl⟩ hK hZ hP hD hS hA (vk_recv hZ.2.2.2.2.2 (i := 0) (by decide) hS) rfl hl.1 rfl (Nat.le_of_ble_eq_true rfl) dJ0_indexOf_7cf53_14 rfl (fun H locs hP hD hS => ?_)
    obtain ⟨r8, hg9, hf⟩ := b1_el hf
    refine cc_S0 (st1 := [.int r8]) [.ref (cs 14), .int x1, .int x2, .int r6] hx hb hml hown hu (tJ1_indexOf_4cfef l D cs x1 x2 r6 r8 hg9) q751 q67 q749 q750 pdJ1_indexOf_4cfef ⟨rfl, rfl, Nat.le_of_ble_eq_true rfl, Nat.le_of_ble_eq_true rfl⟩ hK hZ hP hD hS hA rfl hl.1 rfl (Nat.le_of_ble_eq_true rfl) dJ0_indexOf_7cf53_17 rfl (fun H locs hP hD hS => ?_)
    refine lv_goto (tgt := 36) hx hb dJ0_indexOf_7cf53_20 (by decide) ?_
    have he := Option.some.inj hf
    have e0 := he
    exact hri _ _ _ rfl (congrArg (fun z => some (Value.int z)) e0.symm) dJ0_indexOf_7cf53_36 _ _ _ rfl hP hD hS

def fJ0_indexOf_0f7a4 (x1 : Int32) : Option Int32 :=
  dc_b1 (fJ0_indexOf_7cf53 x1 0) (fun r1 => some r1)
abbrev rmJ0_indexOf_0f7a4 : Room := { frames := 3, cells := 0, slots := 0, locals := 85 }
set_option maxRecDepth 100000 in
set_option maxHeartbeats 4000000 in
theorem tJ0_indexOf_0f7a4 (l : Launch) (D : va_G) (cs : Nat → ClassId) (x1 : Int32) (r0 : Int32) (hf : fJ0_indexOf_0f7a4 x1 = some r0) : CG l yJ0_indexOf_0f7a4 (wsm yJ0_indexOf_0f7a4 cJ0_indexOf_0f7a4 2 (some .int)) rmJ0_indexOf_0f7a4 D cs [.ref (cs 13), .int x1] (some (.int r0)) ([] : va_W) ([] : va_W) := by
  refine CG.intro (by decide) (Nat.le_of_ble_eq_true rfl) ?_
  intro p e s m below meth c A Q hx hb hml hown hu hK hZ hP0 hD0 hS0 hA hri hrz hrl hrv hra ls0 hl0
  have hl : lv_has ls0 2 [(0, .ref (cs 13)), (1, .int x1)] := hl0
  have hP := hP0
  have hD := hD0
  have hS := hS0
  unfold fJ0_indexOf_0f7a4 at hf
  refine lv_aload_n hx hb dJ0_indexOf_0f7a4_0 rfl (lv_at hl 0 rfl) ?_
  refine lv_iload_n hx hb dJ0_indexOf_0f7a4_1 rfl (lv_at hl 1 rfl) ?_
  refine lv_iconst (v := 0) hx hb dJ0_indexOf_0f7a4_2 (by decide) ?_
  obtain ⟨r1, hg2, hf⟩ := b1_el hf
  refine cc_Z0 (st1 := [.int r1]) [.int x1, .int 0] hx hb hml hown hu (tJ0_indexOf_7cf53 l D cs x1 0 r1 hg2) q734 q66 q731 q732 q733 pdJ0_indexOf_7cf53 ⟨rfl, rfl, Nat.le_of_ble_eq_true rfl, Nat.le_of_ble_eq_true rfl⟩ hK hZ hP hD hS hA (vk_recv hZ.2.2.2.2.2 (i := 0) (by decide) hS) rfl hl.1 rfl (Nat.le_of_ble_eq_true rfl) dJ0_indexOf_0f7a4_3 rfl (fun H locs hP hD hS => ?_)
  have he := Option.some.inj hf
  have e0 := he
  exact hri _ _ _ rfl (congrArg (fun z => some (Value.int z)) e0.symm) dJ0_indexOf_0f7a4_6 _ _ _ rfl hP hD hS

def fX7_within (x0 : Int32) (x1 : Int32) (x2 : Int32) : Option Int32 :=
  (if x0 < x1 then some 0 else (if x2 < x0 then some 0 else some 1))
abbrev rmX7_within : Room := { frames := 0, cells := 0, slots := 0, locals := 0 }
set_option maxRecDepth 100000 in
set_option maxHeartbeats 4000000 in
theorem tX7_within (l : Launch) (D : va_G) (cs : Nat → ClassId) (x0 : Int32) (x1 : Int32) (x2 : Int32) (r0 : Int32) (hf : fX7_within x0 x1 x2 = some r0) : CG l yX7_within (wsm yX7_within cX7_within 3 (some .boolean)) rmX7_within D cs [.int x0, .int x1, .int x2] (some (.int r0)) ([] : va_W) ([] : va_W) := by
  refine CG.intro (by decide) (Nat.le_of_ble_eq_true rfl) ?_
  intro p e s m below meth c A Q hx hb hml hown hu hK hZ hP0 hD0 hS0 hA hri hrz hrl hrv hra ls0 hl0
  have hl : lv_has ls0 3 [(0, .int x0), (1, .int x1), (2, .int x2)] := hl0
  have hP := hP0
  have hD := hD0
  have hS := hS0
  unfold fX7_within at hf
  refine lv_iload_n hx hb dX7_within_0 rfl (lv_at hl 0 rfl) ?_
  refine lv_iload_n hx hb dX7_within_1 rfl (lv_at hl 1 rfl) ?_
  refine lv_icmp_lt (tgt := 14) hx hb dX7_within_2 (by decide) (fun hc1 => ?_) (fun hc1 => ?_)
  · have hf := ip_el hc1 hf
    refine lv_iconst (v := 0) hx hb dX7_within_14 (by decide) ?_
    have he := Option.some.inj hf
    have e0 := he
    exact hrz _ _ _ .boolean rfl rfl (congrArg (fun z => some (Value.int z)) e0.symm) dX7_within_15 _ _ _ rfl hP hD hS
  · have hf := in_el hc1 hf
    refine lv_iload_n hx hb dX7_within_5 rfl (lv_at hl 0 rfl) ?_
    refine lv_iload_n hx hb dX7_within_6 rfl (lv_at hl 2 rfl) ?_
    refine lv_icmp_gt (tgt := 14) hx hb dX7_within_7 (by decide) (fun hc2 => ?_) (fun hc2 => ?_)
    · have hf := ip_el hc2 hf
      refine lv_iconst (v := 0) hx hb dX7_within_14 (by decide) ?_
      have he := Option.some.inj hf
      have e0 := he
      exact hrz _ _ _ .boolean rfl rfl (congrArg (fun z => some (Value.int z)) e0.symm) dX7_within_15 _ _ _ rfl hP hD hS
    · have hf := in_el hc2 hf
      refine lv_iconst (v := 1) hx hb dX7_within_10 (by decide) ?_
      refine lv_goto (tgt := 15) hx hb dX7_within_11 (by decide) ?_
      have he := Option.some.inj hf
      have e0 := he
      exact hrz _ _ _ .boolean rfl rfl (congrArg (fun z => some (Value.int z)) e0.symm) dX7_within_15 _ _ _ rfl hP hD hS

def fX7_isIn (x0 : Int32) (x1 : Int32) : Option Int32 :=
  (if x1 < 0 then some 0 else (if 10 ≤ x1 then some 0 else (if ((x0 >>> (x1 &&& 31)) &&& 1) = 1 then some 1 else some 0)))
abbrev rmX7_isIn : Room := { frames := 0, cells := 0, slots := 0, locals := 0 }
set_option maxRecDepth 100000 in
set_option maxHeartbeats 4000000 in
theorem tX7_isIn (l : Launch) (D : va_G) (cs : Nat → ClassId) (x0 : Int32) (x1 : Int32) (r0 : Int32) (hf : fX7_isIn x0 x1 = some r0) : CG l yX7_isIn (wsm yX7_isIn cX7_isIn 2 (some .boolean)) rmX7_isIn D cs [.int x0, .int x1] (some (.int r0)) ([] : va_W) ([] : va_W) := by
  refine CG.intro (by decide) (Nat.le_of_ble_eq_true rfl) ?_
  intro p e s m below meth c A Q hx hb hml hown hu hK hZ hP0 hD0 hS0 hA hri hrz hrl hrv hra ls0 hl0
  have hl : lv_has ls0 2 [(0, .int x0), (1, .int x1)] := hl0
  have hP := hP0
  have hD := hD0
  have hS := hS0
  unfold fX7_isIn at hf
  refine lv_iload_n hx hb dX7_isIn_0 rfl (lv_at hl 1 rfl) ?_
  refine lv_if_lt (tgt := 23) hx hb dX7_isIn_1 (by decide) (fun hc1 => ?_) (fun hc1 => ?_)
  · have hf := ip_el hc1 hf
    refine lv_iconst (v := 0) hx hb dX7_isIn_23 (by decide) ?_
    have he := Option.some.inj hf
    have e0 := he
    exact hrz _ _ _ .boolean rfl rfl (congrArg (fun z => some (Value.int z)) e0.symm) dX7_isIn_24 _ _ _ rfl hP hD hS
  · have hf := in_el hc1 hf
    refine lv_iload_n hx hb dX7_isIn_4 rfl (lv_at hl 1 rfl) ?_
    refine lv_bipush (v := 10) hx hb dX7_isIn_5 (by decide) ?_
    refine lv_icmp_ge (tgt := 23) hx hb dX7_isIn_7 (by decide) (fun hc2 => ?_) (fun hc2 => ?_)
    · have hf := ip_el hc2 hf
      refine lv_iconst (v := 0) hx hb dX7_isIn_23 (by decide) ?_
      have he := Option.some.inj hf
      have e0 := he
      exact hrz _ _ _ .boolean rfl rfl (congrArg (fun z => some (Value.int z)) e0.symm) dX7_isIn_24 _ _ _ rfl hP hD hS
    · have hf := in_el hc2 hf
      refine lv_iload_n hx hb dX7_isIn_10 rfl (lv_at hl 0 rfl) ?_
      refine lv_iload_n hx hb dX7_isIn_11 rfl (lv_at hl 1 rfl) ?_
      refine lv_ishr hx hb dX7_isIn_12 ?_
      refine lv_iconst (v := 1) hx hb dX7_isIn_13 (by decide) ?_
      refine lv_iand hx hb dX7_isIn_14 ?_
      refine lv_iconst (v := 1) hx hb dX7_isIn_15 (by decide) ?_
      refine lv_icmp_ne (tgt := 23) hx hb dX7_isIn_16 (by decide) (fun hc3 => ?_) (fun hc3 => ?_)
      · have hf := in_el hc3 hf
        refine lv_iconst (v := 0) hx hb dX7_isIn_23 (by decide) ?_
        have he := Option.some.inj hf
        have e0 := he
        exact hrz _ _ _ .boolean rfl rfl (congrArg (fun z => some (Value.int z)) e0.symm) dX7_isIn_24 _ _ _ rfl hP hD hS
      · have hf := ip_el hc3 hf
        refine lv_iconst (v := 1) hx hb dX7_isIn_19 (by decide) ?_
        refine lv_goto (tgt := 24) hx hb dX7_isIn_20 (by decide) ?_
        have he := Option.some.inj hf
        have e0 := he
        exact hrz _ _ _ .boolean rfl rfl (congrArg (fun z => some (Value.int z)) e0.symm) dX7_isIn_24 _ _ _ rfl hP hD hS

def fX7_isSort (x0 : Int32) : Option Int32 :=
  dc_b1 (fX7_within x0 0 3) (fun r1 => dc_bl r1 (some r1))
abbrev rmX7_isSort : Room := { frames := 1, cells := 0, slots := 0, locals := 22 }
set_option maxRecDepth 100000 in
set_option maxHeartbeats 4000000 in
theorem tX7_isSort (l : Launch) (D : va_G) (cs : Nat → ClassId) (x0 : Int32) (r0 : Int32) (hf : fX7_isSort x0 = some r0) : CG l yX7_isSort (wsm yX7_isSort cX7_isSort 1 (some .boolean)) rmX7_isSort D cs [.int x0] (some (.int r0)) ([] : va_W) ([] : va_W) := by
  refine CG.intro (by decide) (Nat.le_of_ble_eq_true rfl) ?_
  intro p e s m below meth c A Q hx hb hml hown hu hK hZ hP0 hD0 hS0 hA hri hrz hrl hrv hra ls0 hl0
  have hl : lv_has ls0 1 [(0, .int x0)] := hl0
  have hP := hP0
  have hD := hD0
  have hS := hS0
  unfold fX7_isSort at hf
  refine lv_iload_n hx hb dX7_isSort_0 rfl (lv_at hl 0 rfl) ?_
  refine lv_iconst (v := 0) hx hb dX7_isSort_1 (by decide) ?_
  refine lv_iconst (v := 3) hx hb dX7_isSort_2 (by decide) ?_
  obtain ⟨r1, hg2, hf⟩ := b1_el hf
  refine cc_S0 (st1 := [.int r1]) [.int x0, .int 0, .int 3] hx hb hml hown hu (tX7_within l D cs x0 0 3 r1 hg2) q331 q54 q329 q330 pdX7_within ⟨rfl, rfl, Nat.le_of_ble_eq_true rfl, Nat.le_of_ble_eq_true rfl⟩ hK hZ hP hD hS hA rfl hl.1 rfl (Nat.le_of_ble_eq_true rfl) dX7_isSort_3 rfl (fun H locs hP hD hS => ?_)
  obtain ⟨hbl, hf⟩ := bl_el hf
  have he := Option.some.inj hf
  have e0 := he
  exact hrz _ _ _ .boolean rfl (bl_nar hbl) (congrArg (fun z => some (Value.int z)) e0.symm) dX7_isSort_6 _ _ _ rfl hP hD hS

def fX7_isChairs (x0 : Int32) : Option Int32 :=
  dc_b1 (fX7_within x0 1 200) (fun r1 => dc_bl r1 (some r1))
abbrev rmX7_isChairs : Room := { frames := 1, cells := 0, slots := 0, locals := 22 }
set_option maxRecDepth 100000 in
set_option maxHeartbeats 4000000 in
theorem tX7_isChairs (l : Launch) (D : va_G) (cs : Nat → ClassId) (x0 : Int32) (r0 : Int32) (hf : fX7_isChairs x0 = some r0) : CG l yX7_isChairs (wsm yX7_isChairs cX7_isChairs 1 (some .boolean)) rmX7_isChairs D cs [.int x0] (some (.int r0)) ([] : va_W) ([] : va_W) := by
  refine CG.intro (by decide) (Nat.le_of_ble_eq_true rfl) ?_
  intro p e s m below meth c A Q hx hb hml hown hu hK hZ hP0 hD0 hS0 hA hri hrz hrl hrv hra ls0 hl0
  have hl : lv_has ls0 1 [(0, .int x0)] := hl0
  have hP := hP0
  have hD := hD0
  have hS := hS0
  unfold fX7_isChairs at hf
  refine lv_iload_n hx hb dX7_isChairs_0 rfl (lv_at hl 0 rfl) ?_
  refine lv_iconst (v := 1) hx hb dX7_isChairs_1 (by decide) ?_
  refine lv_sipush (v := 200) hx hb dX7_isChairs_2 (by decide) ?_
  obtain ⟨r1, hg2, hf⟩ := b1_el hf
  refine cc_S0 (st1 := [.int r1]) [.int x0, .int 1, .int 200] hx hb hml hown hu (tX7_within l D cs x0 1 200 r1 hg2) q331 q54 q329 q330 pdX7_within ⟨rfl, rfl, Nat.le_of_ble_eq_true rfl, Nat.le_of_ble_eq_true rfl⟩ hK hZ hP hD hS hA rfl hl.1 rfl (Nat.le_of_ble_eq_true rfl) dX7_isChairs_5 rfl (fun H locs hP hD hS => ?_)
  obtain ⟨hbl, hf⟩ := bl_el hf
  have he := Option.some.inj hf
  have e0 := he
  exact hrz _ _ _ .boolean rfl (bl_nar hbl) (congrArg (fun z => some (Value.int z)) e0.symm) dX7_isChairs_8 _ _ _ rfl hP hD hS

def fX7_isSheet (x0 : Int32) : Option Int32 :=
  dc_b1 (fX7_within x0 0 3) (fun r1 => dc_bl r1 (some r1))
abbrev rmX7_isSheet : Room := { frames := 1, cells := 0, slots := 0, locals := 22 }
set_option maxRecDepth 100000 in
set_option maxHeartbeats 4000000 in
theorem tX7_isSheet (l : Launch) (D : va_G) (cs : Nat → ClassId) (x0 : Int32) (r0 : Int32) (hf : fX7_isSheet x0 = some r0) : CG l yX7_isSheet (wsm yX7_isSheet cX7_isSheet 1 (some .boolean)) rmX7_isSheet D cs [.int x0] (some (.int r0)) ([] : va_W) ([] : va_W) := by
  refine CG.intro (by decide) (Nat.le_of_ble_eq_true rfl) ?_
  intro p e s m below meth c A Q hx hb hml hown hu hK hZ hP0 hD0 hS0 hA hri hrz hrl hrv hra ls0 hl0
  have hl : lv_has ls0 1 [(0, .int x0)] := hl0
  have hP := hP0
  have hD := hD0
  have hS := hS0
  unfold fX7_isSheet at hf
  refine lv_iload_n hx hb dX7_isSheet_0 rfl (lv_at hl 0 rfl) ?_
  refine lv_iconst (v := 0) hx hb dX7_isSheet_1 (by decide) ?_
  refine lv_iconst (v := 3) hx hb dX7_isSheet_2 (by decide) ?_
  obtain ⟨r1, hg2, hf⟩ := b1_el hf
  refine cc_S0 (st1 := [.int r1]) [.int x0, .int 0, .int 3] hx hb hml hown hu (tX7_within l D cs x0 0 3 r1 hg2) q331 q54 q329 q330 pdX7_within ⟨rfl, rfl, Nat.le_of_ble_eq_true rfl, Nat.le_of_ble_eq_true rfl⟩ hK hZ hP hD hS hA rfl hl.1 rfl (Nat.le_of_ble_eq_true rfl) dX7_isSheet_3 rfl (fun H locs hP hD hS => ?_)
  obtain ⟨hbl, hf⟩ := bl_el hf
  have he := Option.some.inj hf
  have e0 := he
  exact hrz _ _ _ .boolean rfl (bl_nar hbl) (congrArg (fun z => some (Value.int z)) e0.symm) dX7_isSheet_6 _ _ _ rfl hP hD hS

def fX7_isTrait (x0 : Int32) (x1 : Int32) : Option Int32 :=
  (if x0 = 0 then dc_b1 (fX7_within x1 0 6) (fun r2 => dc_bl r2 (some r2)) else if x0 = 1 then dc_b1 (fX7_within x1 20 99) (fun r5 => dc_bl r5 (some r5)) else if x0 = 2 then dc_b1 (fX7_isSort x1) (fun r8 => dc_bl r8 (some r8)) else if x0 = 3 then dc_b1 (fX7_within x1 0 1023) (fun r11 => dc_bl r11 (some r11)) else some 0)
abbrev rmX7_isTrait : Room := { frames := 2, cells := 0, slots := 0, locals := 42 }
set_option maxRecDepth 100000 in
set_option maxHeartbeats 4000000 in
theorem tX7_isTrait (l : Launch) (D : va_G) (cs : Nat → ClassId) (x0 : Int32) (x1 : Int32) (r0 : Int32) (hf : fX7_isTrait x0 x1 = some r0) : CG l yX7_isTrait (wsm yX7_isTrait cX7_isTrait 2 (some .boolean)) rmX7_isTrait D cs [.int x0, .int x1] (some (.int r0)) ([] : va_W) ([] : va_W) := by
  refine CG.intro (by decide) (Nat.le_of_ble_eq_true rfl) ?_
  intro p e s m below meth c A Q hx hb hml hown hu hK hZ hP0 hD0 hS0 hA hri hrz hrl hrv hra ls0 hl0
  have hl : lv_has ls0 2 [(0, .int x0), (1, .int x1)] := hl0
  have hP := hP0
  have hD := hD0
  have hS := hS0
  unfold fX7_isTrait at hf
  refine lv_iload_n hx hb dX7_isTrait_0 rfl (lv_at hl 0 rfl) ?_
  by_cases hc1 : x0 = 0
  · have hf := ip_el hc1 hf
    refine lv_tableIn (off := 31) (tgt := 32) hx hb dX7_isTrait_1 (by rw [hc1]; decide) (by rw [hc1]; decide) (by rw [hc1]; decide) (by decide) ?_
    refine lv_iload_n hx hb dX7_isTrait_32 rfl (lv_at hl 1 rfl) ?_
    refine lv_iconst (v := 0) hx hb dX7_isTrait_33 (by decide) ?_
    refine lv_bipush (v := 6) hx hb dX7_isTrait_34 (by decide) ?_
    obtain ⟨r2, hg3, hf⟩ := b1_el hf
    refine cc_S0 (st1 := [.int r2]) [.int x1, .int 0, .int 6] hx hb hml hown hu (tX7_within l D cs x1 0 6 r2 hg3) q331 q54 q329 q330 pdX7_within ⟨rfl, rfl, Nat.le_of_ble_eq_true rfl, Nat.le_of_ble_eq_true rfl⟩ hK hZ hP hD hS hA rfl hl.1 rfl (Nat.le_of_ble_eq_true rfl) dX7_isTrait_36 rfl (fun H locs hP hD hS => ?_)
    obtain ⟨hbl, hf⟩ := bl_el hf
    have he := Option.some.inj hf
    have e0 := he
    exact hrz _ _ _ .boolean rfl (bl_nar hbl) (congrArg (fun z => some (Value.int z)) e0.symm) dX7_isTrait_39 _ _ _ rfl hP hD hS
  have hf := in_el hc1 hf
  by_cases hc4 : x0 = 1
  · have hf := ip_el hc4 hf
    refine lv_tableIn (off := 39) (tgt := 40) hx hb dX7_isTrait_1 (by rw [hc4]; decide) (by rw [hc4]; decide) (by rw [hc4]; decide) (by decide) ?_
    refine lv_iload_n hx hb dX7_isTrait_40 rfl (lv_at hl 1 rfl) ?_
    refine lv_bipush (v := 20) hx hb dX7_isTrait_41 (by decide) ?_
    refine lv_bipush (v := 99) hx hb dX7_isTrait_43 (by decide) ?_
    obtain ⟨r5, hg6, hf⟩ := b1_el hf
    refine cc_S0 (st1 := [.int r5]) [.int x1, .int 20, .int 99] hx hb hml hown hu (tX7_within l D cs x1 20 99 r5 hg6) q331 q54 q329 q330 pdX7_within ⟨rfl, rfl, Nat.le_of_ble_eq_true rfl, Nat.le_of_ble_eq_true rfl⟩ hK hZ hP hD hS hA rfl hl.1 rfl (Nat.le_of_ble_eq_true rfl) dX7_isTrait_45 rfl (fun H locs hP hD hS => ?_)
    obtain ⟨hbl, hf⟩ := bl_el hf
    have he := Option.some.inj hf
    have e0 := he
    exact hrz _ _ _ .boolean rfl (bl_nar hbl) (congrArg (fun z => some (Value.int z)) e0.symm) dX7_isTrait_48 _ _ _ rfl hP hD hS
  have hf := in_el hc4 hf
  by_cases hc7 : x0 = 2
  · have hf := ip_el hc7 hf
    refine lv_tableIn (off := 48) (tgt := 49) hx hb dX7_isTrait_1 (by rw [hc7]; decide) (by rw [hc7]; decide) (by rw [hc7]; decide) (by decide) ?_
    refine lv_iload_n hx hb dX7_isTrait_49 rfl (lv_at hl 1 rfl) ?_
    obtain ⟨r8, hg9, hf⟩ := b1_el hf
    refine cc_S0 (st1 := [.int r8]) [.int x1] hx hb hml hown hu (tX7_isSort l D cs x1 r8 hg9) q334 q54 q332 q333 pdX7_isSort ⟨rfl, rfl, Nat.le_of_ble_eq_true rfl, Nat.le_of_ble_eq_true rfl⟩ hK hZ hP hD hS hA rfl hl.1 rfl (Nat.le_of_ble_eq_true rfl) dX7_isTrait_50 rfl (fun H locs hP hD hS => ?_)
    obtain ⟨hbl, hf⟩ := bl_el hf
    have he := Option.some.inj hf
    have e0 := he
    exact hrz _ _ _ .boolean rfl (bl_nar hbl) (congrArg (fun z => some (Value.int z)) e0.symm) dX7_isTrait_53 _ _ _ rfl hP hD hS
  have hf := in_el hc7 hf
  by_cases hc10 : x0 = 3
  · have hf := ip_el hc10 hf
    refine lv_tableIn (off := 53) (tgt := 54) hx hb dX7_isTrait_1 (by rw [hc10]; decide) (by rw [hc10]; decide) (by rw [hc10]; decide) (by decide) ?_
    refine lv_iload_n hx hb dX7_isTrait_54 rfl (lv_at hl 1 rfl) ?_
    refine lv_iconst (v := 0) hx hb dX7_isTrait_55 (by decide) ?_
    refine lv_sipush (v := 1023) hx hb dX7_isTrait_56 (by decide) ?_
    obtain ⟨r11, hg12, hf⟩ := b1_el hf
    refine cc_S0 (st1 := [.int r11]) [.int x1, .int 0, .int 1023] hx hb hml hown hu (tX7_within l D cs x1 0 1023 r11 hg12) q331 q54 q329 q330 pdX7_within ⟨rfl, rfl, Nat.le_of_ble_eq_true rfl, Nat.le_of_ble_eq_true rfl⟩ hK hZ hP hD hS hA rfl hl.1 rfl (Nat.le_of_ble_eq_true rfl) dX7_isTrait_59 rfl (fun H locs hP hD hS => ?_)
    obtain ⟨hbl, hf⟩ := bl_el hf
    have he := Option.some.inj hf
    have e0 := he
    exact hrz _ _ _ .boolean rfl (bl_nar hbl) (congrArg (fun z => some (Value.int z)) e0.symm) dX7_isTrait_62 _ _ _ rfl hP hD hS
  have hf := in_el hc10 hf
  have nhc1 := sw_ne (a := 0) hc1 (by decide)
  have nhc4 := sw_ne (a := 1) hc4 (by decide)
  have nhc7 := sw_ne (a := 2) hc7 (by decide)
  have nhc10 := sw_ne (a := 3) hc10 (by decide)
  refine lv_tableOut (tgt := 63) hx hb dX7_isTrait_1 (by omega) (by decide) ?_
  refine lv_iconst (v := 0) hx hb dX7_isTrait_63 (by decide) ?_
  have he := Option.some.inj hf
  have e0 := he
  exact hrz _ _ _ .boolean rfl rfl (congrArg (fun z => some (Value.int z)) e0.symm) dX7_isTrait_64 _ _ _ rfl hP hD hS

def fX7_isUnder_4_s (k4 : Int32 → Int32 → Int32 → Option Int32) (y1 : Int32) (y2 : Int32) (y3 : Int32) : Option Int32 :=
  (if 7 ≤ y3 then some 0 else (if y2 < 0 then some 0 else (if 7 ≤ y2 then some 0 else (if y2 = y1 then some 1 else dc_ck y2 7 (dc_lt (tabK (Int32.toNatClampNeg y2)) (fun v6 => dc_lt (y3 + 1) (fun v7 => k4 y1 v6 v7)))))))
def fX7_isUnder_4 : Nat → Int32 → Int32 → Int32 → Option Int32
  | 0 => fun _ _ _ => none
  | n + 1 => fX7_isUnder_4_s (fX7_isUnder_4 n)
def fX7_isUnder (x0 : Int32) (x1 : Int32) : Option Int32 :=
  fX7_isUnder_4 400 x1 x0 0
abbrev rmX7_isUnder : Room := { frames := 0, cells := 0, slots := 0, locals := 0 }
set_option maxRecDepth 100000 in
set_option maxHeartbeats 4000000 in
theorem tX7_isUnder (l : Launch) (D : va_G) (cs : Nat → ClassId) (x0 : Int32) (x1 : Int32) (r0 : Int32) (hf : fX7_isUnder x0 x1 = some r0) : CG l yX7_isUnder (wsm yX7_isUnder cX7_isUnder 4 (some .boolean)) rmX7_isUnder D cs [.int x0, .int x1] (some (.int r0)) ([] : va_W) ([] : va_W) := by
  refine CG.intro (by decide) (Nat.le_of_ble_eq_true rfl) ?_
  intro p e s m below meth c A Q hx hb hml hown hu hK hZ hP0 hD0 hS0 hA hri hrz hrl hrv hra ls0 hl0
  have hs4 : ∀ (k4 : Int32 → Int32 → Int32 → Option Int32), (∀ (y1 : Int32) (y2 : Int32) (y3 : Int32) (H : Heap) (locs : List Loc) (ls : Array Slot), va_P D vwCl ([] : va_W) H → va_D A ([] : va_W) → va_S A s.heap H locs → lv_has ls 4 [(1, .int y1), (2, .int y2), (3, .int y3)] → k4 y1 y2 y3 = some r0 → W p l e rmX7_isUnder s m [.int x0, .int x1].toArray below meth c H locs 0 0 Q (F0 m 4 ls [])) → ∀ (y1 : Int32) (y2 : Int32) (y3 : Int32) (H : Heap) (locs : List Loc) (ls : Array Slot), va_P D vwCl ([] : va_W) H → va_D A ([] : va_W) → va_S A s.heap H locs → lv_has ls 4 [(1, .int y1), (2, .int y2), (3, .int y3)] → fX7_isUnder_4_s k4 y1 y2 y3 = some r0 → W p l e rmX7_isUnder s m [.int x0, .int x1].toArray below meth c H locs 0 0 Q (F0 m 4 ls []) := by
    intro k4 hk4 y1 y2 y3 H locs ls hP hD hS hl hf
    unfold fX7_isUnder_4_s at hf
    refine lv_iload_n hx hb dX7_isUnder_4 rfl (lv_at hl 2 rfl) ?_
    refine lv_bipush (v := 7) hx hb dX7_isUnder_5 (by decide) ?_
    refine lv_icmp_ge (tgt := 39) hx hb dX7_isUnder_7 (by decide) (fun hc1 => ?_) (fun hc1 => ?_)
    · have hf := ip_el hc1 hf
      refine lv_iconst (v := 0) hx hb dX7_isUnder_39 (by decide) ?_
      have he := Option.some.inj hf
      have e0 := he
      exact hrz _ _ _ .boolean rfl rfl (congrArg (fun z => some (Value.int z)) e0.symm) dX7_isUnder_40 _ _ _ rfl hP hD hS
    · have hf := in_el hc1 hf
      refine lv_iload_n hx hb dX7_isUnder_10 rfl (lv_at hl 1 rfl) ?_
      refine lv_if_lt (tgt := 39) hx hb dX7_isUnder_11 (by decide) (fun hc2 => ?_) (fun hc2 => ?_)
      · have hf := ip_el hc2 hf
        refine lv_iconst (v := 0) hx hb dX7_isUnder_39 (by decide) ?_
        have he := Option.some.inj hf
        have e0 := he
        exact hrz _ _ _ .boolean rfl rfl (congrArg (fun z => some (Value.int z)) e0.symm) dX7_isUnder_40 _ _ _ rfl hP hD hS
      · have hf := in_el hc2 hf
        refine lv_iload_n hx hb dX7_isUnder_14 rfl (lv_at hl 1 rfl) ?_
        refine lv_bipush (v := 7) hx hb dX7_isUnder_15 (by decide) ?_
        refine lv_icmp_ge (tgt := 39) hx hb dX7_isUnder_17 (by decide) (fun hc3 => ?_) (fun hc3 => ?_)
        · have hf := ip_el hc3 hf
          refine lv_iconst (v := 0) hx hb dX7_isUnder_39 (by decide) ?_
          have he := Option.some.inj hf
          have e0 := he
          exact hrz _ _ _ .boolean rfl rfl (congrArg (fun z => some (Value.int z)) e0.symm) dX7_isUnder_40 _ _ _ rfl hP hD hS
        · have hf := in_el hc3 hf
          refine lv_iload_n hx hb dX7_isUnder_20 rfl (lv_at hl 1 rfl) ?_
          refine lv_iload_n hx hb dX7_isUnder_21 rfl (lv_at hl 0 rfl) ?_
          refine lv_icmp_ne (tgt := 27) hx hb dX7_isUnder_22 (by decide) (fun hc4 => ?_) (fun hc4 => ?_)
          · have hf := in_el hc4 hf
            refine va_gets hx hb hZ.1.1 hS hown (hu _ q463) (fun _ h9 => h9) dX7_isUnder_27 ?_
            refine lv_iload_n hx hb dX7_isUnder_30 rfl (lv_at hl 1 rfl) ?_
            obtain ⟨hi5, hf⟩ := ck_el hf
            refine va_ti (v := .int (tabK (Int32.toNatClampNeg y2))) hx hb hZ.1.2 hS hi5 rfl dX7_isUnder_31 ?_
            obtain ⟨v6, hv6, hf⟩ := lt_el hf
            refine lv_tope hv6 ?_
            refine lv_istore_n (lv' := [(2, .int v6), (1, .int y1), (3, .int y3)]) hx hb dX7_isUnder_32 rfl hl (by decide) rfl (fun ls hl => ?_)
            obtain ⟨v7, hv7, hf⟩ := lt_el hf
            refine lv_iinc (v := v7) (lv' := [(3, .int v7), (2, .int v6), (1, .int y1)]) hx hb dX7_isUnder_33 hl (k := 2) rfl (by rw [hv7]; rfl) (by decide) rfl (fun ls hl => ?_)
            refine lv_goto (tgt := 4) hx hb dX7_isUnder_36 (by decide) ?_
            exact hk4 y1 v6 v7 _ _ _ hP hD hS (lv_sub hl [2, 1, 0] rfl) hf
          · have hf := ip_el hc4 hf
            refine lv_iconst (v := 1) hx hb dX7_isUnder_25 (by decide) ?_
            have he := Option.some.inj hf
            have e0 := he
            exact hrz _ _ _ .boolean rfl rfl (congrArg (fun z => some (Value.int z)) e0.symm) dX7_isUnder_26 _ _ _ rfl hP hD hS
  have h4 : ∀ (n : Nat), ∀ (y1 : Int32) (y2 : Int32) (y3 : Int32) (H : Heap) (locs : List Loc) (ls : Array Slot), va_P D vwCl ([] : va_W) H → va_D A ([] : va_W) → va_S A s.heap H locs → lv_has ls 4 [(1, .int y1), (2, .int y2), (3, .int y3)] → fX7_isUnder_4 n y1 y2 y3 = some r0 → W p l e rmX7_isUnder s m [.int x0, .int x1].toArray below meth c H locs 0 0 Q (F0 m 4 ls []) := by
    intro n
    induction n with
    | zero => intro y1 y2 y3 H locs ls hP hD hS hl hf; exact no_el hf
    | succ n ih => intro y1 y2 y3 H locs ls hP hD hS hl hf; exact hs4 _ ih y1 y2 y3 _ _ _ hP hD hS hl hf
  have hl : lv_has ls0 4 [(0, .int x0), (1, .int x1)] := hl0
  have hP := hP0
  have hD := hD0
  have hS := hS0
  unfold fX7_isUnder at hf
  refine lv_iload_n hx hb dX7_isUnder_0 rfl (lv_at hl 0 rfl) ?_
  refine lv_istore_n (lv' := [(2, .int x0), (0, .int x0), (1, .int x1)]) hx hb dX7_isUnder_1 rfl hl (by decide) rfl (fun ls hl => ?_)
  refine lv_iconst (v := 0) hx hb dX7_isUnder_2 (by decide) ?_
  refine lv_istore_n (lv' := [(3, .int 0), (2, .int x0), (0, .int x0), (1, .int x1)]) hx hb dX7_isUnder_3 rfl hl (by decide) rfl (fun ls hl => ?_)
  exact h4 400 x1 x0 0 _ _ _ hP hD hS (lv_sub hl [3, 1, 0] rfl) hf

def fX3_truth (x0 : Int32) : Option Int32 :=
  (if x0 = 0 then some 0 else some 1)
abbrev rmX3_truth : Room := { frames := 0, cells := 0, slots := 0, locals := 0 }
set_option maxRecDepth 100000 in
set_option maxHeartbeats 4000000 in
theorem tX3_truth (l : Launch) (D : va_G) (cs : Nat → ClassId) (x0 : Int32) (r0 : Int32) (hf : fX3_truth x0 = some r0) : CG l yX3_truth (wsm yX3_truth cX3_truth 1 (some .int)) rmX3_truth D cs [.int x0] (some (.int r0)) ([] : va_W) ([] : va_W) := by
  refine CG.intro (by decide) (Nat.le_of_ble_eq_true rfl) ?_
  intro p e s m below meth c A Q hx hb hml hown hu hK hZ hP0 hD0 hS0 hA hri hrz hrl hrv hra ls0 hl0
  have hl : lv_has ls0 1 [(0, .int x0)] := hl0
  have hP := hP0
  have hD := hD0
  have hS := hS0
  unfold fX3_truth at hf
  refine lv_iload_n hx hb dX3_truth_0 rfl (lv_at hl 0 rfl) ?_
  refine lv_if_eq (tgt := 8) hx hb dX3_truth_1 (by decide) (fun hc1 => ?_) (fun hc1 => ?_)
  · have hf := ip_el hc1 hf
    refine lv_iconst (v := 0) hx hb dX3_truth_8 (by decide) ?_
    have he := Option.some.inj hf
    have e0 := he
    exact hri _ _ _ rfl (congrArg (fun z => some (Value.int z)) e0.symm) dX3_truth_9 _ _ _ rfl hP hD hS
  · have hf := in_el hc1 hf
    refine lv_iconst (v := 1) hx hb dX3_truth_4 (by decide) ?_
    refine lv_goto (tgt := 9) hx hb dX3_truth_5 (by decide) ?_
    have he := Option.some.inj hf
    have e0 := he
    exact hri _ _ _ rfl (congrArg (fun z => some (Value.int z)) e0.symm) dX3_truth_9 _ _ _ rfl hP hD hS

def fX3_join_114 (s0 : Int32) : Option Int32 :=
  dc_b1 (fX3_truth s0) (fun r3 => some r3)
def fX3_join_128 (s0 : Int32) : Option Int32 :=
  dc_b1 (fX3_truth s0) (fun r14 => some r14)
def fX3_join_142 (s0 : Int32) : Option Int32 :=
  dc_b1 (fX3_truth s0) (fun r18 => some r18)
def fX3_join_156 (s0 : Int32) : Option Int32 :=
  dc_b1 (fX3_truth s0) (fun r22 => some r22)
def fX3_join_97 (s0 : Int32) : Option Int32 :=
  dc_b1 (fX3_truth s0) (fun r26 => some r26)
def fX3_join (x0 : Int32) (x1 : Int32) (x2 : Int32) : Option Int32 :=
  (if x0 = 38 then (if x1 = 0 then fX3_join_114 0 else (if x2 = 0 then fX3_join_114 0 else fX3_join_114 1)) else if x0 = 42 then some (x1 * x2) else if x0 = 43 then some (x1 + x2) else if x0 = 45 then some (x1 - x2) else if x0 = 47 then (if x2 = 0 then some 0 else dc_dz x2 (some (x1 / x2))) else if x0 = 60 then (if x2 ≤ x1 then fX3_join_128 0 else fX3_join_128 1) else if x0 = 61 then (if x1 = x2 then fX3_join_142 1 else fX3_join_142 0) else if x0 = 62 then (if x1 ≤ x2 then fX3_join_156 0 else fX3_join_156 1) else if x0 = 124 then (if x1 = 0 then (if x2 = 0 then fX3_join_97 0 else fX3_join_97 1) else fX3_join_97 1) else (if x2 = 0 then some 0 else dc_dz x2 (some (x1 - x1 / x2 * x2))))
abbrev rmX3_join : Room := { frames := 1, cells := 0, slots := 0, locals := 20 }
set_option maxRecDepth 100000 in
set_option maxHeartbeats 4000000 in
theorem tX3_join (l : Launch) (D : va_G) (cs : Nat → ClassId) (x0 : Int32) (x1 : Int32) (x2 : Int32) (r0 : Int32) (hf : fX3_join x0 x1 x2 = some r0) : CG l yX3_join (wsm yX3_join cX3_join 3 (some .int)) rmX3_join D cs [.int x0, .int x1, .int x2] (some (.int r0)) ([] : va_W) ([] : va_W) := by
  refine CG.intro (by decide) (Nat.le_of_ble_eq_true rfl) ?_
  intro p e s m below meth c A Q hx hb hml hown hu hK hZ hP0 hD0 hS0 hA hri hrz hrl hrv hra ls0 hl0
  have h114 : ∀ (s0 : Int32) (H : Heap) (locs : List Loc) (ls : Array Slot), va_P D vwCl ([] : va_W) H → va_D A ([] : va_W) → va_S A s.heap H locs → lv_has ls 3 [] → fX3_join_114 s0 = some r0 → W p l e rmX3_join s m [.int x0, .int x1, .int x2].toArray below meth c H locs 0 0 Q (F0 m 114 ls [.int s0]) := by
    intro s0 H locs ls hP hD hS hl hf
    unfold fX3_join_114 at hf
    obtain ⟨r3, hg4, hf⟩ := b1_el hf
    refine cc_S0 (st1 := [.int r3]) [.int s0] hx hb hml hown hu (tX3_truth l D cs s0 r3 hg4) q417 q57 q415 q416 pdX3_truth ⟨rfl, rfl, Nat.le_of_ble_eq_true rfl, Nat.le_of_ble_eq_true rfl⟩ hK hZ hP hD hS hA rfl hl.1 rfl (Nat.le_of_ble_eq_true rfl) dX3_join_114 rfl (fun H locs hP hD hS => ?_)
    have he := Option.some.inj hf
    have e0 := he
    exact hri _ _ _ rfl (congrArg (fun z => some (Value.int z)) e0.symm) dX3_join_117 _ _ _ rfl hP hD hS
  have h128 : ∀ (s0 : Int32) (H : Heap) (locs : List Loc) (ls : Array Slot), va_P D vwCl ([] : va_W) H → va_D A ([] : va_W) → va_S A s.heap H locs → lv_has ls 3 [] → fX3_join_128 s0 = some r0 → W p l e rmX3_join s m [.int x0, .int x1, .int x2].toArray below meth c H locs 0 0 Q (F0 m 128 ls [.int s0]) := by
    intro s0 H locs ls hP hD hS hl hf
    unfold fX3_join_128 at hf
    obtain ⟨r14, hg15, hf⟩ := b1_el hf
    refine cc_S0 (st1 := [.int r14]) [.int s0] hx hb hml hown hu (tX3_truth l D cs s0 r14 hg15) q417 q57 q415 q416 pdX3_truth ⟨rfl, rfl, Nat.le_of_ble_eq_true rfl, Nat.le_of_ble_eq_true rfl⟩ hK hZ hP hD hS hA rfl hl.1 rfl (Nat.le_of_ble_eq_true rfl) dX3_join_128 rfl (fun H locs hP hD hS => ?_)
    have he := Option.some.inj hf
    have e0 := he
    exact hri _ _ _ rfl (congrArg (fun z => some (Value.int z)) e0.symm) dX3_join_131 _ _ _ rfl hP hD hS
  have h142 : ∀ (s0 : Int32) (H : Heap) (locs : List Loc) (ls : Array Slot), va_P D vwCl ([] : va_W) H → va_D A ([] : va_W) → va_S A s.heap H locs → lv_has ls 3 [] → fX3_join_142 s0 = some r0 → W p l e rmX3_join s m [.int x0, .int x1, .int x2].toArray below meth c H locs 0 0 Q (F0 m 142 ls [.int s0]) := by
    intro s0 H locs ls hP hD hS hl hf
    unfold fX3_join_142 at hf
    obtain ⟨r18, hg19, hf⟩ := b1_el hf
    refine cc_S0 (st1 := [.int r18]) [.int s0] hx hb hml hown hu (tX3_truth l D cs s0 r18 hg19) q417 q57 q415 q416 pdX3_truth ⟨rfl, rfl, Nat.le_of_ble_eq_true rfl, Nat.le_of_ble_eq_true rfl⟩ hK hZ hP hD hS hA rfl hl.1 rfl (Nat.le_of_ble_eq_true rfl) dX3_join_142 rfl (fun H locs hP hD hS => ?_)
    have he := Option.some.inj hf
    have e0 := he
    exact hri _ _ _ rfl (congrArg (fun z => some (Value.int z)) e0.symm) dX3_join_145 _ _ _ rfl hP hD hS
  have h156 : ∀ (s0 : Int32) (H : Heap) (locs : List Loc) (ls : Array Slot), va_P D vwCl ([] : va_W) H → va_D A ([] : va_W) → va_S A s.heap H locs → lv_has ls 3 [] → fX3_join_156 s0 = some r0 → W p l e rmX3_join s m [.int x0, .int x1, .int x2].toArray below meth c H locs 0 0 Q (F0 m 156 ls [.int s0]) := by
    intro s0 H locs ls hP hD hS hl hf
    unfold fX3_join_156 at hf
    obtain ⟨r22, hg23, hf⟩ := b1_el hf
    refine cc_S0 (st1 := [.int r22]) [.int s0] hx hb hml hown hu (tX3_truth l D cs s0 r22 hg23) q417 q57 q415 q416 pdX3_truth ⟨rfl, rfl, Nat.le_of_ble_eq_true rfl, Nat.le_of_ble_eq_true rfl⟩ hK hZ hP hD hS hA rfl hl.1 rfl (Nat.le_of_ble_eq_true rfl) dX3_join_156 rfl (fun H locs hP hD hS => ?_)
    have he := Option.some.inj hf
    have e0 := he
    exact hri _ _ _ rfl (congrArg (fun z => some (Value.int z)) e0.symm) dX3_join_159 _ _ _ rfl hP hD hS
  have h97 : ∀ (s0 : Int32) (H : Heap) (locs : List Loc) (ls : Array Slot), va_P D vwCl ([] : va_W) H → va_D A ([] : va_W) → va_S A s.heap H locs → lv_has ls 3 [] → fX3_join_97 s0 = some r0 → W p l e rmX3_join s m [.int x0, .int x1, .int x2].toArray below meth c H locs 0 0 Q (F0 m 97 ls [.int s0]) := by
    intro s0 H locs ls hP hD hS hl hf
    unfold fX3_join_97 at hf
    obtain ⟨r26, hg27, hf⟩ := b1_el hf
    refine cc_S0 (st1 := [.int r26]) [.int s0] hx hb hml hown hu (tX3_truth l D cs s0 r26 hg27) q417 q57 q415 q416 pdX3_truth ⟨rfl, rfl, Nat.le_of_ble_eq_true rfl, Nat.le_of_ble_eq_true rfl⟩ hK hZ hP hD hS hA rfl hl.1 rfl (Nat.le_of_ble_eq_true rfl) dX3_join_97 rfl (fun H locs hP hD hS => ?_)
    have he := Option.some.inj hf
    have e0 := he
    exact hri _ _ _ rfl (congrArg (fun z => some (Value.int z)) e0.symm) dX3_join_100 _ _ _ rfl hP hD hS
  have hl : lv_has ls0 3 [(0, .int x0), (1, .int x1), (2, .int x2)] := hl0
  have hP := hP0
  have hD := hD0
  have hS := hS0
  unfold fX3_join at hf
  refine lv_iload_n hx hb dX3_join_0 rfl (lv_at hl 0 rfl) ?_
  by_cases hc1 : x0 = 38
  · have hf := ip_el hc1 hf
    refine lv_lookup (off := 100) (tgt := 101) hx hb dX3_join_1 (by decide) (by rw [hc1]; decide) (by decide) ?_
    refine lv_iload_n hx hb dX3_join_101 rfl (lv_at hl 1 rfl) ?_
    refine lv_if_eq (tgt := 113) hx hb dX3_join_102 (by decide) (fun hc2 => ?_) (fun hc2 => ?_)
    · have hf := ip_el hc2 hf
      refine lv_iconst (v := 0) hx hb dX3_join_113 (by decide) ?_
      exact h114 0 _ _ _ hP hD hS (lv_sub hl [] rfl) hf
    · have hf := in_el hc2 hf
      refine lv_iload_n hx hb dX3_join_105 rfl (lv_at hl 2 rfl) ?_
      refine lv_if_eq (tgt := 113) hx hb dX3_join_106 (by decide) (fun hc5 => ?_) (fun hc5 => ?_)
      · have hf := ip_el hc5 hf
        refine lv_iconst (v := 0) hx hb dX3_join_113 (by decide) ?_
        exact h114 0 _ _ _ hP hD hS (lv_sub hl [] rfl) hf
      · have hf := in_el hc5 hf
        refine lv_iconst (v := 1) hx hb dX3_join_109 (by decide) ?_
        refine lv_goto (tgt := 114) hx hb dX3_join_110 (by decide) ?_
        exact h114 1 _ _ _ hP hD hS (lv_sub hl [] rfl) hf
  have hf := in_el hc1 hf
  by_cases hc6 : x0 = 42
  · have hf := ip_el hc6 hf
    refine lv_lookup (off := 167) (tgt := 168) hx hb dX3_join_1 (by decide) (by rw [hc6]; decide) (by decide) ?_
    refine lv_iload_n hx hb dX3_join_168 rfl (lv_at hl 1 rfl) ?_
    refine lv_iload_n hx hb dX3_join_169 rfl (lv_at hl 2 rfl) ?_
    refine lv_imul hx hb dX3_join_170 ?_
    have he := Option.some.inj hf
    have e0 := he
    exact hri _ _ _ rfl (congrArg (fun z => some (Value.int z)) e0.symm) dX3_join_171 _ _ _ rfl hP hD hS
  have hf := in_el hc6 hf
  by_cases hc7 : x0 = 43
  · have hf := ip_el hc7 hf
    refine lv_lookup (off := 159) (tgt := 160) hx hb dX3_join_1 (by decide) (by rw [hc7]; decide) (by decide) ?_
    refine lv_iload_n hx hb dX3_join_160 rfl (lv_at hl 1 rfl) ?_
    refine lv_iload_n hx hb dX3_join_161 rfl (lv_at hl 2 rfl) ?_
    refine lv_iadd hx hb dX3_join_162 ?_
    have he := Option.some.inj hf
    have e0 := he
    exact hri _ _ _ rfl (congrArg (fun z => some (Value.int z)) e0.symm) dX3_join_163 _ _ _ rfl hP hD hS
  have hf := in_el hc7 hf
  by_cases hc8 : x0 = 45
  · have hf := ip_el hc8 hf
    refine lv_lookup (off := 163) (tgt := 164) hx hb dX3_join_1 (by decide) (by rw [hc8]; decide) (by decide) ?_
    refine lv_iload_n hx hb dX3_join_164 rfl (lv_at hl 1 rfl) ?_
    refine lv_iload_n hx hb dX3_join_165 rfl (lv_at hl 2 rfl) ?_
    refine lv_isub hx hb dX3_join_166 ?_
    have he := Option.some.inj hf
    have e0 := he
    exact hri _ _ _ rfl (congrArg (fun z => some (Value.int z)) e0.symm) dX3_join_167 _ _ _ rfl hP hD hS
  have hf := in_el hc8 hf
  by_cases hc9 : x0 = 47
  · have hf := ip_el hc9 hf
    refine lv_lookup (off := 171) (tgt := 172) hx hb dX3_join_1 (by decide) (by rw [hc9]; decide) (by decide) ?_
    refine lv_iload_n hx hb dX3_join_172 rfl (lv_at hl 2 rfl) ?_
    refine lv_if_ne (tgt := 180) hx hb dX3_join_173 (by decide) (fun hc10 => ?_) (fun hc10 => ?_)
    · have hf := in_el hc10 hf
      refine lv_iload_n hx hb dX3_join_180 rfl (lv_at hl 1 rfl) ?_
      refine lv_iload_n hx hb dX3_join_181 rfl (lv_at hl 2 rfl) ?_
      obtain ⟨hz11, hf⟩ := dz_el hf
      refine lv_idiv hx hb dX3_join_182 hz11 ?_
      have he := Option.some.inj hf
      have e0 := he
      exact hri _ _ _ rfl (congrArg (fun z => some (Value.int z)) e0.symm) dX3_join_183 _ _ _ rfl hP hD hS
    · have hf := ip_el hc10 hf
      refine lv_iconst (v := 0) hx hb dX3_join_176 (by decide) ?_
      refine lv_goto (tgt := 183) hx hb dX3_join_177 (by decide) ?_
      have he := Option.some.inj hf
      have e0 := he
      exact hri _ _ _ rfl (congrArg (fun z => some (Value.int z)) e0.symm) dX3_join_183 _ _ _ rfl hP hD hS
  have hf := in_el hc9 hf
  by_cases hc12 : x0 = 60
  · have hf := ip_el hc12 hf
    refine lv_lookup (off := 117) (tgt := 118) hx hb dX3_join_1 (by decide) (by rw [hc12]; decide) (by decide) ?_
    refine lv_iload_n hx hb dX3_join_118 rfl (lv_at hl 1 rfl) ?_
    refine lv_iload_n hx hb dX3_join_119 rfl (lv_at hl 2 rfl) ?_
    refine lv_icmp_ge (tgt := 127) hx hb dX3_join_120 (by decide) (fun hc13 => ?_) (fun hc13 => ?_)
    · have hf := ip_el hc13 hf
      refine lv_iconst (v := 0) hx hb dX3_join_127 (by decide) ?_
      exact h128 0 _ _ _ hP hD hS (lv_sub hl [] rfl) hf
    · have hf := in_el hc13 hf
      refine lv_iconst (v := 1) hx hb dX3_join_123 (by decide) ?_
      refine lv_goto (tgt := 128) hx hb dX3_join_124 (by decide) ?_
      exact h128 1 _ _ _ hP hD hS (lv_sub hl [] rfl) hf
  have hf := in_el hc12 hf
  by_cases hc16 : x0 = 61
  · have hf := ip_el hc16 hf
    refine lv_lookup (off := 131) (tgt := 132) hx hb dX3_join_1 (by decide) (by rw [hc16]; decide) (by decide) ?_
    refine lv_iload_n hx hb dX3_join_132 rfl (lv_at hl 1 rfl) ?_
    refine lv_iload_n hx hb dX3_join_133 rfl (lv_at hl 2 rfl) ?_
    refine lv_icmp_ne (tgt := 141) hx hb dX3_join_134 (by decide) (fun hc17 => ?_) (fun hc17 => ?_)
    · have hf := in_el hc17 hf
      refine lv_iconst (v := 0) hx hb dX3_join_141 (by decide) ?_
      exact h142 0 _ _ _ hP hD hS (lv_sub hl [] rfl) hf
    · have hf := ip_el hc17 hf
      refine lv_iconst (v := 1) hx hb dX3_join_137 (by decide) ?_
      refine lv_goto (tgt := 142) hx hb dX3_join_138 (by decide) ?_
      exact h142 1 _ _ _ hP hD hS (lv_sub hl [] rfl) hf
  have hf := in_el hc16 hf
  by_cases hc20 : x0 = 62
  · have hf := ip_el hc20 hf
    refine lv_lookup (off := 145) (tgt := 146) hx hb dX3_join_1 (by decide) (by rw [hc20]; decide) (by decide) ?_
    refine lv_iload_n hx hb dX3_join_146 rfl (lv_at hl 1 rfl) ?_
    refine lv_iload_n hx hb dX3_join_147 rfl (lv_at hl 2 rfl) ?_
    refine lv_icmp_le (tgt := 155) hx hb dX3_join_148 (by decide) (fun hc21 => ?_) (fun hc21 => ?_)
    · have hf := ip_el hc21 hf
      refine lv_iconst (v := 0) hx hb dX3_join_155 (by decide) ?_
      exact h156 0 _ _ _ hP hD hS (lv_sub hl [] rfl) hf
    · have hf := in_el hc21 hf
      refine lv_iconst (v := 1) hx hb dX3_join_151 (by decide) ?_
      refine lv_goto (tgt := 156) hx hb dX3_join_152 (by decide) ?_
      exact h156 1 _ _ _ hP hD hS (lv_sub hl [] rfl) hf
  have hf := in_el hc20 hf
  by_cases hc24 : x0 = 124
  · have hf := ip_el hc24 hf
    refine lv_lookup (off := 83) (tgt := 84) hx hb dX3_join_1 (by decide) (by rw [hc24]; decide) (by decide) ?_
    refine lv_iload_n hx hb dX3_join_84 rfl (lv_at hl 1 rfl) ?_
    refine lv_if_ne (tgt := 92) hx hb dX3_join_85 (by decide) (fun hc25 => ?_) (fun hc25 => ?_)
    · have hf := in_el hc25 hf
      refine lv_iconst (v := 1) hx hb dX3_join_92 (by decide) ?_
      refine lv_goto (tgt := 97) hx hb dX3_join_93 (by decide) ?_
      exact h97 1 _ _ _ hP hD hS (lv_sub hl [] rfl) hf
    · have hf := ip_el hc25 hf
      refine lv_iload_n hx hb dX3_join_88 rfl (lv_at hl 2 rfl) ?_
      refine lv_if_eq (tgt := 96) hx hb dX3_join_89 (by decide) (fun hc28 => ?_) (fun hc28 => ?_)
      · have hf := ip_el hc28 hf
        refine lv_iconst (v := 0) hx hb dX3_join_96 (by decide) ?_
        exact h97 0 _ _ _ hP hD hS (lv_sub hl [] rfl) hf
      · have hf := in_el hc28 hf
        refine lv_iconst (v := 1) hx hb dX3_join_92 (by decide) ?_
        refine lv_goto (tgt := 97) hx hb dX3_join_93 (by decide) ?_
        exact h97 1 _ _ _ hP hD hS (lv_sub hl [] rfl) hf
  have hf := in_el hc24 hf
  refine lv_lookup (off := 183) (tgt := 184) hx hb dX3_join_1 (by decide) (by rw [lv_osw hc1 (by decide)]; rw [lv_osw hc6 (by decide)]; rw [lv_osw hc7 (by decide)]; rw [lv_osw hc8 (by decide)]; rw [lv_osw hc9 (by decide)]; rw [lv_osw hc12 (by decide)]; rw [lv_osw hc16 (by decide)]; rw [lv_osw hc20 (by decide)]; rw [lv_osw hc24 (by decide)]; rfl) (by decide) ?_
  refine lv_iload_n hx hb dX3_join_184 rfl (lv_at hl 2 rfl) ?_
  refine lv_if_ne (tgt := 192) hx hb dX3_join_185 (by decide) (fun hc29 => ?_) (fun hc29 => ?_)
  · have hf := in_el hc29 hf
    refine lv_iload_n hx hb dX3_join_192 rfl (lv_at hl 1 rfl) ?_
    refine lv_iload_n hx hb dX3_join_193 rfl (lv_at hl 2 rfl) ?_
    obtain ⟨hz30, hf⟩ := dz_el hf
    refine lv_irem hx hb dX3_join_194 hz30 ?_
    have he := Option.some.inj hf
    have e0 := he
    exact hri _ _ _ rfl (congrArg (fun z => some (Value.int z)) e0.symm) dX3_join_195 _ _ _ rfl hP hD hS
  · have hf := ip_el hc29 hf
    refine lv_iconst (v := 0) hx hb dX3_join_188 (by decide) ?_
    refine lv_goto (tgt := 195) hx hb dX3_join_189 (by decide) ?_
    have he := Option.some.inj hf
    have e0 := he
    exact hri _ _ _ rfl (congrArg (fun z => some (Value.int z)) e0.symm) dX3_join_195 _ _ _ rfl hP hD hS

def fX1_join (x1 : Int32) (x2 : Int32) (x3 : Int32) (Fo : ST) : Option (Int32 × ST) :=
  dc_lt (Fo 0 0) (fun v1 => (if v1 < 10 then dc_ck v1 10 (dc_lt (sti Fo 2 (Int32.toNatClampNeg v1) x1) (fun Fo_4 => dc_ck v1 10 (dc_lt (sti Fo_4 3 (Int32.toNatClampNeg v1) x2) (fun Fo_6 => dc_ck v1 10 (dc_lt (sti Fo_6 4 (Int32.toNatClampNeg v1) x3) (fun Fo_8 => dc_lt (sti Fo_8 0 0 (v1 + 1)) (fun Fo_9 => some (v1, Fo_9)))))))) else some ((-1), Fo)))
abbrev rmX1_join : Room := { frames := 0, cells := 0, slots := 0, locals := 0 }
set_option maxRecDepth 100000 in
set_option maxHeartbeats 4000000 in
theorem tX1_join (l : Launch) (D : va_G) (cs : Nat → ClassId) (af : Nat → Nat) (x1 : Int32) (x2 : Int32) (x3 : Int32) (Fo : ST) (r0 : Int32) (Foz : ST) (hf : fX1_join x1 x2 x3 Fo = some (r0, Foz)) : CG l yX1_join (wsm yX1_join cX1_join 5 (some .int)) rmX1_join D cs [.ref (af 0), .int x1, .int x2, .int x3] (some (.int r0)) (kX1 cs af  Fo) (kX1 cs af  Foz) := by
  refine CG.intro (by decide) (Nat.le_of_ble_eq_true rfl) ?_
  intro p e s m below meth c A Q hx hb hml hown hu hK hZ hP0 hD0 hS0 hA hri hrz hrl hrv hra ls0 hl0
  have hl : lv_has ls0 5 [(0, .ref (af 0)), (1, .int x1), (2, .int x2), (3, .int x3)] := hl0
  have hP := hP0
  have hD := hD0
  have hS := hS0
  unfold fX1_join at hf
  refine lv_aload_n hx hb dX1_join_0 rfl (lv_at hl 0 rfl) ?_
  refine va_get (D := D) (ci := 1) (v := .int (Fo 0 0)) (C := RX1) (T := TX1) (N := 9) hx hb hu inX1 hown hK.1 hP 0 rfl rfl 0 (by decide) (hu _ q92) (fun _ h9 => h9) rfl dX1_join_1 ?_
  obtain ⟨v1, hv1, hf⟩ := lt_el hf
  refine lv_tope hv1 ?_
  refine lv_istore (lv' := [(4, .int v1), (0, .ref (af 0)), (1, .int x1), (2, .int x2), (3, .int x3)]) hx hb dX1_join_4 hl (by decide) rfl (fun ls hl => ?_)
  refine lv_iload hx hb dX1_join_6 (lv_at hl 0 rfl) ?_
  refine lv_bipush (v := 10) hx hb dX1_join_8 (by decide) ?_
  refine lv_icmp_lt (tgt := 15) hx hb dX1_join_10 (by decide) (fun hc2 => ?_) (fun hc2 => ?_)
  · have hf := ip_el hc2 hf
    refine lv_aload_n hx hb dX1_join_15 rfl (lv_at hl 1 rfl) ?_
    refine va_get (D := D) (ci := 1) (v := .ref (af 2)) (C := RX1) (T := TX1) (N := 9) hx hb hu inX1 hown hK.1 hP 0 rfl rfl 1 (by decide) (hu _ q95) (fun _ h9 => h9) rfl dX1_join_16 ?_
    refine lv_iload hx hb dX1_join_19 (lv_at hl 0 rfl) ?_
    refine lv_iload_n hx hb dX1_join_21 rfl (lv_at hl 2 rfl) ?_
    obtain ⟨hi3, hf⟩ := ck_el hf
    obtain ⟨Fo_4, hFo_4, hf⟩ := lt_el hf
    refine va_iast hx hb hK.1 hP hD hS 1 0 rfl rfl hi3 dX1_join_22 (fun H locs hP hD hS => ?_)
    have hP : va_P D vwCl (kX1 cs af  Fo_4) H := by rw [hFo_4]; exact hP
    have hD : va_D A (kX1 cs af  Fo_4) := by rw [hFo_4]; exact hD
    refine lv_aload_n hx hb dX1_join_23 rfl (lv_at hl 1 rfl) ?_
    refine va_get (D := D) (ci := 1) (v := .ref (af 3)) (C := RX1) (T := TX1) (N := 9) hx hb hu inX1 hown hK.1 hP 0 rfl rfl 2 (by decide) (hu _ q98) (fun _ h9 => h9) rfl dX1_join_24 ?_
    refine lv_iload hx hb dX1_join_27 (lv_at hl 0 rfl) ?_
    refine lv_iload_n hx hb dX1_join_29 rfl (lv_at hl 3 rfl) ?_
    obtain ⟨hi5, hf⟩ := ck_el hf
    obtain ⟨Fo_6, hFo_6, hf⟩ := lt_el hf
    refine va_iast hx hb hK.1 hP hD hS 2 0 rfl rfl hi5 dX1_join_30 (fun H locs hP hD hS => ?_)
    have hP : va_P D vwCl (kX1 cs af  Fo_6) H := by rw [hFo_6]; exact hP
    have hD : va_D A (kX1 cs af  Fo_6) := by rw [hFo_6]; exact hD
    refine lv_aload_n hx hb dX1_join_31 rfl (lv_at hl 1 rfl) ?_
    refine va_get (D := D) (ci := 1) (v := .ref (af 4)) (C := RX1) (T := TX1) (N := 9) hx hb hu inX1 hown hK.1 hP 0 rfl rfl 3 (by decide) (hu _ q100) (fun _ h9 => h9) rfl dX1_join_32 ?_
    refine lv_iload hx hb dX1_join_35 (lv_at hl 0 rfl) ?_
    refine lv_iload_n hx hb dX1_join_37 rfl (lv_at hl 4 rfl) ?_
    obtain ⟨hi7, hf⟩ := ck_el hf
    obtain ⟨Fo_8, hFo_8, hf⟩ := lt_el hf
    refine va_iast hx hb hK.1 hP hD hS 3 0 rfl rfl hi7 dX1_join_38 (fun H locs hP hD hS => ?_)
    have hP : va_P D vwCl (kX1 cs af  Fo_8) H := by rw [hFo_8]; exact hP
    have hD : va_D A (kX1 cs af  Fo_8) := by rw [hFo_8]; exact hD
    refine lv_aload_n hx hb dX1_join_39 rfl (lv_at hl 1 rfl) ?_
    refine lv_iload hx hb dX1_join_40 (lv_at hl 0 rfl) ?_
    refine lv_iconst (v := 1) hx hb dX1_join_42 (by decide) ?_
    refine lv_iadd hx hb dX1_join_43 ?_
    obtain ⟨Fo_9, hFo_9, hf⟩ := lt_el hf
    refine va_put (D := D) (ci := 1) (v := .int (v1 + 1)) (ty := .int) (C := RX1) (T := TX1) (N := 9) hx hb hu inX1 tyX1 tyX1_ok nmX1 hown hK.1 hP hD hS 0 rfl rfl 0 (by decide) (hu _ q92) (fun _ h9 => h9) rfl (by decide +kernel) rfl rfl (Nat.le_of_ble_eq_true rfl) dX1_join_44 (fun H locs hP hD hS => ?_)
    have hP : va_P D vwCl (kX1 cs af  Fo_9) H := by rw [hFo_9]; exact hP
    have hD : va_D A (kX1 cs af  Fo_9) := by rw [hFo_9]; exact hD
    refine lv_iload hx hb dX1_join_47 (lv_at hl 0 rfl) ?_
    have he := Option.some.inj hf
    obtain ⟨e0, e1⟩ := Prod.mk.inj he
    exact hri _ _ _ rfl (congrArg (fun z => some (Value.int z)) e0.symm) dX1_join_49 _ _ _ (by rw [e1]) hP hD hS
  · have hf := in_el hc2 hf
    refine lv_iconst (v := (-1)) hx hb dX1_join_13 (by decide) ?_
    have he := Option.some.inj hf
    obtain ⟨e0, e1⟩ := Prod.mk.inj he
    exact hri _ _ _ rfl (congrArg (fun z => some (Value.int z)) e0.symm) dX1_join_14 _ _ _ (by rw [e1]) hP hD hS

def fX1_trait (x1 : Int32) (Fo : ST) : Option Nat :=
  (if x1 = 0 then some 2 else if x1 = 1 then some 3 else if x1 = 2 then some 4 else some 5)
abbrev rmX1_trait : Room := { frames := 0, cells := 0, slots := 0, locals := 0 }
set_option maxRecDepth 100000 in
set_option maxHeartbeats 4000000 in
theorem tX1_trait (l : Launch) (D : va_G) (cs : Nat → ClassId) (af : Nat → Nat) (x1 : Int32) (Fo : ST) (r0 : Nat) (hf : fX1_trait x1 Fo = some r0) : CG l yX1_trait (wsm yX1_trait cX1_trait 2 (some (.array .int))) rmX1_trait D cs [.ref (af 0), .int x1] (some (.ref (af r0))) (kX1 cs af  Fo) (kX1 cs af  Fo) := by
  refine CG.intro (by decide) (Nat.le_of_ble_eq_true rfl) ?_
  intro p e s m below meth c A Q hx hb hml hown hu hK hZ hP0 hD0 hS0 hA hri hrz hrl hrv hra ls0 hl0
  have hl : lv_has ls0 2 [(0, .ref (af 0)), (1, .int x1)] := hl0
  have hP := hP0
  have hD := hD0
  have hS := hS0
  unfold fX1_trait at hf
  refine lv_iload_n hx hb dX1_trait_0 rfl (lv_at hl 1 rfl) ?_
  by_cases hc1 : x1 = 0
  · have hf := ip_el hc1 hf
    refine lv_tableIn (off := 27) (tgt := 28) hx hb dX1_trait_1 (by rw [hc1]; decide) (by rw [hc1]; decide) (by rw [hc1]; decide) (by decide) ?_
    refine lv_aload_n hx hb dX1_trait_28 rfl (lv_at hl 0 rfl) ?_
    refine va_get (D := D) (ci := 1) (v := .ref (af 2)) (C := RX1) (T := TX1) (N := 9) hx hb hu inX1 hown hK.1 hP 0 rfl rfl 1 (by decide) (hu _ q95) (fun _ h9 => h9) rfl dX1_trait_29 ?_
    have he := Option.some.inj hf
    have e0 := he
    exact hra _ _ _ .int rfl (congrArg (fun z => some (Value.ref (af z))) e0.symm) dX1_trait_32 _ _ _ rfl hP hD hS
  have hf := in_el hc1 hf
  by_cases hc2 : x1 = 1
  · have hf := ip_el hc2 hf
    refine lv_tableIn (off := 32) (tgt := 33) hx hb dX1_trait_1 (by rw [hc2]; decide) (by rw [hc2]; decide) (by rw [hc2]; decide) (by decide) ?_
    refine lv_aload_n hx hb dX1_trait_33 rfl (lv_at hl 0 rfl) ?_
    refine va_get (D := D) (ci := 1) (v := .ref (af 3)) (C := RX1) (T := TX1) (N := 9) hx hb hu inX1 hown hK.1 hP 0 rfl rfl 2 (by decide) (hu _ q98) (fun _ h9 => h9) rfl dX1_trait_34 ?_
    have he := Option.some.inj hf
    have e0 := he
    exact hra _ _ _ .int rfl (congrArg (fun z => some (Value.ref (af z))) e0.symm) dX1_trait_37 _ _ _ rfl hP hD hS
  have hf := in_el hc2 hf
  by_cases hc3 : x1 = 2
  · have hf := ip_el hc3 hf
    refine lv_tableIn (off := 37) (tgt := 38) hx hb dX1_trait_1 (by rw [hc3]; decide) (by rw [hc3]; decide) (by rw [hc3]; decide) (by decide) ?_
    refine lv_aload_n hx hb dX1_trait_38 rfl (lv_at hl 0 rfl) ?_
    refine va_get (D := D) (ci := 1) (v := .ref (af 4)) (C := RX1) (T := TX1) (N := 9) hx hb hu inX1 hown hK.1 hP 0 rfl rfl 3 (by decide) (hu _ q100) (fun _ h9 => h9) rfl dX1_trait_39 ?_
    have he := Option.some.inj hf
    have e0 := he
    exact hra _ _ _ .int rfl (congrArg (fun z => some (Value.ref (af z))) e0.symm) dX1_trait_42 _ _ _ rfl hP hD hS
  have hf := in_el hc3 hf
  have nhc1 := sw_ne (a := 0) hc1 (by decide)
  have nhc2 := sw_ne (a := 1) hc2 (by decide)
  have nhc3 := sw_ne (a := 2) hc3 (by decide)
  refine lv_tableOut (tgt := 43) hx hb dX1_trait_1 (by omega) (by decide) ?_
  refine lv_aload_n hx hb dX1_trait_43 rfl (lv_at hl 0 rfl) ?_
  refine va_get (D := D) (ci := 1) (v := .ref (af 5)) (C := RX1) (T := TX1) (N := 9) hx hb hu inX1 hown hK.1 hP 0 rfl rfl 4 (by decide) (hu _ q103) (fun _ h9 => h9) rfl dX1_trait_44 ?_
  have he := Option.some.inj hf
  have e0 := he
  exact hra _ _ _ .int rfl (congrArg (fun z => some (Value.ref (af z))) e0.symm) dX1_trait_47 _ _ _ rfl hP hD hS

theorem tr_cases {x : Int32} {Fo : ST} {r : Nat} (h : fX1_trait x Fo = some r) : r = 2 ∨ r = 3 ∨ r = 4 ∨ r = 5 := by
  unfold fX1_trait at h
  repeat' split at h
  all_goals (have := Option.some.inj h; omega)

def fX1_alive (Fo : ST) : Option Int32 :=
  some ((((1 : Int32) <<< ((Fo 0 0) &&& 31)) - 1) &&& ((Fo 0 5) ^^^ (-1)))
abbrev rmX1_alive : Room := { frames := 0, cells := 0, slots := 0, locals := 0 }
set_option maxRecDepth 100000 in
set_option maxHeartbeats 4000000 in
theorem tX1_alive (l : Launch) (D : va_G) (cs : Nat → ClassId) (af : Nat → Nat) (Fo : ST) (r0 : Int32) (hf : fX1_alive Fo = some r0) : CG l yX1_alive (wsm yX1_alive cX1_alive 1 (some .int)) rmX1_alive D cs [.ref (af 0)] (some (.int r0)) (kX1 cs af  Fo) (kX1 cs af  Fo) := by
  refine CG.intro (by decide) (Nat.le_of_ble_eq_true rfl) ?_
  intro p e s m below meth c A Q hx hb hml hown hu hK hZ hP0 hD0 hS0 hA hri hrz hrl hrv hra ls0 hl0
  have hl : lv_has ls0 1 [(0, .ref (af 0))] := hl0
  have hP := hP0
  have hD := hD0
  have hS := hS0
  unfold fX1_alive at hf
  refine lv_iconst (v := 1) hx hb dX1_alive_0 (by decide) ?_
  refine lv_aload_n hx hb dX1_alive_1 rfl (lv_at hl 0 rfl) ?_
  refine va_get (D := D) (ci := 1) (v := .int (Fo 0 0)) (C := RX1) (T := TX1) (N := 9) hx hb hu inX1 hown hK.1 hP 0 rfl rfl 0 (by decide) (hu _ q92) (fun _ h9 => h9) rfl dX1_alive_2 ?_
  refine lv_ishl hx hb dX1_alive_5 ?_
  refine lv_iconst (v := 1) hx hb dX1_alive_6 (by decide) ?_
  refine lv_isub hx hb dX1_alive_7 ?_
  refine lv_aload_n hx hb dX1_alive_8 rfl (lv_at hl 0 rfl) ?_
  refine va_get (D := D) (ci := 1) (v := .int (Fo 0 5)) (C := RX1) (T := TX1) (N := 9) hx hb hu inX1 hown hK.1 hP 0 rfl rfl 5 (by decide) (hu _ q105) (fun _ h9 => h9) rfl dX1_alive_9 ?_
  refine lv_iconst (v := (-1)) hx hb dX1_alive_12 (by decide) ?_
  refine lv_ixor hx hb dX1_alive_13 ?_
  refine lv_iand hx hb dX1_alive_14 ?_
  have he := Option.some.inj hf
  have e0 := he
  exact hri _ _ _ rfl (congrArg (fun z => some (Value.int z)) e0.symm) dX1_alive_15 _ _ _ rfl hP hD hS

def fX1_isAlive (x1 : Int32) (Fo : ST) : Option Int32 :=
  dc_b1 (fX1_alive Fo) (fun r1 => dc_b1 (fX7_isIn r1 x1) (fun r3 => dc_bl r3 (some r3)))
abbrev rmX1_isAlive : Room := { frames := 1, cells := 0, slots := 0, locals := 21 }
set_option maxRecDepth 100000 in
set_option maxHeartbeats 4000000 in
theorem tX1_isAlive (l : Launch) (D : va_G) (cs : Nat → ClassId) (af : Nat → Nat) (x1 : Int32) (Fo : ST) (r0 : Int32) (hf : fX1_isAlive x1 Fo = some r0) : CG l yX1_isAlive (wsm yX1_isAlive cX1_isAlive 2 (some .boolean)) rmX1_isAlive D cs [.ref (af 0), .int x1] (some (.int r0)) (kX1 cs af  Fo) (kX1 cs af  Fo) := by
  refine CG.intro (by decide) (Nat.le_of_ble_eq_true rfl) ?_
  intro p e s m below meth c A Q hx hb hml hown hu hK hZ hP0 hD0 hS0 hA hri hrz hrl hrv hra ls0 hl0
  have hl : lv_has ls0 2 [(0, .ref (af 0)), (1, .int x1)] := hl0
  have hP := hP0
  have hD := hD0
  have hS := hS0
  unfold fX1_isAlive at hf
  refine lv_aload_n hx hb dX1_isAlive_0 rfl (lv_at hl 0 rfl) ?_
  obtain ⟨r1, hg2, hf⟩ := b1_el hf
  refine cc_V1 (w' := (kX1 cs af  Fo)) (st1 := [.int r1]) [] hx hb hml hown hu (tX1_alive l D cs af Fo r1 hg2) q360 q56 q357 q358 q359 pdX1_alive ⟨rfl, rfl, Nat.le_of_ble_eq_true rfl, Nat.le_of_ble_eq_true rfl⟩ hK hZ hP hD hS hA rfl rfl rfl rfl hl.1 rfl (Nat.le_of_ble_eq_true rfl) dX1_isAlive_1 rfl (fun H locs hP hD hS => ?_)
  refine lv_iload_n hx hb dX1_isAlive_4 rfl (lv_at hl 1 rfl) ?_
  obtain ⟨r3, hg4, hf⟩ := b1_el hf
  refine cc_SN0 (st1 := [.int r3]) [.int r1, .int x1] hx hb hml hown hu (tX7_isIn l D cs r1 x1 r3 hg4) q363 q54 hK.2.1 q362 pdX7_isIn ⟨rfl, rfl, Nat.le_of_ble_eq_true rfl, Nat.le_of_ble_eq_true rfl⟩ hK hZ hP hD hS hA rfl hl.1 rfl (Nat.le_of_ble_eq_true rfl) dX1_isAlive_5 rfl (fun H locs hP hD hS => ?_)
  obtain ⟨hbl, hf⟩ := bl_el hf
  have he := Option.some.inj hf
  have e0 := he
  exact hrz _ _ _ .boolean rfl (bl_nar hbl) (congrArg (fun z => some (Value.int z)) e0.symm) dX1_isAlive_8 _ _ _ rfl hP hD hS

def fX1_ofSort_4_s (Fo : ST) (k4 : Int32 → Int32 → Int32 → Option Int32) (y1 : Int32) (y2 : Int32) (y3 : Int32) : Option Int32 :=
  (if (Fo 0 0) ≤ y3 then some y2 else dc_ck y3 10 ((if (Fo 4 (Int32.toNatClampNeg y3)) = y1 then dc_lt (y2 ||| ((1 : Int32) <<< (y3 &&& 31))) (fun v5 => dc_lt (y3 + 1) (fun v6 => k4 y1 v5 v6)) else dc_lt (y3 + 1) (fun v4 => k4 y1 y2 v4))))
def fX1_ofSort_4 (Fo : ST) : Nat → Int32 → Int32 → Int32 → Option Int32
  | 0 => fun _ _ _ => none
  | n + 1 => fX1_ofSort_4_s Fo (fX1_ofSort_4 Fo n)
def fX1_ofSort (x1 : Int32) (Fo : ST) : Option Int32 :=
  fX1_ofSort_4 Fo 400 x1 0 0
abbrev rmX1_ofSort : Room := { frames := 0, cells := 0, slots := 0, locals := 0 }
set_option maxRecDepth 100000 in
set_option maxHeartbeats 4000000 in
theorem tX1_ofSort (l : Launch) (D : va_G) (cs : Nat → ClassId) (af : Nat → Nat) (x1 : Int32) (Fo : ST) (r0 : Int32) (hf : fX1_ofSort x1 Fo = some r0) : CG l yX1_ofSort (wsm yX1_ofSort cX1_ofSort 4 (some .int)) rmX1_ofSort D cs [.ref (af 0), .int x1] (some (.int r0)) (kX1 cs af  Fo) (kX1 cs af  Fo) := by
  refine CG.intro (by decide) (Nat.le_of_ble_eq_true rfl) ?_
  intro p e s m below meth c A Q hx hb hml hown hu hK hZ hP0 hD0 hS0 hA hri hrz hrl hrv hra ls0 hl0
  have hs4 : ∀ (k4 : Int32 → Int32 → Int32 → Option Int32), (∀ (y1 : Int32) (y2 : Int32) (y3 : Int32) (H : Heap) (locs : List Loc) (ls : Array Slot), va_P D vwCl (kX1 cs af  Fo) H → va_D A (kX1 cs af  Fo) → va_S A s.heap H locs → lv_has ls 4 [(0, .ref (af 0)), (1, .int y1), (2, .int y2), (3, .int y3)] → k4 y1 y2 y3 = some r0 → W p l e rmX1_ofSort s m [.ref (af 0), .int x1].toArray below meth c H locs 0 0 Q (F0 m 4 ls [])) → ∀ (y1 : Int32) (y2 : Int32) (y3 : Int32) (H : Heap) (locs : List Loc) (ls : Array Slot), va_P D vwCl (kX1 cs af  Fo) H → va_D A (kX1 cs af  Fo) → va_S A s.heap H locs → lv_has ls 4 [(0, .ref (af 0)), (1, .int y1), (2, .int y2), (3, .int y3)] → fX1_ofSort_4_s Fo k4 y1 y2 y3 = some r0 → W p l e rmX1_ofSort s m [.ref (af 0), .int x1].toArray below meth c H locs 0 0 Q (F0 m 4 ls []) := by
    intro k4 hk4 y1 y2 y3 H locs ls hP hD hS hl hf
    unfold fX1_ofSort_4_s at hf
    refine lv_iload_n hx hb dX1_ofSort_4 rfl (lv_at hl 3 rfl) ?_
    refine lv_aload_n hx hb dX1_ofSort_5 rfl (lv_at hl 0 rfl) ?_
    refine va_get (D := D) (ci := 1) (v := .int (Fo 0 0)) (C := RX1) (T := TX1) (N := 9) hx hb hu inX1 hown hK.1 hP 0 rfl rfl 0 (by decide) (hu _ q92) (fun _ h9 => h9) rfl dX1_ofSort_6 ?_
    refine lv_icmp_ge (tgt := 34) hx hb dX1_ofSort_9 (by decide) (fun hc1 => ?_) (fun hc1 => ?_)
    · have hf := ip_el hc1 hf
      refine lv_iload_n hx hb dX1_ofSort_34 rfl (lv_at hl 2 rfl) ?_
      have he := Option.some.inj hf
      have e0 := he
      exact hri _ _ _ rfl (congrArg (fun z => some (Value.int z)) e0.symm) dX1_ofSort_35 _ _ _ rfl hP hD hS
    · have hf := in_el hc1 hf
      refine lv_aload_n hx hb dX1_ofSort_12 rfl (lv_at hl 0 rfl) ?_
      refine va_get (D := D) (ci := 1) (v := .ref (af 4)) (C := RX1) (T := TX1) (N := 9) hx hb hu inX1 hown hK.1 hP 0 rfl rfl 3 (by decide) (hu _ q100) (fun _ h9 => h9) rfl dX1_ofSort_13 ?_
      refine lv_iload_n hx hb dX1_ofSort_16 rfl (lv_at hl 3 rfl) ?_
      obtain ⟨hi2, hf⟩ := ck_el hf
      refine va_iald hx hb hK.1 hP 3 0 rfl rfl hi2 dX1_ofSort_17 ?_
      refine lv_iload_n hx hb dX1_ofSort_18 rfl (lv_at hl 1 rfl) ?_
      refine lv_icmp_ne (tgt := 28) hx hb dX1_ofSort_19 (by decide) (fun hc3 => ?_) (fun hc3 => ?_)
      · have hf := in_el hc3 hf
        obtain ⟨v4, hv4, hf⟩ := lt_el hf
        refine lv_iinc (v := v4) (lv' := [(3, .int v4), (0, .ref (af 0)), (1, .int y1), (2, .int y2)]) hx hb dX1_ofSort_28 hl (k := 3) rfl (by rw [hv4]; rfl) (by decide) rfl (fun ls hl => ?_)
        refine lv_goto (tgt := 4) hx hb dX1_ofSort_31 (by decide) ?_
        exact hk4 y1 y2 v4 _ _ _ hP hD hS (lv_sub hl [1, 2, 3, 0] rfl) hf
      · have hf := ip_el hc3 hf
        refine lv_iload_n hx hb dX1_ofSort_22 rfl (lv_at hl 2 rfl) ?_
        refine lv_iconst (v := 1) hx hb dX1_ofSort_23 (by decide) ?_
        refine lv_iload_n hx hb dX1_ofSort_24 rfl (lv_at hl 3 rfl) ?_
        refine lv_ishl hx hb dX1_ofSort_25 ?_
        refine lv_ior hx hb dX1_ofSort_26 ?_
        obtain ⟨v5, hv5, hf⟩ := lt_el hf
        refine lv_tope hv5 ?_
        refine lv_istore_n (lv' := [(2, .int v5), (0, .ref (af 0)), (1, .int y1), (3, .int y3)]) hx hb dX1_ofSort_27 rfl hl (by decide) rfl (fun ls hl => ?_)
        obtain ⟨v6, hv6, hf⟩ := lt_el hf
        refine lv_iinc (v := v6) (lv' := [(3, .int v6), (2, .int v5), (0, .ref (af 0)), (1, .int y1)]) hx hb dX1_ofSort_28 hl (k := 3) rfl (by rw [hv6]; rfl) (by decide) rfl (fun ls hl => ?_)
        refine lv_goto (tgt := 4) hx hb dX1_ofSort_31 (by decide) ?_
        exact hk4 y1 v5 v6 _ _ _ hP hD hS (lv_sub hl [2, 3, 1, 0] rfl) hf
  have h4 : ∀ (n : Nat), ∀ (y1 : Int32) (y2 : Int32) (y3 : Int32) (H : Heap) (locs : List Loc) (ls : Array Slot), va_P D vwCl (kX1 cs af  Fo) H → va_D A (kX1 cs af  Fo) → va_S A s.heap H locs → lv_has ls 4 [(0, .ref (af 0)), (1, .int y1), (2, .int y2), (3, .int y3)] → fX1_ofSort_4 Fo n y1 y2 y3 = some r0 → W p l e rmX1_ofSort s m [.ref (af 0), .int x1].toArray below meth c H locs 0 0 Q (F0 m 4 ls []) := by
    intro n
    induction n with
    | zero => intro y1 y2 y3 H locs ls hP hD hS hl hf; exact no_el hf
    | succ n ih => intro y1 y2 y3 H locs ls hP hD hS hl hf; exact hs4 _ ih y1 y2 y3 _ _ _ hP hD hS hl hf
  have hl : lv_has ls0 4 [(0, .ref (af 0)), (1, .int x1)] := hl0
  have hP := hP0
  have hD := hD0
  have hS := hS0
  unfold fX1_ofSort at hf
  refine lv_iconst (v := 0) hx hb dX1_ofSort_0 (by decide) ?_
  refine lv_istore_n (lv' := [(2, .int 0), (0, .ref (af 0)), (1, .int x1)]) hx hb dX1_ofSort_1 rfl hl (by decide) rfl (fun ls hl => ?_)
  refine lv_iconst (v := 0) hx hb dX1_ofSort_2 (by decide) ?_
  refine lv_istore_n (lv' := [(3, .int 0), (2, .int 0), (0, .ref (af 0)), (1, .int x1)]) hx hb dX1_ofSort_3 rfl hl (by decide) rfl (fun ls hl => ?_)
  exact h4 400 x1 0 0 _ _ _ hP hD hS (lv_sub hl [2, 3, 1, 0] rfl) hf

def fX1_likedByOthers_4_s (Fo : ST) (k4 : Int32 → Int32 → Int32 → Option Int32) (y1 : Int32) (y2 : Int32) (y3 : Int32) : Option Int32 :=
  (if (Fo 0 0) ≤ y3 then some y2 else (if y3 = y1 then dc_lt (y3 + 1) (fun v3 => k4 y1 y2 v3) else dc_b1 (fX1_isAlive y3 Fo) (fun r4 => (if r4 = 0 then dc_lt (y3 + 1) (fun v7 => k4 y1 y2 v7) else dc_ck ((y3 * 10) + y1) 100 (dc_lt (y2 + (Fo 7 (Int32.toNatClampNeg ((y3 * 10) + y1)))) (fun v9 => dc_lt (y3 + 1) (fun v10 => k4 y1 v9 v10)))))))
def fX1_likedByOthers_4 (Fo : ST) : Nat → Int32 → Int32 → Int32 → Option Int32
  | 0 => fun _ _ _ => none
  | n + 1 => fX1_likedByOthers_4_s Fo (fX1_likedByOthers_4 Fo n)
def fX1_likedByOthers (x1 : Int32) (Fo : ST) : Option Int32 :=
  fX1_likedByOthers_4 Fo 400 x1 0 0
abbrev rmX1_likedByOthers : Room := { frames := 2, cells := 0, slots := 0, locals := 42 }
set_option maxRecDepth 100000 in
set_option maxHeartbeats 4000000 in
theorem tX1_likedByOthers (l : Launch) (D : va_G) (cs : Nat → ClassId) (af : Nat → Nat) (x1 : Int32) (Fo : ST) (r0 : Int32) (hf : fX1_likedByOthers x1 Fo = some r0) : CG l yX1_likedByOthers (wsm yX1_likedByOthers cX1_likedByOthers 4 (some .int)) rmX1_likedByOthers D cs [.ref (af 0), .int x1] (some (.int r0)) (kX1 cs af  Fo) (kX1 cs af  Fo) := by
  refine CG.intro (by decide) (Nat.le_of_ble_eq_true rfl) ?_
  intro p e s m below meth c A Q hx hb hml hown hu hK hZ hP0 hD0 hS0 hA hri hrz hrl hrv hra ls0 hl0
  have hs4 : ∀ (k4 : Int32 → Int32 → Int32 → Option Int32), (∀ (y1 : Int32) (y2 : Int32) (y3 : Int32) (H : Heap) (locs : List Loc) (ls : Array Slot), va_P D vwCl (kX1 cs af  Fo) H → va_D A (kX1 cs af  Fo) → va_S A s.heap H locs → lv_has ls 4 [(0, .ref (af 0)), (1, .int y1), (2, .int y2), (3, .int y3)] → k4 y1 y2 y3 = some r0 → W p l e rmX1_likedByOthers s m [.ref (af 0), .int x1].toArray below meth c H locs 0 0 Q (F0 m 4 ls [])) → ∀ (y1 : Int32) (y2 : Int32) (y3 : Int32) (H : Heap) (locs : List Loc) (ls : Array Slot), va_P D vwCl (kX1 cs af  Fo) H → va_D A (kX1 cs af  Fo) → va_S A s.heap H locs → lv_has ls 4 [(0, .ref (af 0)), (1, .int y1), (2, .int y2), (3, .int y3)] → fX1_likedByOthers_4_s Fo k4 y1 y2 y3 = some r0 → W p l e rmX1_likedByOthers s m [.ref (af 0), .int x1].toArray below meth c H locs 0 0 Q (F0 m 4 ls []) := by
    intro k4 hk4 y1 y2 y3 H locs ls hP hD hS hl hf
    unfold fX1_likedByOthers_4_s at hf
    refine lv_iload_n hx hb dX1_likedByOthers_4 rfl (lv_at hl 3 rfl) ?_
    refine lv_aload_n hx hb dX1_likedByOthers_5 rfl (lv_at hl 0 rfl) ?_
    refine va_get (D := D) (ci := 1) (v := .int (Fo 0 0)) (C := RX1) (T := TX1) (N := 9) hx hb hu inX1 hown hK.1 hP 0 rfl rfl 0 (by decide) (hu _ q92) (fun _ h9 => h9) rfl dX1_likedByOthers_6 ?_
    refine lv_icmp_ge (tgt := 45) hx hb dX1_likedByOthers_9 (by decide) (fun hc1 => ?_) (fun hc1 => ?_)
    · have hf := ip_el hc1 hf
      refine lv_iload_n hx hb dX1_likedByOthers_45 rfl (lv_at hl 2 rfl) ?_
      have he := Option.some.inj hf
      have e0 := he
      exact hri _ _ _ rfl (congrArg (fun z => some (Value.int z)) e0.symm) dX1_likedByOthers_46 _ _ _ rfl hP hD hS
    · have hf := in_el hc1 hf
      refine lv_iload_n hx hb dX1_likedByOthers_12 rfl (lv_at hl 3 rfl) ?_
      refine lv_iload_n hx hb dX1_likedByOthers_13 rfl (lv_at hl 1 rfl) ?_
      refine lv_icmp_eq (tgt := 39) hx hb dX1_likedByOthers_14 (by decide) (fun hc2 => ?_) (fun hc2 => ?_)
      · have hf := ip_el hc2 hf
        obtain ⟨v3, hv3, hf⟩ := lt_el hf
        refine lv_iinc (v := v3) (lv' := [(3, .int v3), (0, .ref (af 0)), (1, .int y1), (2, .int y2)]) hx hb dX1_likedByOthers_39 hl (k := 3) rfl (by rw [hv3]; rfl) (by decide) rfl (fun ls hl => ?_)
        refine lv_goto (tgt := 4) hx hb dX1_likedByOthers_42 (by decide) ?_
        exact hk4 y1 y2 v3 _ _ _ hP hD hS (lv_sub hl [1, 2, 3, 0] rfl) hf
      · have hf := in_el hc2 hf
        refine lv_aload_n hx hb dX1_likedByOthers_17 rfl (lv_at hl 0 rfl) ?_
        refine lv_iload_n hx hb dX1_likedByOthers_18 rfl (lv_at hl 3 rfl) ?_
        obtain ⟨r4, hg5, hf⟩ := b1_el hf
        refine cc_V1 (w' := (kX1 cs af  Fo)) (st1 := [.int r4]) [.int y3] hx hb hml hown hu (tX1_isAlive l D cs af y3 Fo r4 hg5) q356 q56 q541 q354 q355 pdX1_isAlive ⟨rfl, rfl, Nat.le_of_ble_eq_true rfl, Nat.le_of_ble_eq_true rfl⟩ hK hZ hP hD hS hA rfl rfl rfl rfl hl.1 rfl (Nat.le_of_ble_eq_true rfl) dX1_likedByOthers_19 rfl (fun H locs hP hD hS => ?_)
        refine lv_if_eq (tgt := 39) hx hb dX1_likedByOthers_22 (by decide) (fun hc6 => ?_) (fun hc6 => ?_)
        · have hf := ip_el hc6 hf
          obtain ⟨v7, hv7, hf⟩ := lt_el hf
          refine lv_iinc (v := v7) (lv' := [(3, .int v7), (0, .ref (af 0)), (1, .int y1), (2, .int y2)]) hx hb dX1_likedByOthers_39 hl (k := 3) rfl (by rw [hv7]; rfl) (by decide) rfl (fun ls hl => ?_)
          refine lv_goto (tgt := 4) hx hb dX1_likedByOthers_42 (by decide) ?_
          exact hk4 y1 y2 v7 _ _ _ hP hD hS (lv_sub hl [1, 2, 3, 0] rfl) hf
        · have hf := in_el hc6 hf
          refine lv_iload_n hx hb dX1_likedByOthers_25 rfl (lv_at hl 2 rfl) ?_
          refine lv_aload_n hx hb dX1_likedByOthers_26 rfl (lv_at hl 0 rfl) ?_
          refine va_get (D := D) (ci := 1) (v := .ref (af 7)) (C := RX1) (T := TX1) (N := 9) hx hb hu inX1 hown hK.1 hP 0 rfl rfl 6 (by decide) (hu _ q106) (fun _ h9 => h9) rfl dX1_likedByOthers_27 ?_
          refine lv_iload_n hx hb dX1_likedByOthers_30 rfl (lv_at hl 3 rfl) ?_
          refine lv_bipush (v := 10) hx hb dX1_likedByOthers_31 (by decide) ?_
          refine lv_imul hx hb dX1_likedByOthers_33 ?_
          refine lv_iload_n hx hb dX1_likedByOthers_34 rfl (lv_at hl 1 rfl) ?_
          refine lv_iadd hx hb dX1_likedByOthers_35 ?_
          obtain ⟨hi8, hf⟩ := ck_el hf
          refine va_iald hx hb hK.1 hP 5 0 rfl rfl hi8 dX1_likedByOthers_36 ?_
          refine lv_iadd hx hb dX1_likedByOthers_37 ?_
          obtain ⟨v9, hv9, hf⟩ := lt_el hf
          refine lv_tope hv9 ?_
          refine lv_istore_n (lv' := [(2, .int v9), (0, .ref (af 0)), (1, .int y1), (3, .int y3)]) hx hb dX1_likedByOthers_38 rfl hl (by decide) rfl (fun ls hl => ?_)
          obtain ⟨v10, hv10, hf⟩ := lt_el hf
          refine lv_iinc (v := v10) (lv' := [(3, .int v10), (2, .int v9), (0, .ref (af 0)), (1, .int y1)]) hx hb dX1_likedByOthers_39 hl (k := 3) rfl (by rw [hv10]; rfl) (by decide) rfl (fun ls hl => ?_)
          refine lv_goto (tgt := 4) hx hb dX1_likedByOthers_42 (by decide) ?_
          exact hk4 y1 v9 v10 _ _ _ hP hD hS (lv_sub hl [2, 3, 1, 0] rfl) hf
  have h4 : ∀ (n : Nat), ∀ (y1 : Int32) (y2 : Int32) (y3 : Int32) (H : Heap) (locs : List Loc) (ls : Array Slot), va_P D vwCl (kX1 cs af  Fo) H → va_D A (kX1 cs af  Fo) → va_S A s.heap H locs → lv_has ls 4 [(0, .ref (af 0)), (1, .int y1), (2, .int y2), (3, .int y3)] → fX1_likedByOthers_4 Fo n y1 y2 y3 = some r0 → W p l e rmX1_likedByOthers s m [.ref (af 0), .int x1].toArray below meth c H locs 0 0 Q (F0 m 4 ls []) := by
    intro n
    induction n with
    | zero => intro y1 y2 y3 H locs ls hP hD hS hl hf; exact no_el hf
    | succ n ih => intro y1 y2 y3 H locs ls hP hD hS hl hf; exact hs4 _ ih y1 y2 y3 _ _ _ hP hD hS hl hf
  have hl : lv_has ls0 4 [(0, .ref (af 0)), (1, .int x1)] := hl0
  have hP := hP0
  have hD := hD0
  have hS := hS0
  unfold fX1_likedByOthers at hf
  refine lv_iconst (v := 0) hx hb dX1_likedByOthers_0 (by decide) ?_
  refine lv_istore_n (lv' := [(2, .int 0), (0, .ref (af 0)), (1, .int x1)]) hx hb dX1_likedByOthers_1 rfl hl (by decide) rfl (fun ls hl => ?_)
  refine lv_iconst (v := 0) hx hb dX1_likedByOthers_2 (by decide) ?_
  refine lv_istore_n (lv' := [(3, .int 0), (2, .int 0), (0, .ref (af 0)), (1, .int x1)]) hx hb dX1_likedByOthers_3 rfl hl (by decide) rfl (fun ls hl => ?_)
  exact h4 400 x1 0 0 _ _ _ hP hD hS (lv_sub hl [2, 3, 1, 0] rfl) hf

def fX1_worthOf (x1 : Int32) (x2 : Int32) (Fo : ST) : Option Int32 :=
  dc_ck x1 10 (dc_ck (((Fo 4 (Int32.toNatClampNeg x1)) * 4) + x2) 16 (some (Fo 8 (Int32.toNatClampNeg (((Fo 4 (Int32.toNatClampNeg x1)) * 4) + x2)))))
abbrev rmX1_worthOf : Room := { frames := 0, cells := 0, slots := 0, locals := 0 }
set_option maxRecDepth 100000 in
set_option maxHeartbeats 4000000 in
theorem tX1_worthOf (l : Launch) (D : va_G) (cs : Nat → ClassId) (af : Nat → Nat) (x1 : Int32) (x2 : Int32) (Fo : ST) (r0 : Int32) (hf : fX1_worthOf x1 x2 Fo = some r0) : CG l yX1_worthOf (wsm yX1_worthOf cX1_worthOf 3 (some .int)) rmX1_worthOf D cs [.ref (af 0), .int x1, .int x2] (some (.int r0)) (kX1 cs af  Fo) (kX1 cs af  Fo) := by
  refine CG.intro (by decide) (Nat.le_of_ble_eq_true rfl) ?_
  intro p e s m below meth c A Q hx hb hml hown hu hK hZ hP0 hD0 hS0 hA hri hrz hrl hrv hra ls0 hl0
  have hl : lv_has ls0 3 [(0, .ref (af 0)), (1, .int x1), (2, .int x2)] := hl0
  have hP := hP0
  have hD := hD0
  have hS := hS0
  unfold fX1_worthOf at hf
  refine lv_aload_n hx hb dX1_worthOf_0 rfl (lv_at hl 0 rfl) ?_
  refine va_get (D := D) (ci := 1) (v := .ref (af 8)) (C := RX1) (T := TX1) (N := 9) hx hb hu inX1 hown hK.1 hP 0 rfl rfl 7 (by decide) (hu _ q109) (fun _ h9 => h9) rfl dX1_worthOf_1 ?_
  refine lv_aload_n hx hb dX1_worthOf_4 rfl (lv_at hl 0 rfl) ?_
  refine va_get (D := D) (ci := 1) (v := .ref (af 4)) (C := RX1) (T := TX1) (N := 9) hx hb hu inX1 hown hK.1 hP 0 rfl rfl 3 (by decide) (hu _ q100) (fun _ h9 => h9) rfl dX1_worthOf_5 ?_
  refine lv_iload_n hx hb dX1_worthOf_8 rfl (lv_at hl 1 rfl) ?_
  obtain ⟨hi1, hf⟩ := ck_el hf
  refine va_iald hx hb hK.1 hP 3 0 rfl rfl hi1 dX1_worthOf_9 ?_
  refine lv_iconst (v := 4) hx hb dX1_worthOf_10 (by decide) ?_
  refine lv_imul hx hb dX1_worthOf_11 ?_
  refine lv_iload_n hx hb dX1_worthOf_12 rfl (lv_at hl 2 rfl) ?_
  refine lv_iadd hx hb dX1_worthOf_13 ?_
  obtain ⟨hi2, hf⟩ := ck_el hf
  refine va_iald hx hb hK.1 hP 6 0 rfl rfl hi2 dX1_worthOf_14 ?_
  have he := Option.some.inj hf
  have e0 := he
  exact hri _ _ _ rfl (congrArg (fun z => some (Value.int z)) e0.symm) dX1_worthOf_15 _ _ _ rfl hP hD hS

def fX1_grow_2_s (k2 : Int32 → ST → Option ST) (y1 : Int32) (Fo : ST) : Option ST :=
  (if (Fo 0 0) ≤ y1 then some Fo else dc_b1 (fX1_isAlive y1 Fo) (fun r2 => (if r2 = 0 then dc_lt (y1 + 1) (fun v5 => k2 v5 Fo) else dc_ck y1 10 ((if 99 ≤ (Fo 3 (Int32.toNatClampNeg y1)) then dc_lt (y1 + 1) (fun v8 => k2 v8 Fo) else dc_ck y1 10 (dc_ck y1 10 (dc_lt (sti Fo 3 (Int32.toNatClampNeg y1) ((Fo 3 (Int32.toNatClampNeg y1)) + 1)) (fun Fo_11 => dc_lt (y1 + 1) (fun v12 => k2 v12 Fo_11)))))))))
def fX1_grow_2 : Nat → Int32 → ST → Option ST
  | 0 => fun _ _ => none
  | n + 1 => fX1_grow_2_s (fX1_grow_2 n)
def fX1_grow (Fo : ST) : Option ST :=
  fX1_grow_2 400 0 Fo
abbrev rmX1_grow : Room := { frames := 2, cells := 0, slots := 0, locals := 42 }
set_option maxRecDepth 100000 in
set_option maxHeartbeats 4000000 in
theorem tX1_grow (l : Launch) (D : va_G) (cs : Nat → ClassId) (af : Nat → Nat) (Fo : ST) (Foz : ST) (hf : fX1_grow Fo = some Foz) : CG l yX1_grow (wsm yX1_grow cX1_grow 2 none) rmX1_grow D cs [.ref (af 0)] none (kX1 cs af  Fo) (kX1 cs af  Foz) := by
  refine CG.intro (by decide) (Nat.le_of_ble_eq_true rfl) ?_
  intro p e s m below meth c A Q hx hb hml hown hu hK hZ hP0 hD0 hS0 hA hri hrz hrl hrv hra ls0 hl0
  have hs2 : ∀ (k2 : Int32 → ST → Option ST), (∀ (y1 : Int32) (Fo : ST) (H : Heap) (locs : List Loc) (ls : Array Slot), va_P D vwCl (kX1 cs af  Fo) H → va_D A (kX1 cs af  Fo) → va_S A s.heap H locs → lv_has ls 2 [(0, .ref (af 0)), (1, .int y1)] → k2 y1 Fo = some Foz → W p l e rmX1_grow s m [.ref (af 0)].toArray below meth c H locs 0 0 Q (F0 m 2 ls [])) → ∀ (y1 : Int32) (Fo : ST) (H : Heap) (locs : List Loc) (ls : Array Slot), va_P D vwCl (kX1 cs af  Fo) H → va_D A (kX1 cs af  Fo) → va_S A s.heap H locs → lv_has ls 2 [(0, .ref (af 0)), (1, .int y1)] → fX1_grow_2_s k2 y1 Fo = some Foz → W p l e rmX1_grow s m [.ref (af 0)].toArray below meth c H locs 0 0 Q (F0 m 2 ls []) := by
    intro k2 hk2 y1 Fo H locs ls hP hD hS hl hf
    unfold fX1_grow_2_s at hf
    refine lv_iload_n hx hb dX1_grow_2 rfl (lv_at hl 1 rfl) ?_
    refine lv_aload_n hx hb dX1_grow_3 rfl (lv_at hl 0 rfl) ?_
    refine va_get (D := D) (ci := 1) (v := .int (Fo 0 0)) (C := RX1) (T := TX1) (N := 9) hx hb hu inX1 hown hK.1 hP 0 rfl rfl 0 (by decide) (hu _ q92) (fun _ h9 => h9) rfl dX1_grow_4 ?_
    refine lv_icmp_ge (tgt := 45) hx hb dX1_grow_7 (by decide) (fun hc1 => ?_) (fun hc1 => ?_)
    · have hf := ip_el hc1 hf
      have he := Option.some.inj hf
      have e0 := he
      exact hrv _ _ rfl rfl dX1_grow_45 _ _ _ (by rw [e0]) hP hD hS
    · have hf := in_el hc1 hf
      refine lv_aload_n hx hb dX1_grow_10 rfl (lv_at hl 0 rfl) ?_
      refine lv_iload_n hx hb dX1_grow_11 rfl (lv_at hl 1 rfl) ?_
      obtain ⟨r2, hg3, hf⟩ := b1_el hf
      refine cc_V1 (w' := (kX1 cs af  Fo)) (st1 := [.int r2]) [.int y1] hx hb hml hown hu (tX1_isAlive l D cs af y1 Fo r2 hg3) q356 q56 q541 q354 q355 pdX1_isAlive ⟨rfl, rfl, Nat.le_of_ble_eq_true rfl, Nat.le_of_ble_eq_true rfl⟩ hK hZ hP hD hS hA rfl rfl rfl rfl hl.1 rfl (Nat.le_of_ble_eq_true rfl) dX1_grow_12 rfl (fun H locs hP hD hS => ?_)
      refine lv_if_eq (tgt := 39) hx hb dX1_grow_15 (by decide) (fun hc4 => ?_) (fun hc4 => ?_)
      · have hf := ip_el hc4 hf
        obtain ⟨v5, hv5, hf⟩ := lt_el hf
        refine lv_iinc (v := v5) (lv' := [(1, .int v5), (0, .ref (af 0))]) hx hb dX1_grow_39 hl (k := 1) rfl (by rw [hv5]; rfl) (by decide) rfl (fun ls hl => ?_)
        refine lv_goto (tgt := 2) hx hb dX1_grow_42 (by decide) ?_
        exact hk2 v5 Fo _ _ _ hP hD hS (lv_sub hl [1, 0] rfl) hf
      · have hf := in_el hc4 hf
        refine lv_aload_n hx hb dX1_grow_18 rfl (lv_at hl 0 rfl) ?_
        refine va_get (D := D) (ci := 1) (v := .ref (af 3)) (C := RX1) (T := TX1) (N := 9) hx hb hu inX1 hown hK.1 hP 0 rfl rfl 2 (by decide) (hu _ q98) (fun _ h9 => h9) rfl dX1_grow_19 ?_
        refine lv_iload_n hx hb dX1_grow_22 rfl (lv_at hl 1 rfl) ?_
        obtain ⟨hi6, hf⟩ := ck_el hf
        refine va_iald hx hb hK.1 hP 2 0 rfl rfl hi6 dX1_grow_23 ?_
        refine lv_bipush (v := 99) hx hb dX1_grow_24 (by decide) ?_
        refine lv_icmp_ge (tgt := 39) hx hb dX1_grow_26 (by decide) (fun hc7 => ?_) (fun hc7 => ?_)
        · have hf := ip_el hc7 hf
          obtain ⟨v8, hv8, hf⟩ := lt_el hf
          refine lv_iinc (v := v8) (lv' := [(1, .int v8), (0, .ref (af 0))]) hx hb dX1_grow_39 hl (k := 1) rfl (by rw [hv8]; rfl) (by decide) rfl (fun ls hl => ?_)
          refine lv_goto (tgt := 2) hx hb dX1_grow_42 (by decide) ?_
          exact hk2 v8 Fo _ _ _ hP hD hS (lv_sub hl [1, 0] rfl) hf
        · have hf := in_el hc7 hf
          refine lv_aload_n hx hb dX1_grow_29 rfl (lv_at hl 0 rfl) ?_
          refine va_get (D := D) (ci := 1) (v := .ref (af 3)) (C := RX1) (T := TX1) (N := 9) hx hb hu inX1 hown hK.1 hP 0 rfl rfl 2 (by decide) (hu _ q98) (fun _ h9 => h9) rfl dX1_grow_30 ?_
          refine lv_iload_n hx hb dX1_grow_33 rfl (lv_at hl 1 rfl) ?_
          refine lv_dup2_11 hx hb dX1_grow_34 rfl rfl ?_
          obtain ⟨hi9, hf⟩ := ck_el hf
          refine va_iald hx hb hK.1 hP 2 0 rfl rfl hi9 dX1_grow_35 ?_
          refine lv_iconst (v := 1) hx hb dX1_grow_36 (by decide) ?_
          refine lv_iadd hx hb dX1_grow_37 ?_
          obtain ⟨hi10, hf⟩ := ck_el hf
          obtain ⟨Fo_11, hFo_11, hf⟩ := lt_el hf
          refine va_iast hx hb hK.1 hP hD hS 2 0 rfl rfl hi10 dX1_grow_38 (fun H locs hP hD hS => ?_)
          have hP : va_P D vwCl (kX1 cs af  Fo_11) H := by rw [hFo_11]; exact hP
          have hD : va_D A (kX1 cs af  Fo_11) := by rw [hFo_11]; exact hD
          obtain ⟨v12, hv12, hf⟩ := lt_el hf
          refine lv_iinc (v := v12) (lv' := [(1, .int v12), (0, .ref (af 0))]) hx hb dX1_grow_39 hl (k := 1) rfl (by rw [hv12]; rfl) (by decide) rfl (fun ls hl => ?_)
          refine lv_goto (tgt := 2) hx hb dX1_grow_42 (by decide) ?_
          exact hk2 v12 Fo_11 _ _ _ hP hD hS (lv_sub hl [1, 0] rfl) hf
  have h2 : ∀ (n : Nat), ∀ (y1 : Int32) (Fo : ST) (H : Heap) (locs : List Loc) (ls : Array Slot), va_P D vwCl (kX1 cs af  Fo) H → va_D A (kX1 cs af  Fo) → va_S A s.heap H locs → lv_has ls 2 [(0, .ref (af 0)), (1, .int y1)] → fX1_grow_2 n y1 Fo = some Foz → W p l e rmX1_grow s m [.ref (af 0)].toArray below meth c H locs 0 0 Q (F0 m 2 ls []) := by
    intro n
    induction n with
    | zero => intro y1 Fo H locs ls hP hD hS hl hf; exact no_el hf
    | succ n ih => intro y1 Fo H locs ls hP hD hS hl hf; exact hs2 _ ih y1 Fo _ _ _ hP hD hS hl hf
  have hl : lv_has ls0 2 [(0, .ref (af 0))] := hl0
  have hP := hP0
  have hD := hD0
  have hS := hS0
  unfold fX1_grow at hf
  refine lv_iconst (v := 0) hx hb dX1_grow_0 (by decide) ?_
  refine lv_istore_n (lv' := [(1, .int 0), (0, .ref (af 0))]) hx hb dX1_grow_1 rfl hl (by decide) rfl (fun ls hl => ?_)
  exact h2 400 0 Fo _ _ _ hP hD hS (lv_sub hl [1, 0] rfl) hf

def fX1_drawLots_2_s (k2 : Int32 → Int32 → ST → Option ST) (y1 : Int32) (y2 : Int32) (Fo : ST) : Option ST :=
  (if (Fo 0 0) ≤ y2 then some Fo else dc_b1 (fX1_isAlive y2 Fo) (fun r2 => (if r2 = 0 then dc_lt (y2 + 1) (fun v5 => k2 y1 v5 Fo) else dc_lt (sti Fo 0 8 (((Fo 0 8) * 1103515245) + 12345)) (fun Fo_6 => dc_lt ((dc_ushr (Fo_6 0 8) 8) - (dc_ushr (Fo_6 0 8) 8) / 1000 * 1000) (fun v7 => dc_ck y2 10 ((if (Fo_6 3 (Int32.toNatClampNeg y2)) ≤ 40 then dc_lt (y2 + 1) (fun v10 => k2 y1 v10 Fo_6) else dc_ck y2 10 ((if (y1 * ((Fo_6 3 (Int32.toNatClampNeg y2)) - 40)) ≤ v7 then dc_lt (y2 + 1) (fun v13 => k2 y1 v13 Fo_6) else dc_lt (sti Fo_6 0 5 ((Fo_6 0 5) ||| ((1 : Int32) <<< (y2 &&& 31)))) (fun Fo_14 => dc_lt (y2 + 1) (fun v15 => k2 y1 v15 Fo_14)))))))))))
def fX1_drawLots_2 : Nat → Int32 → Int32 → ST → Option ST
  | 0 => fun _ _ _ => none
  | n + 1 => fX1_drawLots_2_s (fX1_drawLots_2 n)
def fX1_drawLots (x1 : Int32) (Fo : ST) : Option ST :=
  fX1_drawLots_2 400 x1 0 Fo
abbrev rmX1_drawLots : Room := { frames := 2, cells := 0, slots := 0, locals := 42 }
set_option maxRecDepth 100000 in
set_option maxHeartbeats 4000000 in
theorem tX1_drawLots (l : Launch) (D : va_G) (cs : Nat → ClassId) (af : Nat → Nat) (x1 : Int32) (Fo : ST) (Foz : ST) (hf : fX1_drawLots x1 Fo = some Foz) : CG l yX1_drawLots (wsm yX1_drawLots cX1_drawLots 4 none) rmX1_drawLots D cs [.ref (af 0), .int x1] none (kX1 cs af  Fo) (kX1 cs af  Foz) := by
  refine CG.intro (by decide) (Nat.le_of_ble_eq_true rfl) ?_
  intro p e s m below meth c A Q hx hb hml hown hu hK hZ hP0 hD0 hS0 hA hri hrz hrl hrv hra ls0 hl0
  have hs2 : ∀ (k2 : Int32 → Int32 → ST → Option ST), (∀ (y1 : Int32) (y2 : Int32) (Fo : ST) (H : Heap) (locs : List Loc) (ls : Array Slot), va_P D vwCl (kX1 cs af  Fo) H → va_D A (kX1 cs af  Fo) → va_S A s.heap H locs → lv_has ls 4 [(0, .ref (af 0)), (1, .int y1), (2, .int y2)] → k2 y1 y2 Fo = some Foz → W p l e rmX1_drawLots s m [.ref (af 0), .int x1].toArray below meth c H locs 0 0 Q (F0 m 2 ls [])) → ∀ (y1 : Int32) (y2 : Int32) (Fo : ST) (H : Heap) (locs : List Loc) (ls : Array Slot), va_P D vwCl (kX1 cs af  Fo) H → va_D A (kX1 cs af  Fo) → va_S A s.heap H locs → lv_has ls 4 [(0, .ref (af 0)), (1, .int y1), (2, .int y2)] → fX1_drawLots_2_s k2 y1 y2 Fo = some Foz → W p l e rmX1_drawLots s m [.ref (af 0), .int x1].toArray below meth c H locs 0 0 Q (F0 m 2 ls []) := by
    intro k2 hk2 y1 y2 Fo H locs ls hP hD hS hl hf
    unfold fX1_drawLots_2_s at hf
    refine lv_iload_n hx hb dX1_drawLots_2 rfl (lv_at hl 2 rfl) ?_
    refine lv_aload_n hx hb dX1_drawLots_3 rfl (lv_at hl 0 rfl) ?_
    refine va_get (D := D) (ci := 1) (v := .int (Fo 0 0)) (C := RX1) (T := TX1) (N := 9) hx hb hu inX1 hown hK.1 hP 0 rfl rfl 0 (by decide) (hu _ q92) (fun _ h9 => h9) rfl dX1_drawLots_4 ?_
    refine lv_icmp_ge (tgt := 89) hx hb dX1_drawLots_7 (by decide) (fun hc1 => ?_) (fun hc1 => ?_)
    · have hf := ip_el hc1 hf
      have he := Option.some.inj hf
      have e0 := he
      exact hrv _ _ rfl rfl dX1_drawLots_89 _ _ _ (by rw [e0]) hP hD hS
    · have hf := in_el hc1 hf
      refine lv_aload_n hx hb dX1_drawLots_10 rfl (lv_at hl 0 rfl) ?_
      refine lv_iload_n hx hb dX1_drawLots_11 rfl (lv_at hl 2 rfl) ?_
      obtain ⟨r2, hg3, hf⟩ := b1_el hf
      refine cc_V1 (w' := (kX1 cs af  Fo)) (st1 := [.int r2]) [.int y2] hx hb hml hown hu (tX1_isAlive l D cs af y2 Fo r2 hg3) q356 q56 q541 q354 q355 pdX1_isAlive ⟨rfl, rfl, Nat.le_of_ble_eq_true rfl, Nat.le_of_ble_eq_true rfl⟩ hK hZ hP hD hS hA rfl rfl rfl rfl hl.1 rfl (Nat.le_of_ble_eq_true rfl) dX1_drawLots_12 rfl (fun H locs hP hD hS => ?_)
      refine lv_if_eq (tgt := 83) hx hb dX1_drawLots_15 (by decide) (fun hc4 => ?_) (fun hc4 => ?_)
      · have hf := ip_el hc4 hf
        obtain ⟨v5, hv5, hf⟩ := lt_el hf
        refine lv_iinc (v := v5) (lv' := [(2, .int v5), (0, .ref (af 0)), (1, .int y1)]) hx hb dX1_drawLots_83 hl (k := 2) rfl (by rw [hv5]; rfl) (by decide) rfl (fun ls hl => ?_)
        refine lv_goto (tgt := 2) hx hb dX1_drawLots_86 (by decide) ?_
        exact hk2 y1 v5 Fo _ _ _ hP hD hS (lv_sub hl [1, 2, 0] rfl) hf
      · have hf := in_el hc4 hf
        refine lv_aload_n hx hb dX1_drawLots_18 rfl (lv_at hl 0 rfl) ?_
        refine lv_aload_n hx hb dX1_drawLots_19 rfl (lv_at hl 0 rfl) ?_
        refine va_get (D := D) (ci := 1) (v := .int (Fo 0 8)) (C := RX1) (T := TX1) (N := 9) hx hb hu inX1 hown hK.1 hP 0 rfl rfl 8 (by decide) (hu _ q112) (fun _ h9 => h9) rfl dX1_drawLots_20 ?_
        refine lv_ldc (v := 1103515245) hx hb hown (hu _ q546) dX1_drawLots_23 ?_
        refine lv_imul hx hb dX1_drawLots_25 ?_
        refine lv_sipush (v := 12345) hx hb dX1_drawLots_26 (by decide) ?_
        refine lv_iadd hx hb dX1_drawLots_29 ?_
        obtain ⟨Fo_6, hFo_6, hf⟩ := lt_el hf
        refine va_put (D := D) (ci := 1) (v := .int (((Fo 0 8) * 1103515245) + 12345)) (ty := .int) (C := RX1) (T := TX1) (N := 9) hx hb hu inX1 tyX1 tyX1_ok nmX1 hown hK.1 hP hD hS 0 rfl rfl 8 (by decide) (hu _ q112) (fun _ h9 => h9) rfl (by decide +kernel) rfl rfl (Nat.le_of_ble_eq_true rfl) dX1_drawLots_30 (fun H locs hP hD hS => ?_)
        have hP : va_P D vwCl (kX1 cs af  Fo_6) H := by rw [hFo_6]; exact hP
        have hD : va_D A (kX1 cs af  Fo_6) := by rw [hFo_6]; exact hD
        refine lv_aload_n hx hb dX1_drawLots_33 rfl (lv_at hl 0 rfl) ?_
        refine va_get (D := D) (ci := 1) (v := .int (Fo_6 0 8)) (C := RX1) (T := TX1) (N := 9) hx hb hu inX1 hown hK.1 hP 0 rfl rfl 8 (by decide) (hu _ q112) (fun _ h9 => h9) rfl dX1_drawLots_34 ?_
        refine lv_bipush (v := 8) hx hb dX1_drawLots_37 (by decide) ?_
        refine lv_iushr (v := (dc_ushr (Fo_6 0 8) 8)) hx hb dX1_drawLots_39 rfl ?_
        refine lv_sipush (v := 1000) hx hb dX1_drawLots_40 (by decide) ?_
        refine lv_irem hx hb dX1_drawLots_43 (by decide) ?_
        obtain ⟨v7, hv7, hf⟩ := lt_el hf
        refine lv_tope hv7 ?_
        refine lv_istore_n (lv' := [(3, .int v7), (0, .ref (af 0)), (1, .int y1), (2, .int y2)]) hx hb dX1_drawLots_44 rfl hl (by decide) rfl (fun ls hl => ?_)
        refine lv_aload_n hx hb dX1_drawLots_45 rfl (lv_at hl 1 rfl) ?_
        refine va_get (D := D) (ci := 1) (v := .ref (af 3)) (C := RX1) (T := TX1) (N := 9) hx hb hu inX1 hown hK.1 hP 0 rfl rfl 2 (by decide) (hu _ q98) (fun _ h9 => h9) rfl dX1_drawLots_46 ?_
        refine lv_iload_n hx hb dX1_drawLots_49 rfl (lv_at hl 3 rfl) ?_
        obtain ⟨hi8, hf⟩ := ck_el hf
        refine va_iald hx hb hK.1 hP 2 0 rfl rfl hi8 dX1_drawLots_50 ?_
        refine lv_bipush (v := 40) hx hb dX1_drawLots_51 (by decide) ?_
        refine lv_icmp_le (tgt := 83) hx hb dX1_drawLots_53 (by decide) (fun hc9 => ?_) (fun hc9 => ?_)
        · have hf := ip_el hc9 hf
          obtain ⟨v10, hv10, hf⟩ := lt_el hf
          refine lv_iinc (v := v10) (lv' := [(2, .int v10), (3, .int v7), (0, .ref (af 0)), (1, .int y1)]) hx hb dX1_drawLots_83 hl (k := 3) rfl (by rw [hv10]; rfl) (by decide) rfl (fun ls hl => ?_)
          refine lv_goto (tgt := 2) hx hb dX1_drawLots_86 (by decide) ?_
          exact hk2 y1 v10 Fo_6 _ _ _ hP hD hS (lv_sub hl [2, 3, 0] rfl) hf
        · have hf := in_el hc9 hf
          refine lv_iload_n hx hb dX1_drawLots_56 rfl (lv_at hl 0 rfl) ?_
          refine lv_iload_n hx hb dX1_drawLots_57 rfl (lv_at hl 2 rfl) ?_
          refine lv_aload_n hx hb dX1_drawLots_58 rfl (lv_at hl 1 rfl) ?_
          refine va_get (D := D) (ci := 1) (v := .ref (af 3)) (C := RX1) (T := TX1) (N := 9) hx hb hu inX1 hown hK.1 hP 0 rfl rfl 2 (by decide) (hu _ q98) (fun _ h9 => h9) rfl dX1_drawLots_59 ?_
          refine lv_iload_n hx hb dX1_drawLots_62 rfl (lv_at hl 3 rfl) ?_
          obtain ⟨hi11, hf⟩ := ck_el hf
          refine va_iald hx hb hK.1 hP 2 0 rfl rfl hi11 dX1_drawLots_63 ?_
          refine lv_bipush (v := 40) hx hb dX1_drawLots_64 (by decide) ?_
          refine lv_isub hx hb dX1_drawLots_66 ?_
          refine lv_imul hx hb dX1_drawLots_67 ?_
          refine lv_icmp_ge (tgt := 83) hx hb dX1_drawLots_68 (by decide) (fun hc12 => ?_) (fun hc12 => ?_)
          · have hf := ip_el hc12 hf
            obtain ⟨v13, hv13, hf⟩ := lt_el hf
            refine lv_iinc (v := v13) (lv' := [(2, .int v13), (3, .int v7), (0, .ref (af 0)), (1, .int y1)]) hx hb dX1_drawLots_83 hl (k := 3) rfl (by rw [hv13]; rfl) (by decide) rfl (fun ls hl => ?_)
            refine lv_goto (tgt := 2) hx hb dX1_drawLots_86 (by decide) ?_
            exact hk2 y1 v13 Fo_6 _ _ _ hP hD hS (lv_sub hl [2, 3, 0] rfl) hf
          · have hf := in_el hc12 hf
            refine lv_aload_n hx hb dX1_drawLots_71 rfl (lv_at hl 1 rfl) ?_
            refine lv_dup hx hb dX1_drawLots_72 rfl ?_
            refine va_get (D := D) (ci := 1) (v := .int (Fo_6 0 5)) (C := RX1) (T := TX1) (N := 9) hx hb hu inX1 hown hK.1 hP 0 rfl rfl 5 (by decide) (hu _ q105) (fun _ h9 => h9) rfl dX1_drawLots_73 ?_
            refine lv_iconst (v := 1) hx hb dX1_drawLots_76 (by decide) ?_
            refine lv_iload_n hx hb dX1_drawLots_77 rfl (lv_at hl 3 rfl) ?_
            refine lv_ishl hx hb dX1_drawLots_78 ?_
            refine lv_ior hx hb dX1_drawLots_79 ?_
            obtain ⟨Fo_14, hFo_14, hf⟩ := lt_el hf
            refine va_put (D := D) (ci := 1) (v := .int ((Fo_6 0 5) ||| ((1 : Int32) <<< (y2 &&& 31)))) (ty := .int) (C := RX1) (T := TX1) (N := 9) hx hb hu inX1 tyX1 tyX1_ok nmX1 hown hK.1 hP hD hS 0 rfl rfl 5 (by decide) (hu _ q105) (fun _ h9 => h9) rfl (by decide +kernel) rfl rfl (Nat.le_of_ble_eq_true rfl) dX1_drawLots_80 (fun H locs hP hD hS => ?_)
            have hP : va_P D vwCl (kX1 cs af  Fo_14) H := by rw [hFo_14]; exact hP
            have hD : va_D A (kX1 cs af  Fo_14) := by rw [hFo_14]; exact hD
            obtain ⟨v15, hv15, hf⟩ := lt_el hf
            refine lv_iinc (v := v15) (lv' := [(2, .int v15), (3, .int v7), (0, .ref (af 0)), (1, .int y1)]) hx hb dX1_drawLots_83 hl (k := 3) rfl (by rw [hv15]; rfl) (by decide) rfl (fun ls hl => ?_)
            refine lv_goto (tgt := 2) hx hb dX1_drawLots_86 (by decide) ?_
            exact hk2 y1 v15 Fo_14 _ _ _ hP hD hS (lv_sub hl [2, 3, 0] rfl) hf
  have h2 : ∀ (n : Nat), ∀ (y1 : Int32) (y2 : Int32) (Fo : ST) (H : Heap) (locs : List Loc) (ls : Array Slot), va_P D vwCl (kX1 cs af  Fo) H → va_D A (kX1 cs af  Fo) → va_S A s.heap H locs → lv_has ls 4 [(0, .ref (af 0)), (1, .int y1), (2, .int y2)] → fX1_drawLots_2 n y1 y2 Fo = some Foz → W p l e rmX1_drawLots s m [.ref (af 0), .int x1].toArray below meth c H locs 0 0 Q (F0 m 2 ls []) := by
    intro n
    induction n with
    | zero => intro y1 y2 Fo H locs ls hP hD hS hl hf; exact no_el hf
    | succ n ih => intro y1 y2 Fo H locs ls hP hD hS hl hf; exact hs2 _ ih y1 y2 Fo _ _ _ hP hD hS hl hf
  have hl : lv_has ls0 4 [(0, .ref (af 0)), (1, .int x1)] := hl0
  have hP := hP0
  have hD := hD0
  have hS := hS0
  unfold fX1_drawLots at hf
  refine lv_iconst (v := 0) hx hb dX1_drawLots_0 (by decide) ?_
  refine lv_istore_n (lv' := [(2, .int 0), (0, .ref (af 0)), (1, .int x1)]) hx hb dX1_drawLots_1 rfl hl (by decide) rfl (fun ls hl => ?_)
  exact h2 400 x1 0 Fo _ _ _ hP hD hS (lv_sub hl [1, 2, 0] rfl) hf

def fX1_takeFrom (Fo : ST) (Oo : ST) : Option ST :=
  dc_lt (sti Fo 0 0 (Oo 0 0)) (fun Fo_1 => dc_lt (sti Fo_1 0 5 (Oo 0 5)) (fun Fo_2 => dc_lt (sti Fo_2 0 8 (Oo 0 8)) (fun Fo_3 => dc_lt (va_up Fo_3 2 (va_cpy (Oo 2) (Fo_3 2) 0 0 10)) (fun Fo_4 => dc_lt (va_up Fo_4 3 (va_cpy (Oo 3) (Fo_4 3) 0 0 10)) (fun Fo_5 => dc_lt (va_up Fo_5 4 (va_cpy (Oo 4) (Fo_5 4) 0 0 10)) (fun Fo_6 => dc_lt (va_up Fo_6 5 (va_cpy (Oo 5) (Fo_6 5) 0 0 10)) (fun Fo_7 => dc_lt (va_up Fo_7 7 (va_cpy (Oo 7) (Fo_7 7) 0 0 100)) (fun Fo_8 => dc_lt (va_up Fo_8 8 (va_cpy (Oo 8) (Fo_8 8) 0 0 16)) (fun Fo_9 => some Fo_9)))))))))
abbrev rmX1_takeFrom : Room := { frames := 1, cells := 0, slots := 0, locals := 40 }
set_option maxRecDepth 100000 in
set_option maxHeartbeats 4000000 in
theorem tX1_takeFrom (l : Launch) (D : va_G) (cs : Nat → ClassId) (af : Nat → Nat) (af2 : Nat → Nat) (Fo : ST) (Oo : ST) (Foz : ST) (hf : fX1_takeFrom Fo Oo = some Foz) : CG l yX1_takeFrom (wsm yX1_takeFrom cX1_takeFrom 2 none) rmX1_takeFrom D cs [.ref (af 0), .ref (af2 0)] none ((kX1 cs af  Fo) ++ ((kX1 cs af2  Oo))) ((kX1 cs af  Foz) ++ ((kX1 cs af2  Oo))) := by
  refine CG.intro (by decide) (Nat.le_of_ble_eq_true rfl) ?_
  intro p e s m below meth c A Q hx hb hml hown hu hK hZ hP0 hD0 hS0 hA hri hrz hrl hrv hra ls0 hl0
  have hl : lv_has ls0 2 [(0, .ref (af 0)), (1, .ref (af2 0))] := hl0
  have hP := hP0
  have hD := hD0
  have hS := hS0
  unfold fX1_takeFrom at hf
  refine lv_aload_n hx hb dX1_takeFrom_0 rfl (lv_at hl 0 rfl) ?_
  refine lv_aload_n hx hb dX1_takeFrom_1 rfl (lv_at hl 1 rfl) ?_
  refine va_get (D := D) (ci := 1) (v := .int (Oo 0 0)) (C := RX1) (T := TX1) (N := 9) hx hb hu inX1 hown hK.1 hP 7 rfl rfl 0 (by decide) (hu _ q92) (fun _ h9 => h9) rfl dX1_takeFrom_2 ?_
  obtain ⟨Fo_1, hFo_1, hf⟩ := lt_el hf
  refine va_put (D := D) (ci := 1) (v := .int (Oo 0 0)) (ty := .int) (C := RX1) (T := TX1) (N := 9) hx hb hu inX1 tyX1 tyX1_ok nmX1 hown hK.1 hP hD hS 0 rfl rfl 0 (by decide) (hu _ q92) (fun _ h9 => h9) rfl (by decide +kernel) rfl rfl (Nat.le_of_ble_eq_true rfl) dX1_takeFrom_5 (fun H locs hP hD hS => ?_)
  have hP : va_P D vwCl ((kX1 cs af  Fo_1) ++ ((kX1 cs af2  Oo))) H := by rw [hFo_1]; exact hP
  have hD : va_D A ((kX1 cs af  Fo_1) ++ ((kX1 cs af2  Oo))) := by rw [hFo_1]; exact hD
  refine lv_aload_n hx hb dX1_takeFrom_8 rfl (lv_at hl 0 rfl) ?_
  refine lv_aload_n hx hb dX1_takeFrom_9 rfl (lv_at hl 1 rfl) ?_
  refine va_get (D := D) (ci := 1) (v := .int (Oo 0 5)) (C := RX1) (T := TX1) (N := 9) hx hb hu inX1 hown hK.1 hP 7 rfl rfl 5 (by decide) (hu _ q105) (fun _ h9 => h9) rfl dX1_takeFrom_10 ?_
  obtain ⟨Fo_2, hFo_2, hf⟩ := lt_el hf
  refine va_put (D := D) (ci := 1) (v := .int (Oo 0 5)) (ty := .int) (C := RX1) (T := TX1) (N := 9) hx hb hu inX1 tyX1 tyX1_ok nmX1 hown hK.1 hP hD hS 0 rfl rfl 5 (by decide) (hu _ q105) (fun _ h9 => h9) rfl (by decide +kernel) rfl rfl (Nat.le_of_ble_eq_true rfl) dX1_takeFrom_13 (fun H locs hP hD hS => ?_)
  have hP : va_P D vwCl ((kX1 cs af  Fo_2) ++ ((kX1 cs af2  Oo))) H := by rw [hFo_2]; exact hP
  have hD : va_D A ((kX1 cs af  Fo_2) ++ ((kX1 cs af2  Oo))) := by rw [hFo_2]; exact hD
  refine lv_aload_n hx hb dX1_takeFrom_16 rfl (lv_at hl 0 rfl) ?_
  refine lv_aload_n hx hb dX1_takeFrom_17 rfl (lv_at hl 1 rfl) ?_
  refine va_get (D := D) (ci := 1) (v := .int (Oo 0 8)) (C := RX1) (T := TX1) (N := 9) hx hb hu inX1 hown hK.1 hP 7 rfl rfl 8 (by decide) (hu _ q112) (fun _ h9 => h9) rfl dX1_takeFrom_18 ?_
  obtain ⟨Fo_3, hFo_3, hf⟩ := lt_el hf
  refine va_put (D := D) (ci := 1) (v := .int (Oo 0 8)) (ty := .int) (C := RX1) (T := TX1) (N := 9) hx hb hu inX1 tyX1 tyX1_ok nmX1 hown hK.1 hP hD hS 0 rfl rfl 8 (by decide) (hu _ q112) (fun _ h9 => h9) rfl (by decide +kernel) rfl rfl (Nat.le_of_ble_eq_true rfl) dX1_takeFrom_21 (fun H locs hP hD hS => ?_)
  have hP : va_P D vwCl ((kX1 cs af  Fo_3) ++ ((kX1 cs af2  Oo))) H := by rw [hFo_3]; exact hP
  have hD : va_D A ((kX1 cs af  Fo_3) ++ ((kX1 cs af2  Oo))) := by rw [hFo_3]; exact hD
  refine lv_aload_n hx hb dX1_takeFrom_24 rfl (lv_at hl 1 rfl) ?_
  refine va_get (D := D) (ci := 1) (v := .ref (af2 2)) (C := RX1) (T := TX1) (N := 9) hx hb hu inX1 hown hK.1 hP 7 rfl rfl 1 (by decide) (hu _ q95) (fun _ h9 => h9) rfl dX1_takeFrom_25 ?_
  refine lv_iconst (v := 0) hx hb dX1_takeFrom_28 (by decide) ?_
  refine lv_aload_n hx hb dX1_takeFrom_29 rfl (lv_at hl 0 rfl) ?_
  refine va_get (D := D) (ci := 1) (v := .ref (af 2)) (C := RX1) (T := TX1) (N := 9) hx hb hu inX1 hown hK.1 hP 0 rfl rfl 1 (by decide) (hu _ q95) (fun _ h9 => h9) rfl dX1_takeFrom_30 ?_
  refine lv_iconst (v := 0) hx hb dX1_takeFrom_33 (by decide) ?_
  refine lv_bipush (v := 10) hx hb dX1_takeFrom_34 (by decide) ?_
  obtain ⟨Fo_4, hFo_4, hf⟩ := lt_el hf
  refine cp_lit hx hb (hml.trans hl.1.symm) hown hu q663 q431 q430 q63 hK hP hD hS 8 1 10 rfl rfl (by decide) (by decide) (by decide) (Nat.le_of_ble_eq_true rfl) (Nat.le_of_ble_eq_true rfl) dX1_takeFrom_36 (fun H locs hP hD hS => ?_)
  have hP : va_P D vwCl ((kX1 cs af  Fo_4) ++ ((kX1 cs af2  Oo))) H := by rw [hFo_4]; exact hP
  have hD : va_D A ((kX1 cs af  Fo_4) ++ ((kX1 cs af2  Oo))) := by rw [hFo_4]; exact hD
  refine lv_aload_n hx hb dX1_takeFrom_39 rfl (lv_at hl 1 rfl) ?_
  refine va_get (D := D) (ci := 1) (v := .ref (af2 3)) (C := RX1) (T := TX1) (N := 9) hx hb hu inX1 hown hK.1 hP 7 rfl rfl 2 (by decide) (hu _ q98) (fun _ h9 => h9) rfl dX1_takeFrom_40 ?_
  refine lv_iconst (v := 0) hx hb dX1_takeFrom_43 (by decide) ?_
  refine lv_aload_n hx hb dX1_takeFrom_44 rfl (lv_at hl 0 rfl) ?_
  refine va_get (D := D) (ci := 1) (v := .ref (af 3)) (C := RX1) (T := TX1) (N := 9) hx hb hu inX1 hown hK.1 hP 0 rfl rfl 2 (by decide) (hu _ q98) (fun _ h9 => h9) rfl dX1_takeFrom_45 ?_
  refine lv_iconst (v := 0) hx hb dX1_takeFrom_48 (by decide) ?_
  refine lv_bipush (v := 10) hx hb dX1_takeFrom_49 (by decide) ?_
  obtain ⟨Fo_5, hFo_5, hf⟩ := lt_el hf
  refine cp_lit hx hb (hml.trans hl.1.symm) hown hu q663 q431 q430 q63 hK hP hD hS 9 2 10 rfl rfl (by decide) (by decide) (by decide) (Nat.le_of_ble_eq_true rfl) (Nat.le_of_ble_eq_true rfl) dX1_takeFrom_51 (fun H locs hP hD hS => ?_)
  have hP : va_P D vwCl ((kX1 cs af  Fo_5) ++ ((kX1 cs af2  Oo))) H := by rw [hFo_5]; exact hP
  have hD : va_D A ((kX1 cs af  Fo_5) ++ ((kX1 cs af2  Oo))) := by rw [hFo_5]; exact hD
  refine lv_aload_n hx hb dX1_takeFrom_54 rfl (lv_at hl 1 rfl) ?_
  refine va_get (D := D) (ci := 1) (v := .ref (af2 4)) (C := RX1) (T := TX1) (N := 9) hx hb hu inX1 hown hK.1 hP 7 rfl rfl 3 (by decide) (hu _ q100) (fun _ h9 => h9) rfl dX1_takeFrom_55 ?_
  refine lv_iconst (v := 0) hx hb dX1_takeFrom_58 (by decide) ?_
  refine lv_aload_n hx hb dX1_takeFrom_59 rfl (lv_at hl 0 rfl) ?_
  refine va_get (D := D) (ci := 1) (v := .ref (af 4)) (C := RX1) (T := TX1) (N := 9) hx hb hu inX1 hown hK.1 hP 0 rfl rfl 3 (by decide) (hu _ q100) (fun _ h9 => h9) rfl dX1_takeFrom_60 ?_
  refine lv_iconst (v := 0) hx hb dX1_takeFrom_63 (by decide) ?_
  refine lv_bipush (v := 10) hx hb dX1_takeFrom_64 (by decide) ?_
  obtain ⟨Fo_6, hFo_6, hf⟩ := lt_el hf
  refine cp_lit hx hb (hml.trans hl.1.symm) hown hu q663 q431 q430 q63 hK hP hD hS 10 3 10 rfl rfl (by decide) (by decide) (by decide) (Nat.le_of_ble_eq_true rfl) (Nat.le_of_ble_eq_true rfl) dX1_takeFrom_66 (fun H locs hP hD hS => ?_)
  have hP : va_P D vwCl ((kX1 cs af  Fo_6) ++ ((kX1 cs af2  Oo))) H := by rw [hFo_6]; exact hP
  have hD : va_D A ((kX1 cs af  Fo_6) ++ ((kX1 cs af2  Oo))) := by rw [hFo_6]; exact hD
  refine lv_aload_n hx hb dX1_takeFrom_69 rfl (lv_at hl 1 rfl) ?_
  refine va_get (D := D) (ci := 1) (v := .ref (af2 5)) (C := RX1) (T := TX1) (N := 9) hx hb hu inX1 hown hK.1 hP 7 rfl rfl 4 (by decide) (hu _ q103) (fun _ h9 => h9) rfl dX1_takeFrom_70 ?_
  refine lv_iconst (v := 0) hx hb dX1_takeFrom_73 (by decide) ?_
  refine lv_aload_n hx hb dX1_takeFrom_74 rfl (lv_at hl 0 rfl) ?_
  refine va_get (D := D) (ci := 1) (v := .ref (af 5)) (C := RX1) (T := TX1) (N := 9) hx hb hu inX1 hown hK.1 hP 0 rfl rfl 4 (by decide) (hu _ q103) (fun _ h9 => h9) rfl dX1_takeFrom_75 ?_
  refine lv_iconst (v := 0) hx hb dX1_takeFrom_78 (by decide) ?_
  refine lv_bipush (v := 10) hx hb dX1_takeFrom_79 (by decide) ?_
  obtain ⟨Fo_7, hFo_7, hf⟩ := lt_el hf
  refine cp_lit hx hb (hml.trans hl.1.symm) hown hu q663 q431 q430 q63 hK hP hD hS 11 4 10 rfl rfl (by decide) (by decide) (by decide) (Nat.le_of_ble_eq_true rfl) (Nat.le_of_ble_eq_true rfl) dX1_takeFrom_81 (fun H locs hP hD hS => ?_)
  have hP : va_P D vwCl ((kX1 cs af  Fo_7) ++ ((kX1 cs af2  Oo))) H := by rw [hFo_7]; exact hP
  have hD : va_D A ((kX1 cs af  Fo_7) ++ ((kX1 cs af2  Oo))) := by rw [hFo_7]; exact hD
  refine lv_aload_n hx hb dX1_takeFrom_84 rfl (lv_at hl 1 rfl) ?_
  refine va_get (D := D) (ci := 1) (v := .ref (af2 7)) (C := RX1) (T := TX1) (N := 9) hx hb hu inX1 hown hK.1 hP 7 rfl rfl 6 (by decide) (hu _ q106) (fun _ h9 => h9) rfl dX1_takeFrom_85 ?_
  refine lv_iconst (v := 0) hx hb dX1_takeFrom_88 (by decide) ?_
  refine lv_aload_n hx hb dX1_takeFrom_89 rfl (lv_at hl 0 rfl) ?_
  refine va_get (D := D) (ci := 1) (v := .ref (af 7)) (C := RX1) (T := TX1) (N := 9) hx hb hu inX1 hown hK.1 hP 0 rfl rfl 6 (by decide) (hu _ q106) (fun _ h9 => h9) rfl dX1_takeFrom_90 ?_
  refine lv_iconst (v := 0) hx hb dX1_takeFrom_93 (by decide) ?_
  refine lv_bipush (v := 100) hx hb dX1_takeFrom_94 (by decide) ?_
  obtain ⟨Fo_8, hFo_8, hf⟩ := lt_el hf
  refine cp_lit hx hb (hml.trans hl.1.symm) hown hu q663 q431 q430 q63 hK hP hD hS 12 5 100 rfl rfl (by decide) (by decide) (by decide) (Nat.le_of_ble_eq_true rfl) (Nat.le_of_ble_eq_true rfl) dX1_takeFrom_96 (fun H locs hP hD hS => ?_)
  have hP : va_P D vwCl ((kX1 cs af  Fo_8) ++ ((kX1 cs af2  Oo))) H := by rw [hFo_8]; exact hP
  have hD : va_D A ((kX1 cs af  Fo_8) ++ ((kX1 cs af2  Oo))) := by rw [hFo_8]; exact hD
  refine lv_aload_n hx hb dX1_takeFrom_99 rfl (lv_at hl 1 rfl) ?_
  refine va_get (D := D) (ci := 1) (v := .ref (af2 8)) (C := RX1) (T := TX1) (N := 9) hx hb hu inX1 hown hK.1 hP 7 rfl rfl 7 (by decide) (hu _ q109) (fun _ h9 => h9) rfl dX1_takeFrom_100 ?_
  refine lv_iconst (v := 0) hx hb dX1_takeFrom_103 (by decide) ?_
  refine lv_aload_n hx hb dX1_takeFrom_104 rfl (lv_at hl 0 rfl) ?_
  refine va_get (D := D) (ci := 1) (v := .ref (af 8)) (C := RX1) (T := TX1) (N := 9) hx hb hu inX1 hown hK.1 hP 0 rfl rfl 7 (by decide) (hu _ q109) (fun _ h9 => h9) rfl dX1_takeFrom_105 ?_
  refine lv_iconst (v := 0) hx hb dX1_takeFrom_108 (by decide) ?_
  refine lv_bipush (v := 16) hx hb dX1_takeFrom_109 (by decide) ?_
  obtain ⟨Fo_9, hFo_9, hf⟩ := lt_el hf
  refine cp_lit hx hb (hml.trans hl.1.symm) hown hu q663 q431 q430 q63 hK hP hD hS 13 6 16 rfl rfl (by decide) (by decide) (by decide) (Nat.le_of_ble_eq_true rfl) (Nat.le_of_ble_eq_true rfl) dX1_takeFrom_111 (fun H locs hP hD hS => ?_)
  have hP : va_P D vwCl ((kX1 cs af  Fo_9) ++ ((kX1 cs af2  Oo))) H := by rw [hFo_9]; exact hP
  have hD : va_D A ((kX1 cs af  Fo_9) ++ ((kX1 cs af2  Oo))) := by rw [hFo_9]; exact hD
  have he := Option.some.inj hf
  have e0 := he
  exact hrv _ _ rfl rfl dX1_takeFrom_114 _ _ _ (by rw [e0]) hP hD hS

def fX3_isThere (Sc : ST) : Option Int32 :=
  (if (Sc 0 2) ≤ 0 then some 0 else some 1)
abbrev rmX3_isThere : Room := { frames := 0, cells := 0, slots := 0, locals := 0 }
set_option maxRecDepth 100000 in
set_option maxHeartbeats 4000000 in
theorem tX3_isThere (l : Launch) (D : va_G) (cs : Nat → ClassId) (ac : Nat → Nat) (Sc : ST) (r0 : Int32) (hf : fX3_isThere Sc = some r0) : CG l yX3_isThere (wsm yX3_isThere cX3_isThere 1 (some .boolean)) rmX3_isThere D cs [.ref (ac 0)] (some (.int r0)) (kX3 cs ac  Sc) (kX3 cs ac  Sc) := by
  refine CG.intro (by decide) (Nat.le_of_ble_eq_true rfl) ?_
  intro p e s m below meth c A Q hx hb hml hown hu hK hZ hP0 hD0 hS0 hA hri hrz hrl hrv hra ls0 hl0
  have hl : lv_has ls0 1 [(0, .ref (ac 0))] := hl0
  have hP := hP0
  have hD := hD0
  have hS := hS0
  unfold fX3_isThere at hf
  refine lv_aload_n hx hb dX3_isThere_0 rfl (lv_at hl 0 rfl) ?_
  refine va_get (D := D) (ci := 3) (v := .int (Sc 0 2)) (C := RX3) (T := TX3) (N := 3) hx hb hu inX3 hown hK.1 hP 0 rfl rfl 2 (by decide) (hu _ q142) (fun _ h9 => h9) rfl dX3_isThere_1 ?_
  refine lv_if_le (tgt := 11) hx hb dX3_isThere_4 (by decide) (fun hc1 => ?_) (fun hc1 => ?_)
  · have hf := ip_el hc1 hf
    refine lv_iconst (v := 0) hx hb dX3_isThere_11 (by decide) ?_
    have he := Option.some.inj hf
    have e0 := he
    exact hrz _ _ _ .boolean rfl rfl (congrArg (fun z => some (Value.int z)) e0.symm) dX3_isThere_12 _ _ _ rfl hP hD hS
  · have hf := in_el hc1 hf
    refine lv_iconst (v := 1) hx hb dX3_isThere_7 (by decide) ?_
    refine lv_goto (tgt := 12) hx hb dX3_isThere_8 (by decide) ?_
    have he := Option.some.inj hf
    have e0 := he
    exact hrz _ _ _ .boolean rfl rfl (congrArg (fun z => some (Value.int z)) e0.symm) dX3_isThere_12 _ _ _ rfl hP hD hS

def fX3_putNumber (x1 : Int32) (Sc : ST) : Option ST :=
  (if 80 ≤ (Sc 0 2) then some Sc else dc_ck (Sc 0 2) 80 (dc_lt (sti Sc 1 (Int32.toNatClampNeg (Sc 0 2)) x1) (fun Sc_3 => dc_lt (sti Sc_3 0 2 ((Sc_3 0 2) + 1)) (fun Sc_4 => some Sc_4))))
abbrev rmX3_putNumber : Room := { frames := 0, cells := 0, slots := 0, locals := 0 }
set_option maxRecDepth 100000 in
set_option maxHeartbeats 4000000 in
theorem tX3_putNumber (l : Launch) (D : va_G) (cs : Nat → ClassId) (ac : Nat → Nat) (x1 : Int32) (Sc : ST) (Scz : ST) (hf : fX3_putNumber x1 Sc = some Scz) : CG l yX3_putNumber (wsm yX3_putNumber cX3_putNumber 2 none) rmX3_putNumber D cs [.ref (ac 0), .int x1] none (kX3 cs ac  Sc) (kX3 cs ac  Scz) := by
  refine CG.intro (by decide) (Nat.le_of_ble_eq_true rfl) ?_
  intro p e s m below meth c A Q hx hb hml hown hu hK hZ hP0 hD0 hS0 hA hri hrz hrl hrv hra ls0 hl0
  have hl : lv_has ls0 2 [(0, .ref (ac 0)), (1, .int x1)] := hl0
  have hP := hP0
  have hD := hD0
  have hS := hS0
  unfold fX3_putNumber at hf
  refine lv_aload_n hx hb dX3_putNumber_0 rfl (lv_at hl 0 rfl) ?_
  refine va_get (D := D) (ci := 3) (v := .int (Sc 0 2)) (C := RX3) (T := TX3) (N := 3) hx hb hu inX3 hown hK.1 hP 0 rfl rfl 2 (by decide) (hu _ q142) (fun _ h9 => h9) rfl dX3_putNumber_1 ?_
  refine lv_bipush (v := 80) hx hb dX3_putNumber_4 (by decide) ?_
  refine lv_icmp_ge (tgt := 29) hx hb dX3_putNumber_6 (by decide) (fun hc1 => ?_) (fun hc1 => ?_)
  · have hf := ip_el hc1 hf
    have he := Option.some.inj hf
    have e0 := he
    exact hrv _ _ rfl rfl dX3_putNumber_29 _ _ _ (by rw [e0]) hP hD hS
  · have hf := in_el hc1 hf
    refine lv_aload_n hx hb dX3_putNumber_9 rfl (lv_at hl 0 rfl) ?_
    refine va_get (D := D) (ci := 3) (v := .ref (ac 1)) (C := RX3) (T := TX3) (N := 3) hx hb hu inX3 hown hK.1 hP 0 rfl rfl 0 (by decide) (hu _ q140) (fun _ h9 => h9) rfl dX3_putNumber_10 ?_
    refine lv_aload_n hx hb dX3_putNumber_13 rfl (lv_at hl 0 rfl) ?_
    refine va_get (D := D) (ci := 3) (v := .int (Sc 0 2)) (C := RX3) (T := TX3) (N := 3) hx hb hu inX3 hown hK.1 hP 0 rfl rfl 2 (by decide) (hu _ q142) (fun _ h9 => h9) rfl dX3_putNumber_14 ?_
    refine lv_iload_n hx hb dX3_putNumber_17 rfl (lv_at hl 1 rfl) ?_
    obtain ⟨hi2, hf⟩ := ck_el hf
    obtain ⟨Sc_3, hSc_3, hf⟩ := lt_el hf
    refine va_iast hx hb hK.1 hP hD hS 1 0 rfl rfl hi2 dX3_putNumber_18 (fun H locs hP hD hS => ?_)
    have hP : va_P D vwCl (kX3 cs ac  Sc_3) H := by rw [hSc_3]; exact hP
    have hD : va_D A (kX3 cs ac  Sc_3) := by rw [hSc_3]; exact hD
    refine lv_aload_n hx hb dX3_putNumber_19 rfl (lv_at hl 0 rfl) ?_
    refine lv_dup hx hb dX3_putNumber_20 rfl ?_
    refine va_get (D := D) (ci := 3) (v := .int (Sc_3 0 2)) (C := RX3) (T := TX3) (N := 3) hx hb hu inX3 hown hK.1 hP 0 rfl rfl 2 (by decide) (hu _ q142) (fun _ h9 => h9) rfl dX3_putNumber_21 ?_
    refine lv_iconst (v := 1) hx hb dX3_putNumber_24 (by decide) ?_
    refine lv_iadd hx hb dX3_putNumber_25 ?_
    obtain ⟨Sc_4, hSc_4, hf⟩ := lt_el hf
    refine va_put (D := D) (ci := 3) (v := .int ((Sc_3 0 2) + 1)) (ty := .int) (C := RX3) (T := TX3) (N := 3) hx hb hu inX3 tyX3 tyX3_ok nmX3 hown hK.1 hP hD hS 0 rfl rfl 2 (by decide) (hu _ q142) (fun _ h9 => h9) rfl (by decide +kernel) rfl rfl (Nat.le_of_ble_eq_true rfl) dX3_putNumber_26 (fun H locs hP hD hS => ?_)
    have hP : va_P D vwCl (kX3 cs ac  Sc_4) H := by rw [hSc_4]; exact hP
    have hD : va_D A (kX3 cs ac  Sc_4) := by rw [hSc_4]; exact hD
    have he := Option.some.inj hf
    have e0 := he
    exact hrv _ _ rfl rfl dX3_putNumber_29 _ _ _ (by rw [e0]) hP hD hS

def fX3_putSign (x1 : Int32) (Sc : ST) : Option ST :=
  dc_b1 (fX3_putNumber ((-1) - x1) Sc) (fun Sc_1 => some Sc_1)
abbrev rmX3_putSign : Room := { frames := 1, cells := 0, slots := 0, locals := 21 }
set_option maxRecDepth 100000 in
set_option maxHeartbeats 4000000 in
theorem tX3_putSign (l : Launch) (D : va_G) (cs : Nat → ClassId) (ac : Nat → Nat) (x1 : Int32) (Sc : ST) (Scz : ST) (hf : fX3_putSign x1 Sc = some Scz) : CG l yX3_putSign (wsm yX3_putSign cX3_putSign 2 none) rmX3_putSign D cs [.ref (ac 0), .int x1] none (kX3 cs ac  Sc) (kX3 cs ac  Scz) := by
  refine CG.intro (by decide) (Nat.le_of_ble_eq_true rfl) ?_
  intro p e s m below meth c A Q hx hb hml hown hu hK hZ hP0 hD0 hS0 hA hri hrz hrl hrv hra ls0 hl0
  have hl : lv_has ls0 2 [(0, .ref (ac 0)), (1, .int x1)] := hl0
  have hP := hP0
  have hD := hD0
  have hS := hS0
  unfold fX3_putSign at hf
  refine lv_aload_n hx hb dX3_putSign_0 rfl (lv_at hl 0 rfl) ?_
  refine lv_iconst (v := (-1)) hx hb dX3_putSign_1 (by decide) ?_
  refine lv_iload_n hx hb dX3_putSign_2 rfl (lv_at hl 1 rfl) ?_
  refine lv_isub hx hb dX3_putSign_3 ?_
  obtain ⟨Sc_1, hg2, hf⟩ := b1_el hf
  refine cc_V1 (w' := (kX3 cs ac  Sc_1)) (st1 := []) [.int ((-1) - x1)] hx hb hml hown hu (tX3_putNumber l D cs ac ((-1) - x1) Sc Sc_1 hg2) q725 q57 q817 q723 q724 pdX3_putNumber ⟨rfl, rfl, Nat.le_of_ble_eq_true rfl, Nat.le_of_ble_eq_true rfl⟩ hK hZ hP hD hS hA rfl rfl rfl rfl hl.1 rfl (Nat.le_of_ble_eq_true rfl) dX3_putSign_4 rfl (fun H locs hP hD hS => ?_)
  have he := Option.some.inj hf
  have e0 := he
  exact hrv _ _ rfl rfl dX3_putSign_7 _ _ _ (by rw [e0]) hP hD hS

def fX3_takeFrom (Sc : ST) (Oo : ST) : Option ST :=
  dc_lt (sti Sc 0 2 (Oo 0 2)) (fun Sc_1 => dc_lt (va_up Sc_1 1 (va_cpy (Oo 1) (Sc_1 1) 0 0 80)) (fun Sc_2 => some Sc_2))
abbrev rmX3_takeFrom : Room := { frames := 1, cells := 0, slots := 0, locals := 40 }
set_option maxRecDepth 100000 in
set_option maxHeartbeats 4000000 in
theorem tX3_takeFrom (l : Launch) (D : va_G) (cs : Nat → ClassId) (ac : Nat → Nat) (ac2 : Nat → Nat) (Sc : ST) (Oo : ST) (Scz : ST) (hf : fX3_takeFrom Sc Oo = some Scz) : CG l yX3_takeFrom (wsm yX3_takeFrom cX3_takeFrom 2 none) rmX3_takeFrom D cs [.ref (ac 0), .ref (ac2 0)] none ((kX3 cs ac  Sc) ++ ((kX3 cs ac2  Oo))) ((kX3 cs ac  Scz) ++ ((kX3 cs ac2  Oo))) := by
  refine CG.intro (by decide) (Nat.le_of_ble_eq_true rfl) ?_
  intro p e s m below meth c A Q hx hb hml hown hu hK hZ hP0 hD0 hS0 hA hri hrz hrl hrv hra ls0 hl0
  have hl : lv_has ls0 2 [(0, .ref (ac 0)), (1, .ref (ac2 0))] := hl0
  have hP := hP0
  have hD := hD0
  have hS := hS0
  unfold fX3_takeFrom at hf
  refine lv_aload_n hx hb dX3_takeFrom_0 rfl (lv_at hl 0 rfl) ?_
  refine lv_aload_n hx hb dX3_takeFrom_1 rfl (lv_at hl 1 rfl) ?_
  refine va_get (D := D) (ci := 3) (v := .int (Oo 0 2)) (C := RX3) (T := TX3) (N := 3) hx hb hu inX3 hown hK.1 hP 3 rfl rfl 2 (by decide) (hu _ q142) (fun _ h9 => h9) rfl dX3_takeFrom_2 ?_
  obtain ⟨Sc_1, hSc_1, hf⟩ := lt_el hf
  refine va_put (D := D) (ci := 3) (v := .int (Oo 0 2)) (ty := .int) (C := RX3) (T := TX3) (N := 3) hx hb hu inX3 tyX3 tyX3_ok nmX3 hown hK.1 hP hD hS 0 rfl rfl 2 (by decide) (hu _ q142) (fun _ h9 => h9) rfl (by decide +kernel) rfl rfl (Nat.le_of_ble_eq_true rfl) dX3_takeFrom_5 (fun H locs hP hD hS => ?_)
  have hP : va_P D vwCl ((kX3 cs ac  Sc_1) ++ ((kX3 cs ac2  Oo))) H := by rw [hSc_1]; exact hP
  have hD : va_D A ((kX3 cs ac  Sc_1) ++ ((kX3 cs ac2  Oo))) := by rw [hSc_1]; exact hD
  refine lv_aload_n hx hb dX3_takeFrom_8 rfl (lv_at hl 1 rfl) ?_
  refine va_get (D := D) (ci := 3) (v := .ref (ac2 1)) (C := RX3) (T := TX3) (N := 3) hx hb hu inX3 hown hK.1 hP 3 rfl rfl 0 (by decide) (hu _ q140) (fun _ h9 => h9) rfl dX3_takeFrom_9 ?_
  refine lv_iconst (v := 0) hx hb dX3_takeFrom_12 (by decide) ?_
  refine lv_aload_n hx hb dX3_takeFrom_13 rfl (lv_at hl 0 rfl) ?_
  refine va_get (D := D) (ci := 3) (v := .ref (ac 1)) (C := RX3) (T := TX3) (N := 3) hx hb hu inX3 hown hK.1 hP 0 rfl rfl 0 (by decide) (hu _ q140) (fun _ h9 => h9) rfl dX3_takeFrom_14 ?_
  refine lv_iconst (v := 0) hx hb dX3_takeFrom_17 (by decide) ?_
  refine lv_bipush (v := 80) hx hb dX3_takeFrom_18 (by decide) ?_
  obtain ⟨Sc_2, hSc_2, hf⟩ := lt_el hf
  refine cp_lit hx hb (hml.trans hl.1.symm) hown hu q668 q431 q430 q63 hK hP hD hS 4 1 80 rfl rfl (by decide) (by decide) (by decide) (Nat.le_of_ble_eq_true rfl) (Nat.le_of_ble_eq_true rfl) dX3_takeFrom_20 (fun H locs hP hD hS => ?_)
  have hP : va_P D vwCl ((kX3 cs ac  Sc_2) ++ ((kX3 cs ac2  Oo))) H := by rw [hSc_2]; exact hP
  have hD : va_D A ((kX3 cs ac  Sc_2) ++ ((kX3 cs ac2  Oo))) := by rw [hSc_2]; exact hD
  have he := Option.some.inj hf
  have e0 := he
  exact hrv _ _ rfl rfl dX3_takeFrom_23 _ _ _ (by rw [e0]) hP hD hS

def fX4_keepWord (x1 : Int32) (x2 : Int32) (Se : ST) : Option ST :=
  dc_lt (sti Se 0 8 x1) (fun Se_1 => dc_lt (sti Se_1 0 9 x2) (fun Se_2 => some Se_2))
abbrev rmX4_keepWord : Room := { frames := 0, cells := 0, slots := 0, locals := 0 }
set_option maxRecDepth 100000 in
set_option maxHeartbeats 4000000 in
theorem tX4_keepWord (l : Launch) (D : va_G) (cs : Nat → ClassId) (ase : Nat → Nat) (p0 : Value) (p1 : Value) (p2 : Value) (x1 : Int32) (x2 : Int32) (Se : ST) (Sez : ST) (hf : fX4_keepWord x1 x2 Se = some Sez) : CG l yX4_keepWord (wsm yX4_keepWord cX4_keepWord 3 none) rmX4_keepWord D cs [.ref (ase 0), .int x1, .int x2] none (kX4 cs ase p0 p1 p2 Se) (kX4 cs ase p0 p1 p2 Sez) := by
  refine CG.intro (by decide) (Nat.le_of_ble_eq_true rfl) ?_
  intro p e s m below meth c A Q hx hb hml hown hu hK hZ hP0 hD0 hS0 hA hri hrz hrl hrv hra ls0 hl0
  have hl : lv_has ls0 3 [(0, .ref (ase 0)), (1, .int x1), (2, .int x2)] := hl0
  have hP := hP0
  have hD := hD0
  have hS := hS0
  unfold fX4_keepWord at hf
  refine lv_aload_n hx hb dX4_keepWord_0 rfl (lv_at hl 0 rfl) ?_
  refine lv_iload_n hx hb dX4_keepWord_1 rfl (lv_at hl 1 rfl) ?_
  obtain ⟨Se_1, hSe_1, hf⟩ := lt_el hf
  refine va_put (D := D) (ci := 4) (v := .int x1) (ty := .int) (C := RX4) (T := TX4) (N := 10) hx hb hu inX4 tyX4 tyX4_ok nmX4 hown hK.1 hP hD hS 0 rfl rfl 8 (by decide) (hu _ q171) (fun _ h9 => h9) rfl (by decide +kernel) rfl rfl (Nat.le_of_ble_eq_true rfl) dX4_keepWord_2 (fun H locs hP hD hS => ?_)
  have hP : va_P D vwCl (kX4 cs ase p0 p1 p2 Se_1) H := by rw [hSe_1]; exact hP
  have hD : va_D A (kX4 cs ase p0 p1 p2 Se_1) := by rw [hSe_1]; exact hD
  refine lv_aload_n hx hb dX4_keepWord_5 rfl (lv_at hl 0 rfl) ?_
  refine lv_iload_n hx hb dX4_keepWord_6 rfl (lv_at hl 2 rfl) ?_
  obtain ⟨Se_2, hSe_2, hf⟩ := lt_el hf
  refine va_put (D := D) (ci := 4) (v := .int x2) (ty := .int) (C := RX4) (T := TX4) (N := 10) hx hb hu inX4 tyX4 tyX4_ok nmX4 hown hK.1 hP hD hS 0 rfl rfl 9 (by decide) (hu _ q172) (fun _ h9 => h9) rfl (by decide +kernel) rfl rfl (Nat.le_of_ble_eq_true rfl) dX4_keepWord_7 (fun H locs hP hD hS => ?_)
  have hP : va_P D vwCl (kX4 cs ase p0 p1 p2 Se_2) H := by rw [hSe_2]; exact hP
  have hD : va_D A (kX4 cs ase p0 p1 p2 Se_2) := by rw [hSe_2]; exact hD
  have he := Option.some.inj hf
  have e0 := he
  exact hrv _ _ rfl rfl dX4_keepWord_10 _ _ _ (by rw [e0]) hP hD hS

def fX4_placeOf_2_s (Se : ST) (k2 : Int32 → Int32 → Option Int32) (y1 : Int32) (y2 : Int32) : Option Int32 :=
  (if (Se 4 0) ≤ y2 then some (-1) else dc_ck y2 4 ((if (Se 5 (Int32.toNatClampNeg y2)) = y1 then some y2 else dc_lt (y2 + 1) (fun v4 => k2 y1 v4))))
def fX4_placeOf_2 (Se : ST) : Nat → Int32 → Int32 → Option Int32
  | 0 => fun _ _ => none
  | n + 1 => fX4_placeOf_2_s Se (fX4_placeOf_2 Se n)
def fX4_placeOf (x1 : Int32) (Se : ST) : Option Int32 :=
  fX4_placeOf_2 Se 400 x1 0
abbrev rmX4_placeOf : Room := { frames := 0, cells := 0, slots := 0, locals := 0 }
set_option maxRecDepth 100000 in
set_option maxHeartbeats 4000000 in
theorem tX4_placeOf (l : Launch) (D : va_G) (cs : Nat → ClassId) (ase : Nat → Nat) (p0 : Value) (p1 : Value) (p2 : Value) (x1 : Int32) (Se : ST) (r0 : Int32) (hf : fX4_placeOf x1 Se = some r0) : CG l yX4_placeOf (wsm yX4_placeOf cX4_placeOf 3 (some .int)) rmX4_placeOf D cs [.ref (ase 0), .int x1] (some (.int r0)) (kX4 cs ase p0 p1 p2 Se) (kX4 cs ase p0 p1 p2 Se) := by
  refine CG.intro (by decide) (Nat.le_of_ble_eq_true rfl) ?_
  intro p e s m below meth c A Q hx hb hml hown hu hK hZ hP0 hD0 hS0 hA hri hrz hrl hrv hra ls0 hl0
  have hs2 : ∀ (k2 : Int32 → Int32 → Option Int32), (∀ (y1 : Int32) (y2 : Int32) (H : Heap) (locs : List Loc) (ls : Array Slot), va_P D vwCl (kX4 cs ase p0 p1 p2 Se) H → va_D A (kX4 cs ase p0 p1 p2 Se) → va_S A s.heap H locs → lv_has ls 3 [(0, .ref (ase 0)), (1, .int y1), (2, .int y2)] → k2 y1 y2 = some r0 → W p l e rmX4_placeOf s m [.ref (ase 0), .int x1].toArray below meth c H locs 0 0 Q (F0 m 2 ls [])) → ∀ (y1 : Int32) (y2 : Int32) (H : Heap) (locs : List Loc) (ls : Array Slot), va_P D vwCl (kX4 cs ase p0 p1 p2 Se) H → va_D A (kX4 cs ase p0 p1 p2 Se) → va_S A s.heap H locs → lv_has ls 3 [(0, .ref (ase 0)), (1, .int y1), (2, .int y2)] → fX4_placeOf_2_s Se k2 y1 y2 = some r0 → W p l e rmX4_placeOf s m [.ref (ase 0), .int x1].toArray below meth c H locs 0 0 Q (F0 m 2 ls []) := by
    intro k2 hk2 y1 y2 H locs ls hP hD hS hl hf
    unfold fX4_placeOf_2_s at hf
    refine lv_iload_n hx hb dX4_placeOf_2 rfl (lv_at hl 2 rfl) ?_
    refine lv_aload_n hx hb dX4_placeOf_3 rfl (lv_at hl 0 rfl) ?_
    refine va_get (D := D) (ci := 4) (v := .ref (ase 4)) (C := RX4) (T := TX4) (N := 10) hx hb hu inX4 hown hK.1 hP 0 rfl rfl 3 (by decide) (hu _ q161) (fun _ h9 => h9) rfl dX4_placeOf_4 ?_
    refine lv_iconst (v := 0) hx hb dX4_placeOf_7 (by decide) ?_
    refine ia_lit hx hb hK hP 1 0 rfl (by decide) dX4_placeOf_8 ?_
    refine lv_icmp_ge (tgt := 30) hx hb dX4_placeOf_9 (by decide) (fun hc1 => ?_) (fun hc1 => ?_)
    · have hf := ip_el hc1 hf
      refine lv_iconst (v := (-1)) hx hb dX4_placeOf_30 (by decide) ?_
      have he := Option.some.inj hf
      have e0 := he
      exact hri _ _ _ rfl (congrArg (fun z => some (Value.int z)) e0.symm) dX4_placeOf_31 _ _ _ rfl hP hD hS
    · have hf := in_el hc1 hf
      refine lv_aload_n hx hb dX4_placeOf_12 rfl (lv_at hl 0 rfl) ?_
      refine va_get (D := D) (ci := 4) (v := .ref (ase 5)) (C := RX4) (T := TX4) (N := 10) hx hb hu inX4 hown hK.1 hP 0 rfl rfl 4 (by decide) (hu _ q163) (fun _ h9 => h9) rfl dX4_placeOf_13 ?_
      refine lv_iload_n hx hb dX4_placeOf_16 rfl (lv_at hl 2 rfl) ?_
      obtain ⟨hi2, hf⟩ := ck_el hf
      refine va_iald hx hb hK.1 hP 2 0 rfl rfl hi2 dX4_placeOf_17 ?_
      refine lv_iload_n hx hb dX4_placeOf_18 rfl (lv_at hl 1 rfl) ?_
      refine lv_icmp_ne (tgt := 24) hx hb dX4_placeOf_19 (by decide) (fun hc3 => ?_) (fun hc3 => ?_)
      · have hf := in_el hc3 hf
        obtain ⟨v4, hv4, hf⟩ := lt_el hf
        refine lv_iinc (v := v4) (lv' := [(2, .int v4), (0, .ref (ase 0)), (1, .int y1)]) hx hb dX4_placeOf_24 hl (k := 2) rfl (by rw [hv4]; rfl) (by decide) rfl (fun ls hl => ?_)
        refine lv_goto (tgt := 2) hx hb dX4_placeOf_27 (by decide) ?_
        exact hk2 y1 v4 _ _ _ hP hD hS (lv_sub hl [1, 2, 0] rfl) hf
      · have hf := ip_el hc3 hf
        refine lv_iload_n hx hb dX4_placeOf_22 rfl (lv_at hl 2 rfl) ?_
        have he := Option.some.inj hf
        have e0 := he
        exact hri _ _ _ rfl (congrArg (fun z => some (Value.int z)) e0.symm) dX4_placeOf_23 _ _ _ rfl hP hD hS
  have h2 : ∀ (n : Nat), ∀ (y1 : Int32) (y2 : Int32) (H : Heap) (locs : List Loc) (ls : Array Slot), va_P D vwCl (kX4 cs ase p0 p1 p2 Se) H → va_D A (kX4 cs ase p0 p1 p2 Se) → va_S A s.heap H locs → lv_has ls 3 [(0, .ref (ase 0)), (1, .int y1), (2, .int y2)] → fX4_placeOf_2 Se n y1 y2 = some r0 → W p l e rmX4_placeOf s m [.ref (ase 0), .int x1].toArray below meth c H locs 0 0 Q (F0 m 2 ls []) := by
    intro n
    induction n with
    | zero => intro y1 y2 H locs ls hP hD hS hl hf; exact no_el hf
    | succ n ih => intro y1 y2 H locs ls hP hD hS hl hf; exact hs2 _ ih y1 y2 _ _ _ hP hD hS hl hf
  have hl : lv_has ls0 3 [(0, .ref (ase 0)), (1, .int x1)] := hl0
  have hP := hP0
  have hD := hD0
  have hS := hS0
  unfold fX4_placeOf at hf
  refine lv_iconst (v := 0) hx hb dX4_placeOf_0 (by decide) ?_
  refine lv_istore_n (lv' := [(2, .int 0), (0, .ref (ase 0)), (1, .int x1)]) hx hb dX4_placeOf_1 rfl hl (by decide) rfl (fun ls hl => ?_)
  exact h2 400 x1 0 _ _ _ hP hD hS (lv_sub hl [1, 2, 0] rfl) hf

def fX4_named_4_s (Se : ST) (k4 : Int32 → Int32 → Option Int32) (y1 : Int32) (y2 : Int32) : Option Int32 :=
  (if (Se 4 0) ≤ y2 then some y1 else dc_ck y2 4 ((if (Se 5 (Int32.toNatClampNeg y2)) = (-1) then dc_lt (y2 + 1) (fun v4 => k4 y1 v4) else dc_ck y2 4 (dc_lt (y1 ||| ((1 : Int32) <<< ((Se 5 (Int32.toNatClampNeg y2)) &&& 31))) (fun v6 => dc_lt (y2 + 1) (fun v7 => k4 v6 v7))))))
def fX4_named_4 (Se : ST) : Nat → Int32 → Int32 → Option Int32
  | 0 => fun _ _ => none
  | n + 1 => fX4_named_4_s Se (fX4_named_4 Se n)
def fX4_named (Se : ST) : Option Int32 :=
  fX4_named_4 Se 400 0 0
abbrev rmX4_named : Room := { frames := 0, cells := 0, slots := 0, locals := 0 }
set_option maxRecDepth 100000 in
set_option maxHeartbeats 4000000 in
theorem tX4_named (l : Launch) (D : va_G) (cs : Nat → ClassId) (ase : Nat → Nat) (p0 : Value) (p1 : Value) (p2 : Value) (Se : ST) (r0 : Int32) (hf : fX4_named Se = some r0) : CG l yX4_named (wsm yX4_named cX4_named 3 (some .int)) rmX4_named D cs [.ref (ase 0)] (some (.int r0)) (kX4 cs ase p0 p1 p2 Se) (kX4 cs ase p0 p1 p2 Se) := by
  refine CG.intro (by decide) (Nat.le_of_ble_eq_true rfl) ?_
  intro p e s m below meth c A Q hx hb hml hown hu hK hZ hP0 hD0 hS0 hA hri hrz hrl hrv hra ls0 hl0
  have hs4 : ∀ (k4 : Int32 → Int32 → Option Int32), (∀ (y1 : Int32) (y2 : Int32) (H : Heap) (locs : List Loc) (ls : Array Slot), va_P D vwCl (kX4 cs ase p0 p1 p2 Se) H → va_D A (kX4 cs ase p0 p1 p2 Se) → va_S A s.heap H locs → lv_has ls 3 [(0, .ref (ase 0)), (1, .int y1), (2, .int y2)] → k4 y1 y2 = some r0 → W p l e rmX4_named s m [.ref (ase 0)].toArray below meth c H locs 0 0 Q (F0 m 4 ls [])) → ∀ (y1 : Int32) (y2 : Int32) (H : Heap) (locs : List Loc) (ls : Array Slot), va_P D vwCl (kX4 cs ase p0 p1 p2 Se) H → va_D A (kX4 cs ase p0 p1 p2 Se) → va_S A s.heap H locs → lv_has ls 3 [(0, .ref (ase 0)), (1, .int y1), (2, .int y2)] → fX4_named_4_s Se k4 y1 y2 = some r0 → W p l e rmX4_named s m [.ref (ase 0)].toArray below meth c H locs 0 0 Q (F0 m 4 ls []) := by
    intro k4 hk4 y1 y2 H locs ls hP hD hS hl hf
    unfold fX4_named_4_s at hf
    refine lv_iload_n hx hb dX4_named_4 rfl (lv_at hl 2 rfl) ?_
    refine lv_aload_n hx hb dX4_named_5 rfl (lv_at hl 0 rfl) ?_
    refine va_get (D := D) (ci := 4) (v := .ref (ase 4)) (C := RX4) (T := TX4) (N := 10) hx hb hu inX4 hown hK.1 hP 0 rfl rfl 3 (by decide) (hu _ q161) (fun _ h9 => h9) rfl dX4_named_6 ?_
    refine lv_iconst (v := 0) hx hb dX4_named_9 (by decide) ?_
    refine ia_lit hx hb hK hP 1 0 rfl (by decide) dX4_named_10 ?_
    refine lv_icmp_ge (tgt := 41) hx hb dX4_named_11 (by decide) (fun hc1 => ?_) (fun hc1 => ?_)
    · have hf := ip_el hc1 hf
      refine lv_iload_n hx hb dX4_named_41 rfl (lv_at hl 1 rfl) ?_
      have he := Option.some.inj hf
      have e0 := he
      exact hri _ _ _ rfl (congrArg (fun z => some (Value.int z)) e0.symm) dX4_named_42 _ _ _ rfl hP hD hS
    · have hf := in_el hc1 hf
      refine lv_aload_n hx hb dX4_named_14 rfl (lv_at hl 0 rfl) ?_
      refine va_get (D := D) (ci := 4) (v := .ref (ase 5)) (C := RX4) (T := TX4) (N := 10) hx hb hu inX4 hown hK.1 hP 0 rfl rfl 4 (by decide) (hu _ q163) (fun _ h9 => h9) rfl dX4_named_15 ?_
      refine lv_iload_n hx hb dX4_named_18 rfl (lv_at hl 2 rfl) ?_
      obtain ⟨hi2, hf⟩ := ck_el hf
      refine va_iald hx hb hK.1 hP 2 0 rfl rfl hi2 dX4_named_19 ?_
      refine lv_iconst (v := (-1)) hx hb dX4_named_20 (by decide) ?_
      refine lv_icmp_eq (tgt := 35) hx hb dX4_named_21 (by decide) (fun hc3 => ?_) (fun hc3 => ?_)
      · have hf := ip_el hc3 hf
        obtain ⟨v4, hv4, hf⟩ := lt_el hf
        refine lv_iinc (v := v4) (lv' := [(2, .int v4), (0, .ref (ase 0)), (1, .int y1)]) hx hb dX4_named_35 hl (k := 2) rfl (by rw [hv4]; rfl) (by decide) rfl (fun ls hl => ?_)
        refine lv_goto (tgt := 4) hx hb dX4_named_38 (by decide) ?_
        exact hk4 y1 v4 _ _ _ hP hD hS (lv_sub hl [1, 2, 0] rfl) hf
      · have hf := in_el hc3 hf
        refine lv_iload_n hx hb dX4_named_24 rfl (lv_at hl 1 rfl) ?_
        refine lv_iconst (v := 1) hx hb dX4_named_25 (by decide) ?_
        refine lv_aload_n hx hb dX4_named_26 rfl (lv_at hl 0 rfl) ?_
        refine va_get (D := D) (ci := 4) (v := .ref (ase 5)) (C := RX4) (T := TX4) (N := 10) hx hb hu inX4 hown hK.1 hP 0 rfl rfl 4 (by decide) (hu _ q163) (fun _ h9 => h9) rfl dX4_named_27 ?_
        refine lv_iload_n hx hb dX4_named_30 rfl (lv_at hl 2 rfl) ?_
        obtain ⟨hi5, hf⟩ := ck_el hf
        refine va_iald hx hb hK.1 hP 2 0 rfl rfl hi5 dX4_named_31 ?_
        refine lv_ishl hx hb dX4_named_32 ?_
        refine lv_ior hx hb dX4_named_33 ?_
        obtain ⟨v6, hv6, hf⟩ := lt_el hf
        refine lv_tope hv6 ?_
        refine lv_istore_n (lv' := [(1, .int v6), (0, .ref (ase 0)), (2, .int y2)]) hx hb dX4_named_34 rfl hl (by decide) rfl (fun ls hl => ?_)
        obtain ⟨v7, hv7, hf⟩ := lt_el hf
        refine lv_iinc (v := v7) (lv' := [(2, .int v7), (1, .int v6), (0, .ref (ase 0))]) hx hb dX4_named_35 hl (k := 2) rfl (by rw [hv7]; rfl) (by decide) rfl (fun ls hl => ?_)
        refine lv_goto (tgt := 4) hx hb dX4_named_38 (by decide) ?_
        exact hk4 v6 v7 _ _ _ hP hD hS (lv_sub hl [2, 1, 0] rfl) hf
  have h4 : ∀ (n : Nat), ∀ (y1 : Int32) (y2 : Int32) (H : Heap) (locs : List Loc) (ls : Array Slot), va_P D vwCl (kX4 cs ase p0 p1 p2 Se) H → va_D A (kX4 cs ase p0 p1 p2 Se) → va_S A s.heap H locs → lv_has ls 3 [(0, .ref (ase 0)), (1, .int y1), (2, .int y2)] → fX4_named_4 Se n y1 y2 = some r0 → W p l e rmX4_named s m [.ref (ase 0)].toArray below meth c H locs 0 0 Q (F0 m 4 ls []) := by
    intro n
    induction n with
    | zero => intro y1 y2 H locs ls hP hD hS hl hf; exact no_el hf
    | succ n ih => intro y1 y2 H locs ls hP hD hS hl hf; exact hs4 _ ih y1 y2 _ _ _ hP hD hS hl hf
  have hl : lv_has ls0 3 [(0, .ref (ase 0))] := hl0
  have hP := hP0
  have hD := hD0
  have hS := hS0
  unfold fX4_named at hf
  refine lv_iconst (v := 0) hx hb dX4_named_0 (by decide) ?_
  refine lv_istore_n (lv' := [(1, .int 0), (0, .ref (ase 0))]) hx hb dX4_named_1 rfl hl (by decide) rfl (fun ls hl => ?_)
  refine lv_iconst (v := 0) hx hb dX4_named_2 (by decide) ?_
  refine lv_istore_n (lv' := [(2, .int 0), (1, .int 0), (0, .ref (ase 0))]) hx hb dX4_named_3 rfl hl (by decide) rfl (fun ls hl => ?_)
  exact h4 400 0 0 _ _ _ hP hD hS (lv_sub hl [2, 1, 0] rfl) hf

def fX4_firstNamed_2_s (Se : ST) (k2 : Int32 → Option Int32) (y1 : Int32) : Option Int32 :=
  (if (Se 4 0) ≤ y1 then some (-1) else dc_ck y1 4 ((if (Se 5 (Int32.toNatClampNeg y1)) = (-1) then dc_lt (y1 + 1) (fun v4 => k2 v4) else dc_ck y1 4 (some (Se 5 (Int32.toNatClampNeg y1))))))
def fX4_firstNamed_2 (Se : ST) : Nat → Int32 → Option Int32
  | 0 => fun _ => none
  | n + 1 => fX4_firstNamed_2_s Se (fX4_firstNamed_2 Se n)
def fX4_firstNamed (Se : ST) : Option Int32 :=
  fX4_firstNamed_2 Se 400 0
abbrev rmX4_firstNamed : Room := { frames := 0, cells := 0, slots := 0, locals := 0 }
set_option maxRecDepth 100000 in
set_option maxHeartbeats 4000000 in
theorem tX4_firstNamed (l : Launch) (D : va_G) (cs : Nat → ClassId) (ase : Nat → Nat) (p0 : Value) (p1 : Value) (p2 : Value) (Se : ST) (r0 : Int32) (hf : fX4_firstNamed Se = some r0) : CG l yX4_firstNamed (wsm yX4_firstNamed cX4_firstNamed 2 (some .int)) rmX4_firstNamed D cs [.ref (ase 0)] (some (.int r0)) (kX4 cs ase p0 p1 p2 Se) (kX4 cs ase p0 p1 p2 Se) := by
  refine CG.intro (by decide) (Nat.le_of_ble_eq_true rfl) ?_
  intro p e s m below meth c A Q hx hb hml hown hu hK hZ hP0 hD0 hS0 hA hri hrz hrl hrv hra ls0 hl0
  have hs2 : ∀ (k2 : Int32 → Option Int32), (∀ (y1 : Int32) (H : Heap) (locs : List Loc) (ls : Array Slot), va_P D vwCl (kX4 cs ase p0 p1 p2 Se) H → va_D A (kX4 cs ase p0 p1 p2 Se) → va_S A s.heap H locs → lv_has ls 2 [(0, .ref (ase 0)), (1, .int y1)] → k2 y1 = some r0 → W p l e rmX4_firstNamed s m [.ref (ase 0)].toArray below meth c H locs 0 0 Q (F0 m 2 ls [])) → ∀ (y1 : Int32) (H : Heap) (locs : List Loc) (ls : Array Slot), va_P D vwCl (kX4 cs ase p0 p1 p2 Se) H → va_D A (kX4 cs ase p0 p1 p2 Se) → va_S A s.heap H locs → lv_has ls 2 [(0, .ref (ase 0)), (1, .int y1)] → fX4_firstNamed_2_s Se k2 y1 = some r0 → W p l e rmX4_firstNamed s m [.ref (ase 0)].toArray below meth c H locs 0 0 Q (F0 m 2 ls []) := by
    intro k2 hk2 y1 H locs ls hP hD hS hl hf
    unfold fX4_firstNamed_2_s at hf
    refine lv_iload_n hx hb dX4_firstNamed_2 rfl (lv_at hl 1 rfl) ?_
    refine lv_aload_n hx hb dX4_firstNamed_3 rfl (lv_at hl 0 rfl) ?_
    refine va_get (D := D) (ci := 4) (v := .ref (ase 4)) (C := RX4) (T := TX4) (N := 10) hx hb hu inX4 hown hK.1 hP 0 rfl rfl 3 (by decide) (hu _ q161) (fun _ h9 => h9) rfl dX4_firstNamed_4 ?_
    refine lv_iconst (v := 0) hx hb dX4_firstNamed_7 (by decide) ?_
    refine ia_lit hx hb hK hP 1 0 rfl (by decide) dX4_firstNamed_8 ?_
    refine lv_icmp_ge (tgt := 35) hx hb dX4_firstNamed_9 (by decide) (fun hc1 => ?_) (fun hc1 => ?_)
    · have hf := ip_el hc1 hf
      refine lv_iconst (v := (-1)) hx hb dX4_firstNamed_35 (by decide) ?_
      have he := Option.some.inj hf
      have e0 := he
      exact hri _ _ _ rfl (congrArg (fun z => some (Value.int z)) e0.symm) dX4_firstNamed_36 _ _ _ rfl hP hD hS
    · have hf := in_el hc1 hf
      refine lv_aload_n hx hb dX4_firstNamed_12 rfl (lv_at hl 0 rfl) ?_
      refine va_get (D := D) (ci := 4) (v := .ref (ase 5)) (C := RX4) (T := TX4) (N := 10) hx hb hu inX4 hown hK.1 hP 0 rfl rfl 4 (by decide) (hu _ q163) (fun _ h9 => h9) rfl dX4_firstNamed_13 ?_
      refine lv_iload_n hx hb dX4_firstNamed_16 rfl (lv_at hl 1 rfl) ?_
      obtain ⟨hi2, hf⟩ := ck_el hf
      refine va_iald hx hb hK.1 hP 2 0 rfl rfl hi2 dX4_firstNamed_17 ?_
      refine lv_iconst (v := (-1)) hx hb dX4_firstNamed_18 (by decide) ?_
      refine lv_icmp_eq (tgt := 29) hx hb dX4_firstNamed_19 (by decide) (fun hc3 => ?_) (fun hc3 => ?_)
      · have hf := ip_el hc3 hf
        obtain ⟨v4, hv4, hf⟩ := lt_el hf
        refine lv_iinc (v := v4) (lv' := [(1, .int v4), (0, .ref (ase 0))]) hx hb dX4_firstNamed_29 hl (k := 1) rfl (by rw [hv4]; rfl) (by decide) rfl (fun ls hl => ?_)
        refine lv_goto (tgt := 2) hx hb dX4_firstNamed_32 (by decide) ?_
        exact hk2 v4 _ _ _ hP hD hS (lv_sub hl [1, 0] rfl) hf
      · have hf := in_el hc3 hf
        refine lv_aload_n hx hb dX4_firstNamed_22 rfl (lv_at hl 0 rfl) ?_
        refine va_get (D := D) (ci := 4) (v := .ref (ase 5)) (C := RX4) (T := TX4) (N := 10) hx hb hu inX4 hown hK.1 hP 0 rfl rfl 4 (by decide) (hu _ q163) (fun _ h9 => h9) rfl dX4_firstNamed_23 ?_
        refine lv_iload_n hx hb dX4_firstNamed_26 rfl (lv_at hl 1 rfl) ?_
        obtain ⟨hi5, hf⟩ := ck_el hf
        refine va_iald hx hb hK.1 hP 2 0 rfl rfl hi5 dX4_firstNamed_27 ?_
        have he := Option.some.inj hf
        have e0 := he
        exact hri _ _ _ rfl (congrArg (fun z => some (Value.int z)) e0.symm) dX4_firstNamed_28 _ _ _ rfl hP hD hS
  have h2 : ∀ (n : Nat), ∀ (y1 : Int32) (H : Heap) (locs : List Loc) (ls : Array Slot), va_P D vwCl (kX4 cs ase p0 p1 p2 Se) H → va_D A (kX4 cs ase p0 p1 p2 Se) → va_S A s.heap H locs → lv_has ls 2 [(0, .ref (ase 0)), (1, .int y1)] → fX4_firstNamed_2 Se n y1 = some r0 → W p l e rmX4_firstNamed s m [.ref (ase 0)].toArray below meth c H locs 0 0 Q (F0 m 2 ls []) := by
    intro n
    induction n with
    | zero => intro y1 H locs ls hP hD hS hl hf; exact no_el hf
    | succ n ih => intro y1 H locs ls hP hD hS hl hf; exact hs2 _ ih y1 _ _ _ hP hD hS hl hf
  have hl : lv_has ls0 2 [(0, .ref (ase 0))] := hl0
  have hP := hP0
  have hD := hD0
  have hS := hS0
  unfold fX4_firstNamed at hf
  refine lv_iconst (v := 0) hx hb dX4_firstNamed_0 (by decide) ?_
  refine lv_istore_n (lv' := [(1, .int 0), (0, .ref (ase 0))]) hx hb dX4_firstNamed_1 rfl hl (by decide) rfl (fun ls hl => ?_)
  exact h2 400 0 _ _ _ hP hD hS (lv_sub hl [1, 0] rfl) hf

def fX4_code_9_s (Se : ST) (k9 : Int32 → Int32 → Option Int32) (y1 : Int32) (y2 : Int32) : Option Int32 :=
  (if 4 ≤ y2 then some y1 else dc_ck y2 4 (dc_lt (((y1 * 11) + (Se 5 (Int32.toNatClampNeg y2))) + 1) (fun v4 => dc_lt (y2 + 1) (fun v5 => k9 v4 v5))))
def fX4_code_9 (Se : ST) : Nat → Int32 → Int32 → Option Int32
  | 0 => fun _ _ => none
  | n + 1 => fX4_code_9_s Se (fX4_code_9 Se n)
def fX4_code (Se : ST) : Option Int32 :=
  dc_lt ((Se 0 6) + 1) (fun v1 => fX4_code_9 Se 400 v1 0)
abbrev rmX4_code : Room := { frames := 0, cells := 0, slots := 0, locals := 0 }
set_option maxRecDepth 100000 in
set_option maxHeartbeats 4000000 in
theorem tX4_code (l : Launch) (D : va_G) (cs : Nat → ClassId) (ase : Nat → Nat) (p0 : Value) (p1 : Value) (p2 : Value) (Se : ST) (r0 : Int32) (hf : fX4_code Se = some r0) : CG l yX4_code (wsm yX4_code cX4_code 3 (some .int)) rmX4_code D cs [.ref (ase 0)] (some (.int r0)) (kX4 cs ase p0 p1 p2 Se) (kX4 cs ase p0 p1 p2 Se) := by
  refine CG.intro (by decide) (Nat.le_of_ble_eq_true rfl) ?_
  intro p e s m below meth c A Q hx hb hml hown hu hK hZ hP0 hD0 hS0 hA hri hrz hrl hrv hra ls0 hl0
  have hs9 : ∀ (k9 : Int32 → Int32 → Option Int32), (∀ (y1 : Int32) (y2 : Int32) (H : Heap) (locs : List Loc) (ls : Array Slot), va_P D vwCl (kX4 cs ase p0 p1 p2 Se) H → va_D A (kX4 cs ase p0 p1 p2 Se) → va_S A s.heap H locs → lv_has ls 3 [(0, .ref (ase 0)), (1, .int y1), (2, .int y2)] → k9 y1 y2 = some r0 → W p l e rmX4_code s m [.ref (ase 0)].toArray below meth c H locs 0 0 Q (F0 m 9 ls [])) → ∀ (y1 : Int32) (y2 : Int32) (H : Heap) (locs : List Loc) (ls : Array Slot), va_P D vwCl (kX4 cs ase p0 p1 p2 Se) H → va_D A (kX4 cs ase p0 p1 p2 Se) → va_S A s.heap H locs → lv_has ls 3 [(0, .ref (ase 0)), (1, .int y1), (2, .int y2)] → fX4_code_9_s Se k9 y1 y2 = some r0 → W p l e rmX4_code s m [.ref (ase 0)].toArray below meth c H locs 0 0 Q (F0 m 9 ls []) := by
    intro k9 hk9 y1 y2 H locs ls hP hD hS hl hf
    unfold fX4_code_9_s at hf
    refine lv_iload_n hx hb dX4_code_9 rfl (lv_at hl 2 rfl) ?_
    refine lv_iconst (v := 4) hx hb dX4_code_10 (by decide) ?_
    refine lv_icmp_ge (tgt := 34) hx hb dX4_code_11 (by decide) (fun hc2 => ?_) (fun hc2 => ?_)
    · have hf := ip_el hc2 hf
      refine lv_iload_n hx hb dX4_code_34 rfl (lv_at hl 1 rfl) ?_
      have he := Option.some.inj hf
      have e0 := he
      exact hri _ _ _ rfl (congrArg (fun z => some (Value.int z)) e0.symm) dX4_code_35 _ _ _ rfl hP hD hS
    · have hf := in_el hc2 hf
      refine lv_iload_n hx hb dX4_code_14 rfl (lv_at hl 1 rfl) ?_
      refine lv_bipush (v := 11) hx hb dX4_code_15 (by decide) ?_
      refine lv_imul hx hb dX4_code_17 ?_
      refine lv_aload_n hx hb dX4_code_18 rfl (lv_at hl 0 rfl) ?_
      refine va_get (D := D) (ci := 4) (v := .ref (ase 5)) (C := RX4) (T := TX4) (N := 10) hx hb hu inX4 hown hK.1 hP 0 rfl rfl 4 (by decide) (hu _ q163) (fun _ h9 => h9) rfl dX4_code_19 ?_
      refine lv_iload_n hx hb dX4_code_22 rfl (lv_at hl 2 rfl) ?_
      obtain ⟨hi3, hf⟩ := ck_el hf
      refine va_iald hx hb hK.1 hP 2 0 rfl rfl hi3 dX4_code_23 ?_
      refine lv_iadd hx hb dX4_code_24 ?_
      refine lv_iconst (v := 1) hx hb dX4_code_25 (by decide) ?_
      refine lv_iadd hx hb dX4_code_26 ?_
      obtain ⟨v4, hv4, hf⟩ := lt_el hf
      refine lv_tope hv4 ?_
      refine lv_istore_n (lv' := [(1, .int v4), (0, .ref (ase 0)), (2, .int y2)]) hx hb dX4_code_27 rfl hl (by decide) rfl (fun ls hl => ?_)
      obtain ⟨v5, hv5, hf⟩ := lt_el hf
      refine lv_iinc (v := v5) (lv' := [(2, .int v5), (1, .int v4), (0, .ref (ase 0))]) hx hb dX4_code_28 hl (k := 2) rfl (by rw [hv5]; rfl) (by decide) rfl (fun ls hl => ?_)
      refine lv_goto (tgt := 9) hx hb dX4_code_31 (by decide) ?_
      exact hk9 v4 v5 _ _ _ hP hD hS (lv_sub hl [2, 1, 0] rfl) hf
  have h9 : ∀ (n : Nat), ∀ (y1 : Int32) (y2 : Int32) (H : Heap) (locs : List Loc) (ls : Array Slot), va_P D vwCl (kX4 cs ase p0 p1 p2 Se) H → va_D A (kX4 cs ase p0 p1 p2 Se) → va_S A s.heap H locs → lv_has ls 3 [(0, .ref (ase 0)), (1, .int y1), (2, .int y2)] → fX4_code_9 Se n y1 y2 = some r0 → W p l e rmX4_code s m [.ref (ase 0)].toArray below meth c H locs 0 0 Q (F0 m 9 ls []) := by
    intro n
    induction n with
    | zero => intro y1 y2 H locs ls hP hD hS hl hf; exact no_el hf
    | succ n ih => intro y1 y2 H locs ls hP hD hS hl hf; exact hs9 _ ih y1 y2 _ _ _ hP hD hS hl hf
  have hl : lv_has ls0 3 [(0, .ref (ase 0))] := hl0
  have hP := hP0
  have hD := hD0
  have hS := hS0
  unfold fX4_code at hf
  refine lv_aload_n hx hb dX4_code_0 rfl (lv_at hl 0 rfl) ?_
  refine va_get (D := D) (ci := 4) (v := .int (Se 0 6)) (C := RX4) (T := TX4) (N := 10) hx hb hu inX4 hown hK.1 hP 0 rfl rfl 6 (by decide) (hu _ q167) (fun _ h9 => h9) rfl dX4_code_1 ?_
  refine lv_iconst (v := 1) hx hb dX4_code_4 (by decide) ?_
  refine lv_iadd hx hb dX4_code_5 ?_
  obtain ⟨v1, hv1, hf⟩ := lt_el hf
  refine lv_tope hv1 ?_
  refine lv_istore_n (lv' := [(1, .int v1), (0, .ref (ase 0))]) hx hb dX4_code_6 rfl hl (by decide) rfl (fun ls hl => ?_)
  refine lv_iconst (v := 0) hx hb dX4_code_7 (by decide) ?_
  refine lv_istore_n (lv' := [(2, .int 0), (1, .int v1), (0, .ref (ase 0))]) hx hb dX4_code_8 rfl hl (by decide) rfl (fun ls hl => ?_)
  exact h9 400 v1 0 _ _ _ hP hD hS (lv_sub hl [2, 1, 0] rfl) hf

def fX4_giveRule (x1 : Int32) (x2 : Int32) (Se : ST) : Option ST :=
  dc_ck x1 6 (dc_lt (sti Se 4 (Int32.toNatClampNeg x1) x2) (fun Se_2 => (if x1 = 0 then dc_b1 (fJ7_fill_fda19 x2 4 (-1) (Se_2 5)) (fun fn5 => dc_lt (va_up Se_2 5 fn5) (fun Se_4 => some Se_4)) else some Se_2)))
abbrev rmX4_giveRule : Room := { frames := 2, cells := 0, slots := 0, locals := 46 }
set_option maxRecDepth 100000 in
set_option maxHeartbeats 4000000 in
theorem tX4_giveRule (l : Launch) (D : va_G) (cs : Nat → ClassId) (ase : Nat → Nat) (p0 : Value) (p1 : Value) (p2 : Value) (x1 : Int32) (x2 : Int32) (Se : ST) (Sez : ST) (hf : fX4_giveRule x1 x2 Se = some Sez) : CG l yX4_giveRule (wsm yX4_giveRule cX4_giveRule 3 none) rmX4_giveRule D cs [.ref (ase 0), .int x1, .int x2] none (kX4 cs ase p0 p1 p2 Se) (kX4 cs ase p0 p1 p2 Sez) := by
  refine CG.intro (by decide) (Nat.le_of_ble_eq_true rfl) ?_
  intro p e s m below meth c A Q hx hb hml hown hu hK hZ hP0 hD0 hS0 hA hri hrz hrl hrv hra ls0 hl0
  have hl : lv_has ls0 3 [(0, .ref (ase 0)), (1, .int x1), (2, .int x2)] := hl0
  have hP := hP0
  have hD := hD0
  have hS := hS0
  unfold fX4_giveRule at hf
  refine lv_aload_n hx hb dX4_giveRule_0 rfl (lv_at hl 0 rfl) ?_
  refine va_get (D := D) (ci := 4) (v := .ref (ase 4)) (C := RX4) (T := TX4) (N := 10) hx hb hu inX4 hown hK.1 hP 0 rfl rfl 3 (by decide) (hu _ q161) (fun _ h9 => h9) rfl dX4_giveRule_1 ?_
  refine lv_iload_n hx hb dX4_giveRule_4 rfl (lv_at hl 1 rfl) ?_
  refine lv_iload_n hx hb dX4_giveRule_5 rfl (lv_at hl 2 rfl) ?_
  obtain ⟨hi1, hf⟩ := ck_el hf
  obtain ⟨Se_2, hSe_2, hf⟩ := lt_el hf
  refine va_iast hx hb hK.1 hP hD hS 1 0 rfl rfl hi1 dX4_giveRule_6 (fun H locs hP hD hS => ?_)
  have hP : va_P D vwCl (kX4 cs ase p0 p1 p2 Se_2) H := by rw [hSe_2]; exact hP
  have hD : va_D A (kX4 cs ase p0 p1 p2 Se_2) := by rw [hSe_2]; exact hD
  refine lv_iload_n hx hb dX4_giveRule_7 rfl (lv_at hl 1 rfl) ?_
  refine lv_if_ne (tgt := 21) hx hb dX4_giveRule_8 (by decide) (fun hc3 => ?_) (fun hc3 => ?_)
  · have hf := in_el hc3 hf
    have he := Option.some.inj hf
    have e0 := he
    exact hrv _ _ rfl rfl dX4_giveRule_21 _ _ _ (by rw [e0]) hP hD hS
  · have hf := ip_el hc3 hf
    refine lv_aload_n hx hb dX4_giveRule_11 rfl (lv_at hl 0 rfl) ?_
    refine va_get (D := D) (ci := 4) (v := .ref (ase 5)) (C := RX4) (T := TX4) (N := 10) hx hb hu inX4 hown hK.1 hP 0 rfl rfl 4 (by decide) (hu _ q163) (fun _ h9 => h9) rfl dX4_giveRule_12 ?_
    refine lv_iload_n hx hb dX4_giveRule_15 rfl (lv_at hl 2 rfl) ?_
    refine lv_iconst (v := 4) hx hb dX4_giveRule_16 (by decide) ?_
    refine lv_iconst (v := (-1)) hx hb dX4_giveRule_17 (by decide) ?_
    obtain ⟨fn5, hg6, hf⟩ := b1_el hf
    obtain ⟨Se_4, hSe_4, hf⟩ := lt_el hf
    refine cc_S (w' := (kX4 cs ase p0 p1 p2 Se_4)) (wr := (kX4 cs ase p0 p1 p2 Se_2).eraseIdx 2) (st1 := []) [.ref (ase 5), .int x2, .int 4, .int (-1)] hx hb hml hown hu (tJ7_fill_fda19 l D cs (fun _ => ase 5) x2 4 (-1) (Se_2 5) fn5 hg6) q492 q64 q490 q491 pdJ7_fill_fda19 ⟨rfl, rfl, Nat.le_of_ble_eq_true rfl, Nat.le_of_ble_eq_true rfl⟩ hK hZ hP hD hS hA [2] [0, 1, 3] [0, 1, 3, 2] rfl rfl rfl rfl (by rw [hSe_4]; rfl) rfl rfl rfl hl.1 rfl (Nat.le_of_ble_eq_true rfl) dX4_giveRule_18 rfl (fun H locs hP hD hS => ?_)
    have he := Option.some.inj hf
    have e0 := he
    exact hrv _ _ rfl rfl dX4_giveRule_21 _ _ _ (by rw [e0]) hP hD hS

def fX4_moveUp_18_s (k18 : Int32 → Int32 → Int32 → ST → Option (Int32 × ST)) (y1 : Int32) (y2 : Int32) (y3 : Int32) (Se : ST) : Option (Int32 × ST) :=
  (if y2 ≤ y3 then dc_ck y2 4 (dc_lt (sti Se 5 (Int32.toNatClampNeg y2) (-1)) (fun Se_5 => some (y1, Se_5))) else dc_ck (y3 + 1) 4 (dc_ck y3 4 (dc_lt (sti Se 5 (Int32.toNatClampNeg y3) (Se 5 (Int32.toNatClampNeg (y3 + 1)))) (fun Se_8 => dc_lt (y3 + 1) (fun v9 => k18 y1 y2 v9 Se_8)))))
def fX4_moveUp_18 : Nat → Int32 → Int32 → Int32 → ST → Option (Int32 × ST)
  | 0 => fun _ _ _ _ => none
  | n + 1 => fX4_moveUp_18_s (fX4_moveUp_18 n)
def fX4_moveUp (Se : ST) : Option (Int32 × ST) :=
  dc_lt (Se 5 0) (fun v1 => dc_lt ((Se 4 0) - 1) (fun v2 => fX4_moveUp_18 400 v1 v2 0 Se))
abbrev rmX4_moveUp : Room := { frames := 0, cells := 0, slots := 0, locals := 0 }
set_option maxRecDepth 100000 in
set_option maxHeartbeats 4000000 in
theorem tX4_moveUp (l : Launch) (D : va_G) (cs : Nat → ClassId) (ase : Nat → Nat) (p0 : Value) (p1 : Value) (p2 : Value) (Se : ST) (r0 : Int32) (Sez : ST) (hf : fX4_moveUp Se = some (r0, Sez)) : CG l yX4_moveUp (wsm yX4_moveUp cX4_moveUp 4 (some .int)) rmX4_moveUp D cs [.ref (ase 0)] (some (.int r0)) (kX4 cs ase p0 p1 p2 Se) (kX4 cs ase p0 p1 p2 Sez) := by
  refine CG.intro (by decide) (Nat.le_of_ble_eq_true rfl) ?_
  intro p e s m below meth c A Q hx hb hml hown hu hK hZ hP0 hD0 hS0 hA hri hrz hrl hrv hra ls0 hl0
  have hs18 : ∀ (k18 : Int32 → Int32 → Int32 → ST → Option (Int32 × ST)), (∀ (y1 : Int32) (y2 : Int32) (y3 : Int32) (Se : ST) (H : Heap) (locs : List Loc) (ls : Array Slot), va_P D vwCl (kX4 cs ase p0 p1 p2 Se) H → va_D A (kX4 cs ase p0 p1 p2 Se) → va_S A s.heap H locs → lv_has ls 4 [(0, .ref (ase 0)), (1, .int y1), (2, .int y2), (3, .int y3)] → k18 y1 y2 y3 Se = some (r0, Sez) → W p l e rmX4_moveUp s m [.ref (ase 0)].toArray below meth c H locs 0 0 Q (F0 m 18 ls [])) → ∀ (y1 : Int32) (y2 : Int32) (y3 : Int32) (Se : ST) (H : Heap) (locs : List Loc) (ls : Array Slot), va_P D vwCl (kX4 cs ase p0 p1 p2 Se) H → va_D A (kX4 cs ase p0 p1 p2 Se) → va_S A s.heap H locs → lv_has ls 4 [(0, .ref (ase 0)), (1, .int y1), (2, .int y2), (3, .int y3)] → fX4_moveUp_18_s k18 y1 y2 y3 Se = some (r0, Sez) → W p l e rmX4_moveUp s m [.ref (ase 0)].toArray below meth c H locs 0 0 Q (F0 m 18 ls []) := by
    intro k18 hk18 y1 y2 y3 Se H locs ls hP hD hS hl hf
    unfold fX4_moveUp_18_s at hf
    refine lv_iload_n hx hb dX4_moveUp_18 rfl (lv_at hl 3 rfl) ?_
    refine lv_iload_n hx hb dX4_moveUp_19 rfl (lv_at hl 2 rfl) ?_
    refine lv_icmp_ge (tgt := 43) hx hb dX4_moveUp_20 (by decide) (fun hc3 => ?_) (fun hc3 => ?_)
    · have hf := ip_el hc3 hf
      refine lv_aload_n hx hb dX4_moveUp_43 rfl (lv_at hl 0 rfl) ?_
      refine va_get (D := D) (ci := 4) (v := .ref (ase 5)) (C := RX4) (T := TX4) (N := 10) hx hb hu inX4 hown hK.1 hP 0 rfl rfl 4 (by decide) (hu _ q163) (fun _ h9 => h9) rfl dX4_moveUp_44 ?_
      refine lv_iload_n hx hb dX4_moveUp_47 rfl (lv_at hl 2 rfl) ?_
      refine lv_iconst (v := (-1)) hx hb dX4_moveUp_48 (by decide) ?_
      obtain ⟨hi4, hf⟩ := ck_el hf
      obtain ⟨Se_5, hSe_5, hf⟩ := lt_el hf
      refine va_iast hx hb hK.1 hP hD hS 2 0 rfl rfl hi4 dX4_moveUp_49 (fun H locs hP hD hS => ?_)
      have hP : va_P D vwCl (kX4 cs ase p0 p1 p2 Se_5) H := by rw [hSe_5]; exact hP
      have hD : va_D A (kX4 cs ase p0 p1 p2 Se_5) := by rw [hSe_5]; exact hD
      refine lv_iload_n hx hb dX4_moveUp_50 rfl (lv_at hl 1 rfl) ?_
      have he := Option.some.inj hf
      obtain ⟨e0, e1⟩ := Prod.mk.inj he
      exact hri _ _ _ rfl (congrArg (fun z => some (Value.int z)) e0.symm) dX4_moveUp_51 _ _ _ (by rw [e1]) hP hD hS
    · have hf := in_el hc3 hf
      refine lv_aload_n hx hb dX4_moveUp_23 rfl (lv_at hl 0 rfl) ?_
      refine va_get (D := D) (ci := 4) (v := .ref (ase 5)) (C := RX4) (T := TX4) (N := 10) hx hb hu inX4 hown hK.1 hP 0 rfl rfl 4 (by decide) (hu _ q163) (fun _ h9 => h9) rfl dX4_moveUp_24 ?_
      refine lv_iload_n hx hb dX4_moveUp_27 rfl (lv_at hl 3 rfl) ?_
      refine lv_aload_n hx hb dX4_moveUp_28 rfl (lv_at hl 0 rfl) ?_
      refine va_get (D := D) (ci := 4) (v := .ref (ase 5)) (C := RX4) (T := TX4) (N := 10) hx hb hu inX4 hown hK.1 hP 0 rfl rfl 4 (by decide) (hu _ q163) (fun _ h9 => h9) rfl dX4_moveUp_29 ?_
      refine lv_iload_n hx hb dX4_moveUp_32 rfl (lv_at hl 3 rfl) ?_
      refine lv_iconst (v := 1) hx hb dX4_moveUp_33 (by decide) ?_
      refine lv_iadd hx hb dX4_moveUp_34 ?_
      obtain ⟨hi6, hf⟩ := ck_el hf
      refine va_iald hx hb hK.1 hP 2 0 rfl rfl hi6 dX4_moveUp_35 ?_
      obtain ⟨hi7, hf⟩ := ck_el hf
      obtain ⟨Se_8, hSe_8, hf⟩ := lt_el hf
      refine va_iast hx hb hK.1 hP hD hS 2 0 rfl rfl hi7 dX4_moveUp_36 (fun H locs hP hD hS => ?_)
      have hP : va_P D vwCl (kX4 cs ase p0 p1 p2 Se_8) H := by rw [hSe_8]; exact hP
      have hD : va_D A (kX4 cs ase p0 p1 p2 Se_8) := by rw [hSe_8]; exact hD
      obtain ⟨v9, hv9, hf⟩ := lt_el hf
      refine lv_iinc (v := v9) (lv' := [(3, .int v9), (0, .ref (ase 0)), (1, .int y1), (2, .int y2)]) hx hb dX4_moveUp_37 hl (k := 3) rfl (by rw [hv9]; rfl) (by decide) rfl (fun ls hl => ?_)
      refine lv_goto (tgt := 18) hx hb dX4_moveUp_40 (by decide) ?_
      exact hk18 y1 y2 v9 Se_8 _ _ _ hP hD hS (lv_sub hl [1, 2, 3, 0] rfl) hf
  have h18 : ∀ (n : Nat), ∀ (y1 : Int32) (y2 : Int32) (y3 : Int32) (Se : ST) (H : Heap) (locs : List Loc) (ls : Array Slot), va_P D vwCl (kX4 cs ase p0 p1 p2 Se) H → va_D A (kX4 cs ase p0 p1 p2 Se) → va_S A s.heap H locs → lv_has ls 4 [(0, .ref (ase 0)), (1, .int y1), (2, .int y2), (3, .int y3)] → fX4_moveUp_18 n y1 y2 y3 Se = some (r0, Sez) → W p l e rmX4_moveUp s m [.ref (ase 0)].toArray below meth c H locs 0 0 Q (F0 m 18 ls []) := by
    intro n
    induction n with
    | zero => intro y1 y2 y3 Se H locs ls hP hD hS hl hf; exact no_el hf
    | succ n ih => intro y1 y2 y3 Se H locs ls hP hD hS hl hf; exact hs18 _ ih y1 y2 y3 Se _ _ _ hP hD hS hl hf
  have hl : lv_has ls0 4 [(0, .ref (ase 0))] := hl0
  have hP := hP0
  have hD := hD0
  have hS := hS0
  unfold fX4_moveUp at hf
  refine lv_aload_n hx hb dX4_moveUp_0 rfl (lv_at hl 0 rfl) ?_
  refine va_get (D := D) (ci := 4) (v := .ref (ase 5)) (C := RX4) (T := TX4) (N := 10) hx hb hu inX4 hown hK.1 hP 0 rfl rfl 4 (by decide) (hu _ q163) (fun _ h9 => h9) rfl dX4_moveUp_1 ?_
  refine lv_iconst (v := 0) hx hb dX4_moveUp_4 (by decide) ?_
  refine ia_lit hx hb hK hP 2 0 rfl (by decide) dX4_moveUp_5 ?_
  obtain ⟨v1, hv1, hf⟩ := lt_el hf
  refine lv_tope hv1 ?_
  refine lv_istore_n (lv' := [(1, .int v1), (0, .ref (ase 0))]) hx hb dX4_moveUp_6 rfl hl (by decide) rfl (fun ls hl => ?_)
  refine lv_aload_n hx hb dX4_moveUp_7 rfl (lv_at hl 1 rfl) ?_
  refine va_get (D := D) (ci := 4) (v := .ref (ase 4)) (C := RX4) (T := TX4) (N := 10) hx hb hu inX4 hown hK.1 hP 0 rfl rfl 3 (by decide) (hu _ q161) (fun _ h9 => h9) rfl dX4_moveUp_8 ?_
  refine lv_iconst (v := 0) hx hb dX4_moveUp_11 (by decide) ?_
  refine ia_lit hx hb hK hP 1 0 rfl (by decide) dX4_moveUp_12 ?_
  refine lv_iconst (v := 1) hx hb dX4_moveUp_13 (by decide) ?_
  refine lv_isub hx hb dX4_moveUp_14 ?_
  obtain ⟨v2, hv2, hf⟩ := lt_el hf
  refine lv_tope hv2 ?_
  refine lv_istore_n (lv' := [(2, .int v2), (1, .int v1), (0, .ref (ase 0))]) hx hb dX4_moveUp_15 rfl hl (by decide) rfl (fun ls hl => ?_)
  refine lv_iconst (v := 0) hx hb dX4_moveUp_16 (by decide) ?_
  refine lv_istore_n (lv' := [(3, .int 0), (2, .int v2), (1, .int v1), (0, .ref (ase 0))]) hx hb dX4_moveUp_17 rfl hl (by decide) rfl (fun ls hl => ?_)
  exact h18 400 v1 v2 0 Se _ _ _ hP hD hS (lv_sub hl [3, 2, 1, 0] rfl) hf

def fX4_takeFrom (Se : ST) (Oo : ST) : Option ST :=
  dc_lt (sti Se 0 6 (Oo 0 6)) (fun Se_1 => dc_lt (sti Se_1 0 7 (Oo 0 7)) (fun Se_2 => dc_lt (va_up Se_2 4 (va_cpy (Oo 4) (Se_2 4) 0 0 6)) (fun Se_3 => dc_lt (va_up Se_3 5 (va_cpy (Oo 5) (Se_3 5) 0 0 4)) (fun Se_4 => dc_lt (va_up Se_4 6 (va_cpy (Oo 6) (Se_4 6) 0 0 10)) (fun Se_5 => dc_b1 (fX4_keepWord (-1) (-1) Se_5) (fun Se_6 => some Se_6))))))
abbrev rmX4_takeFrom : Room := { frames := 1, cells := 0, slots := 0, locals := 40 }
set_option maxRecDepth 100000 in
set_option maxHeartbeats 4000000 in
theorem tX4_takeFrom (l : Launch) (D : va_G) (cs : Nat → ClassId) (ase : Nat → Nat) (p0 : Value) (p1 : Value) (p2 : Value) (ase2 : Nat → Nat) (q0 : Value) (q1 : Value) (q2 : Value) (Se : ST) (Oo : ST) (Sez : ST) (hf : fX4_takeFrom Se Oo = some Sez) : CG l yX4_takeFrom (wsm yX4_takeFrom cX4_takeFrom 2 none) rmX4_takeFrom D cs [.ref (ase 0), .ref (ase2 0)] none ((kX4 cs ase p0 p1 p2 Se) ++ ((kX4 cs ase2 q0 q1 q2 Oo))) ((kX4 cs ase p0 p1 p2 Sez) ++ ((kX4 cs ase2 q0 q1 q2 Oo))) := by
  refine CG.intro (by decide) (Nat.le_of_ble_eq_true rfl) ?_
  intro p e s m below meth c A Q hx hb hml hown hu hK hZ hP0 hD0 hS0 hA hri hrz hrl hrv hra ls0 hl0
  have hl : lv_has ls0 2 [(0, .ref (ase 0)), (1, .ref (ase2 0))] := hl0
  have hP := hP0
  have hD := hD0
  have hS := hS0
  unfold fX4_takeFrom at hf
  refine lv_aload_n hx hb dX4_takeFrom_0 rfl (lv_at hl 0 rfl) ?_
  refine lv_aload_n hx hb dX4_takeFrom_1 rfl (lv_at hl 1 rfl) ?_
  refine va_get (D := D) (ci := 4) (v := .int (Oo 0 6)) (C := RX4) (T := TX4) (N := 10) hx hb hu inX4 hown hK.1 hP 4 rfl rfl 6 (by decide) (hu _ q167) (fun _ h9 => h9) rfl dX4_takeFrom_2 ?_
  obtain ⟨Se_1, hSe_1, hf⟩ := lt_el hf
  refine va_put (D := D) (ci := 4) (v := .int (Oo 0 6)) (ty := .int) (C := RX4) (T := TX4) (N := 10) hx hb hu inX4 tyX4 tyX4_ok nmX4 hown hK.1 hP hD hS 0 rfl rfl 6 (by decide) (hu _ q167) (fun _ h9 => h9) rfl (by decide +kernel) rfl rfl (Nat.le_of_ble_eq_true rfl) dX4_takeFrom_5 (fun H locs hP hD hS => ?_)
  have hP : va_P D vwCl ((kX4 cs ase p0 p1 p2 Se_1) ++ ((kX4 cs ase2 q0 q1 q2 Oo))) H := by rw [hSe_1]; exact hP
  have hD : va_D A ((kX4 cs ase p0 p1 p2 Se_1) ++ ((kX4 cs ase2 q0 q1 q2 Oo))) := by rw [hSe_1]; exact hD
  refine lv_aload_n hx hb dX4_takeFrom_8 rfl (lv_at hl 0 rfl) ?_
  refine lv_aload_n hx hb dX4_takeFrom_9 rfl (lv_at hl 1 rfl) ?_
  refine va_get (D := D) (ci := 4) (v := .int (Oo 0 7)) (C := RX4) (T := TX4) (N := 10) hx hb hu inX4 hown hK.1 hP 4 rfl rfl 7 (by decide) (hu _ q169) (fun _ h9 => h9) rfl dX4_takeFrom_10 ?_
  obtain ⟨Se_2, hSe_2, hf⟩ := lt_el hf
  refine va_put (D := D) (ci := 4) (v := .int (Oo 0 7)) (ty := .int) (C := RX4) (T := TX4) (N := 10) hx hb hu inX4 tyX4 tyX4_ok nmX4 hown hK.1 hP hD hS 0 rfl rfl 7 (by decide) (hu _ q169) (fun _ h9 => h9) rfl (by decide +kernel) rfl rfl (Nat.le_of_ble_eq_true rfl) dX4_takeFrom_13 (fun H locs hP hD hS => ?_)
  have hP : va_P D vwCl ((kX4 cs ase p0 p1 p2 Se_2) ++ ((kX4 cs ase2 q0 q1 q2 Oo))) H := by rw [hSe_2]; exact hP
  have hD : va_D A ((kX4 cs ase p0 p1 p2 Se_2) ++ ((kX4 cs ase2 q0 q1 q2 Oo))) := by rw [hSe_2]; exact hD
  refine lv_aload_n hx hb dX4_takeFrom_16 rfl (lv_at hl 1 rfl) ?_
  refine va_get (D := D) (ci := 4) (v := .ref (ase2 4)) (C := RX4) (T := TX4) (N := 10) hx hb hu inX4 hown hK.1 hP 4 rfl rfl 3 (by decide) (hu _ q161) (fun _ h9 => h9) rfl dX4_takeFrom_17 ?_
  refine lv_iconst (v := 0) hx hb dX4_takeFrom_20 (by decide) ?_
  refine lv_aload_n hx hb dX4_takeFrom_21 rfl (lv_at hl 0 rfl) ?_
  refine va_get (D := D) (ci := 4) (v := .ref (ase 4)) (C := RX4) (T := TX4) (N := 10) hx hb hu inX4 hown hK.1 hP 0 rfl rfl 3 (by decide) (hu _ q161) (fun _ h9 => h9) rfl dX4_takeFrom_22 ?_
  refine lv_iconst (v := 0) hx hb dX4_takeFrom_25 (by decide) ?_
  refine lv_bipush (v := 6) hx hb dX4_takeFrom_26 (by decide) ?_
  obtain ⟨Se_3, hSe_3, hf⟩ := lt_el hf
  refine cp_lit hx hb (hml.trans hl.1.symm) hown hu q429 q431 q430 q63 hK hP hD hS 5 1 6 rfl rfl (by decide) (by decide) (by decide) (Nat.le_of_ble_eq_true rfl) (Nat.le_of_ble_eq_true rfl) dX4_takeFrom_28 (fun H locs hP hD hS => ?_)
  have hP : va_P D vwCl ((kX4 cs ase p0 p1 p2 Se_3) ++ ((kX4 cs ase2 q0 q1 q2 Oo))) H := by rw [hSe_3]; exact hP
  have hD : va_D A ((kX4 cs ase p0 p1 p2 Se_3) ++ ((kX4 cs ase2 q0 q1 q2 Oo))) := by rw [hSe_3]; exact hD
  refine lv_aload_n hx hb dX4_takeFrom_31 rfl (lv_at hl 1 rfl) ?_
  refine va_get (D := D) (ci := 4) (v := .ref (ase2 5)) (C := RX4) (T := TX4) (N := 10) hx hb hu inX4 hown hK.1 hP 4 rfl rfl 4 (by decide) (hu _ q163) (fun _ h9 => h9) rfl dX4_takeFrom_32 ?_
  refine lv_iconst (v := 0) hx hb dX4_takeFrom_35 (by decide) ?_
  refine lv_aload_n hx hb dX4_takeFrom_36 rfl (lv_at hl 0 rfl) ?_
  refine va_get (D := D) (ci := 4) (v := .ref (ase 5)) (C := RX4) (T := TX4) (N := 10) hx hb hu inX4 hown hK.1 hP 0 rfl rfl 4 (by decide) (hu _ q163) (fun _ h9 => h9) rfl dX4_takeFrom_37 ?_
  refine lv_iconst (v := 0) hx hb dX4_takeFrom_40 (by decide) ?_
  refine lv_iconst (v := 4) hx hb dX4_takeFrom_41 (by decide) ?_
  obtain ⟨Se_4, hSe_4, hf⟩ := lt_el hf
  refine cp_lit hx hb (hml.trans hl.1.symm) hown hu q429 q431 q430 q63 hK hP hD hS 6 2 4 rfl rfl (by decide) (by decide) (by decide) (Nat.le_of_ble_eq_true rfl) (Nat.le_of_ble_eq_true rfl) dX4_takeFrom_42 (fun H locs hP hD hS => ?_)
  have hP : va_P D vwCl ((kX4 cs ase p0 p1 p2 Se_4) ++ ((kX4 cs ase2 q0 q1 q2 Oo))) H := by rw [hSe_4]; exact hP
  have hD : va_D A ((kX4 cs ase p0 p1 p2 Se_4) ++ ((kX4 cs ase2 q0 q1 q2 Oo))) := by rw [hSe_4]; exact hD
  refine lv_aload_n hx hb dX4_takeFrom_45 rfl (lv_at hl 1 rfl) ?_
  refine va_get (D := D) (ci := 4) (v := .ref (ase2 6)) (C := RX4) (T := TX4) (N := 10) hx hb hu inX4 hown hK.1 hP 4 rfl rfl 5 (by decide) (hu _ q165) (fun _ h9 => h9) rfl dX4_takeFrom_46 ?_
  refine lv_iconst (v := 0) hx hb dX4_takeFrom_49 (by decide) ?_
  refine lv_aload_n hx hb dX4_takeFrom_50 rfl (lv_at hl 0 rfl) ?_
  refine va_get (D := D) (ci := 4) (v := .ref (ase 6)) (C := RX4) (T := TX4) (N := 10) hx hb hu inX4 hown hK.1 hP 0 rfl rfl 5 (by decide) (hu _ q165) (fun _ h9 => h9) rfl dX4_takeFrom_51 ?_
  refine lv_iconst (v := 0) hx hb dX4_takeFrom_54 (by decide) ?_
  refine lv_bipush (v := 10) hx hb dX4_takeFrom_55 (by decide) ?_
  obtain ⟨Se_5, hSe_5, hf⟩ := lt_el hf
  refine cp_lit hx hb (hml.trans hl.1.symm) hown hu q429 q431 q430 q63 hK hP hD hS 7 3 10 rfl rfl (by decide) (by decide) (by decide) (Nat.le_of_ble_eq_true rfl) (Nat.le_of_ble_eq_true rfl) dX4_takeFrom_57 (fun H locs hP hD hS => ?_)
  have hP : va_P D vwCl ((kX4 cs ase p0 p1 p2 Se_5) ++ ((kX4 cs ase2 q0 q1 q2 Oo))) H := by rw [hSe_5]; exact hP
  have hD : va_D A ((kX4 cs ase p0 p1 p2 Se_5) ++ ((kX4 cs ase2 q0 q1 q2 Oo))) := by rw [hSe_5]; exact hD
  refine lv_aload_n hx hb dX4_takeFrom_60 rfl (lv_at hl 0 rfl) ?_
  refine lv_iconst (v := (-1)) hx hb dX4_takeFrom_61 (by decide) ?_
  refine lv_iconst (v := (-1)) hx hb dX4_takeFrom_62 (by decide) ?_
  obtain ⟨Se_6, hg7, hf⟩ := b1_el hf
  refine cc_V (w' := ((kX4 cs ase p0 p1 p2 Se_6) ++ ((kX4 cs ase2 q0 q1 q2 Oo)))) (wr := (kX4 cs ase2 q0 q1 q2 Oo)) (st1 := []) [.int (-1), .int (-1)] hx hb hml hown hu (tX4_keepWord l D cs ase p0 p1 p2 (-1) (-1) Se_5 Se_6 hg7) q435 q58 q432 q433 q434 pdX4_keepWord ⟨rfl, rfl, Nat.le_of_ble_eq_true rfl, Nat.le_of_ble_eq_true rfl⟩ hK hZ hP hD hS hA [0, 1, 2, 3] [4, 5, 6, 7] [4, 5, 6, 7, 0, 1, 2, 3] rfl rfl rfl rfl rfl rfl rfl rfl rfl rfl hl.1 rfl (Nat.le_of_ble_eq_true rfl) dX4_takeFrom_63 rfl (fun H locs hP hD hS => ?_)
  have he := Option.some.inj hf
  have e0 := he
  exact hrv _ _ rfl rfl dX4_takeFrom_66 _ _ _ (by rw [e0]) hP hD hS
