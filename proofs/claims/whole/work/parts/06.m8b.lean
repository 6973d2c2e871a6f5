def fX8_valueBy_q_82 (y1 : Int32) (y2 : Int32) (M : ST) : Option (Int32 × ST) :=
  dc_b1 (fX8_likesOf y1 y2 M) (fun r15 => some (r15, M))
def fX8_valueBy_q (x1 : Int32) (x2 : Int32) (x3 : Int32) (M : ST) : Option (Int32 × ST) :=
  (if x3 = 1 then dc_b1 (fX8_firstNamed M) (fun r2 => dc_b1 (fX8_likesOf r2 x2 M) (fun r4 => some (r4, M))) else if x3 = 2 then dc_b1 (fX8_firstNamed M) (fun r7 => dc_b1 (fX8_likesOf r7 x2 M) (fun r9 => some ((-r9), M))) else if x3 = 3 then dc_b1 (fX8_has0 x2 1 M) (fun r12 => some (r12, M)) else if x3 = 4 then fX8_valueBy_q_82 x1 x2 M else if x3 = 5 then dc_b2 (fX8_givenBy x1 x2 M) (fun r18 M_19 => some (r18, M_19)) else if x3 = 6 then none else fX8_valueBy_q_82 x1 x2 M)
abbrev rmX8_valueBy_q : Room := { frames := 3, cells := 0, slots := 0, locals := 71 }
set_option maxRecDepth 100000 in
set_option maxHeartbeats 4000000 in
theorem tX8_valueBy_q (l : Launch) (D : va_G) (cs : Nat → ClassId) (a : Nat → Nat) (nn : Nat → Nat) (x1 : Int32) (x2 : Int32) (x3 : Int32) (M : ST) (r0 : Int32) (Mz : ST) (hf : fX8_valueBy_q x1 x2 x3 M = some (r0, Mz)) : CG l yX8_valueBy (wsm yX8_valueBy cX8_valueBy 4 (some .int)) rmX8_valueBy_q D cs [.ref (a 0), .int x1, .int x2, .int x3] (some (.int r0)) (kX8 cs a (.ref (nn 0)) M) (kX8 cs a (.ref (nn 0)) Mz) := by
  refine CG.intro (by decide) (Nat.le_of_ble_eq_true rfl) ?_
  intro p e s m below meth c A Q hx hb hml hown hu hK hZ hP0 hD0 hS0 hA hri hrz hrl hrv hra ls0 hl0
  have h82 : ∀ (y1 : Int32) (y2 : Int32) (M : ST) (H : Heap) (locs : List Loc) (ls : Array Slot), va_P D vwCl (kX8 cs a (.ref (nn 0)) M) H → va_D A (kX8 cs a (.ref (nn 0)) M) → va_S A s.heap H locs → lv_has ls 4 [(0, .ref (a 0)), (1, .int y1), (2, .int y2)] → fX8_valueBy_q_82 y1 y2 M = some (r0, Mz) → W p l e rmX8_valueBy_q s m [.ref (a 0), .int x1, .int x2, .int x3].toArray below meth c H locs 0 0 Q (F0 m 82 ls []) := by
    intro y1 y2 M H locs ls hP hD hS hl hf
    unfold fX8_valueBy_q_82 at hf
    refine lv_aload_n hx hb dX8_valueBy_82 rfl (lv_at hl 0 rfl) ?_
    refine lv_iload_n hx hb dX8_valueBy_83 rfl (lv_at hl 1 rfl) ?_
    refine lv_iload_n hx hb dX8_valueBy_84 rfl (lv_at hl 2 rfl) ?_
    obtain ⟨r15, hg16, hf⟩ := b1_el hf
    refine cc_V1 (w' := (kX8 cs a (.ref (nn 0)) M)) (st1 := [.int r15]) [.int y1, .int y2] hx hb hml hown hu (tX8_likesOf l D cs a nn y1 y2 M r15 hg16) q1058 q62 q1055 q1057 q29 pdX8_likesOf ⟨rfl, rfl, Nat.le_of_ble_eq_true rfl, Nat.le_of_ble_eq_true rfl⟩ hK hZ hP hD hS hA rfl rfl rfl rfl hl.1 rfl (Nat.le_of_ble_eq_true rfl) dX8_valueBy_85 rfl (fun H locs hP hD hS => ?_)
    have he := Option.some.inj hf
    obtain ⟨e0, e1⟩ := Prod.mk.inj he
    exact hri _ _ _ rfl (congrArg (fun z => some (Value.int z)) e0.symm) dX8_valueBy_88 _ _ _ (by rw [e1]) hP hD hS
  have hl : lv_has ls0 4 [(0, .ref (a 0)), (1, .int x1), (2, .int x2), (3, .int x3)] := hl0
  have hP := hP0
  have hD := hD0
  have hS := hS0
  unfold fX8_valueBy_q at hf
  refine lv_iload_n hx hb dX8_valueBy_0 rfl (lv_at hl 3 rfl) ?_
  by_cases hc1 : x3 = 1
  · have hf := ip_el hc1 hf
    refine lv_tableIn (off := 39) (tgt := 40) hx hb dX8_valueBy_1 (by rw [hc1]; decide) (by rw [hc1]; decide) (by rw [hc1]; decide) (by decide) ?_
    refine lv_aload_n hx hb dX8_valueBy_40 rfl (lv_at hl 0 rfl) ?_
    refine lv_aload_n hx hb dX8_valueBy_41 rfl (lv_at hl 0 rfl) ?_
    obtain ⟨r2, hg3, hf⟩ := b1_el hf
    refine cc_V1 (w' := (kX8 cs a (.ref (nn 0)) M)) (st1 := [.int r2, .ref (a 0)]) [] hx hb hml hown hu (tX8_firstNamed l D cs a nn M r2 hg3) q1046 q62 q1043 q1045 q26 pdX8_firstNamed ⟨rfl, rfl, Nat.le_of_ble_eq_true rfl, Nat.le_of_ble_eq_true rfl⟩ hK hZ hP hD hS hA rfl rfl rfl rfl hl.1 rfl (Nat.le_of_ble_eq_true rfl) dX8_valueBy_42 rfl (fun H locs hP hD hS => ?_)
    refine lv_iload_n hx hb dX8_valueBy_45 rfl (lv_at hl 2 rfl) ?_
    obtain ⟨r4, hg5, hf⟩ := b1_el hf
    refine cc_V1 (w' := (kX8 cs a (.ref (nn 0)) M)) (st1 := [.int r4]) [.int r2, .int x2] hx hb hml hown hu (tX8_likesOf l D cs a nn r2 x2 M r4 hg5) q1058 q62 q1055 q1057 q29 pdX8_likesOf ⟨rfl, rfl, Nat.le_of_ble_eq_true rfl, Nat.le_of_ble_eq_true rfl⟩ hK hZ hP hD hS hA rfl rfl rfl rfl hl.1 rfl (Nat.le_of_ble_eq_true rfl) dX8_valueBy_46 rfl (fun H locs hP hD hS => ?_)
    have he := Option.some.inj hf
    obtain ⟨e0, e1⟩ := Prod.mk.inj he
    exact hri _ _ _ rfl (congrArg (fun z => some (Value.int z)) e0.symm) dX8_valueBy_49 _ _ _ (by rw [e1]) hP hD hS
  have hf := in_el hc1 hf
  by_cases hc6 : x3 = 2
  · have hf := ip_el hc6 hf
    refine lv_tableIn (off := 49) (tgt := 50) hx hb dX8_valueBy_1 (by rw [hc6]; decide) (by rw [hc6]; decide) (by rw [hc6]; decide) (by decide) ?_
    refine lv_aload_n hx hb dX8_valueBy_50 rfl (lv_at hl 0 rfl) ?_
    refine lv_aload_n hx hb dX8_valueBy_51 rfl (lv_at hl 0 rfl) ?_
    obtain ⟨r7, hg8, hf⟩ := b1_el hf
    refine cc_V1 (w' := (kX8 cs a (.ref (nn 0)) M)) (st1 := [.int r7, .ref (a 0)]) [] hx hb hml hown hu (tX8_firstNamed l D cs a nn M r7 hg8) q1046 q62 q1043 q1045 q26 pdX8_firstNamed ⟨rfl, rfl, Nat.le_of_ble_eq_true rfl, Nat.le_of_ble_eq_true rfl⟩ hK hZ hP hD hS hA rfl rfl rfl rfl hl.1 rfl (Nat.le_of_ble_eq_true rfl) dX8_valueBy_52 rfl (fun H locs hP hD hS => ?_)
    refine lv_iload_n hx hb dX8_valueBy_55 rfl (lv_at hl 2 rfl) ?_
    obtain ⟨r9, hg10, hf⟩ := b1_el hf
    refine cc_V1 (w' := (kX8 cs a (.ref (nn 0)) M)) (st1 := [.int r9]) [.int r7, .int x2] hx hb hml hown hu (tX8_likesOf l D cs a nn r7 x2 M r9 hg10) q1058 q62 q1055 q1057 q29 pdX8_likesOf ⟨rfl, rfl, Nat.le_of_ble_eq_true rfl, Nat.le_of_ble_eq_true rfl⟩ hK hZ hP hD hS hA rfl rfl rfl rfl hl.1 rfl (Nat.le_of_ble_eq_true rfl) dX8_valueBy_56 rfl (fun H locs hP hD hS => ?_)
    refine lv_ineg hx hb dX8_valueBy_59 ?_
    have he := Option.some.inj hf
    obtain ⟨e0, e1⟩ := Prod.mk.inj he
    exact hri _ _ _ rfl (congrArg (fun z => some (Value.int z)) e0.symm) dX8_valueBy_60 _ _ _ (by rw [e1]) hP hD hS
  have hf := in_el hc6 hf
  by_cases hc11 : x3 = 3
  · have hf := ip_el hc11 hf
    refine lv_tableIn (off := 60) (tgt := 61) hx hb dX8_valueBy_1 (by rw [hc11]; decide) (by rw [hc11]; decide) (by rw [hc11]; decide) (by decide) ?_
    refine lv_aload_n hx hb dX8_valueBy_61 rfl (lv_at hl 0 rfl) ?_
    refine lv_iload_n hx hb dX8_valueBy_62 rfl (lv_at hl 2 rfl) ?_
    refine lv_iconst (v := 1) hx hb dX8_valueBy_63 (by decide) ?_
    obtain ⟨r12, hg13, hf⟩ := b1_el hf
    refine cc_V1 (w' := (kX8 cs a (.ref (nn 0)) M)) (st1 := [.int r12]) [.int x2, .int 1] hx hb hml hown hu (tX8_has0 l D cs a nn x2 1 M r12 hg13) q1026 q62 q1023 q1025 q21 pdX8_has0 ⟨rfl, rfl, Nat.le_of_ble_eq_true rfl, Nat.le_of_ble_eq_true rfl⟩ hK hZ hP hD hS hA rfl rfl rfl rfl hl.1 rfl (Nat.le_of_ble_eq_true rfl) dX8_valueBy_64 rfl (fun H locs hP hD hS => ?_)
    have he := Option.some.inj hf
    obtain ⟨e0, e1⟩ := Prod.mk.inj he
    exact hri _ _ _ rfl (congrArg (fun z => some (Value.int z)) e0.symm) dX8_valueBy_67 _ _ _ (by rw [e1]) hP hD hS
  have hf := in_el hc11 hf
  by_cases hc14 : x3 = 4
  · have hf := ip_el hc14 hf
    refine lv_tableIn (off := 81) (tgt := 82) hx hb dX8_valueBy_1 (by rw [hc14]; decide) (by rw [hc14]; decide) (by rw [hc14]; decide) (by decide) ?_
    exact h82 x1 x2 M _ _ _ hP hD hS (lv_sub hl [0, 1, 2] rfl) hf
  have hf := in_el hc14 hf
  by_cases hc17 : x3 = 5
  · have hf := ip_el hc17 hf
    refine lv_tableIn (off := 67) (tgt := 68) hx hb dX8_valueBy_1 (by rw [hc17]; decide) (by rw [hc17]; decide) (by rw [hc17]; decide) (by decide) ?_
    refine lv_aload_n hx hb dX8_valueBy_68 rfl (lv_at hl 0 rfl) ?_
    refine lv_iload_n hx hb dX8_valueBy_69 rfl (lv_at hl 1 rfl) ?_
    refine lv_iload_n hx hb dX8_valueBy_70 rfl (lv_at hl 2 rfl) ?_
    obtain ⟨r18, M_19, hg20, hf⟩ := b2_el hf
    refine cc_V1 (w' := (kX8 cs a (.ref (nn 0)) M_19)) (st1 := [.int r18]) [.int x1, .int x2] hx hb hml hown hu (tX8_givenBy l D cs a nn x1 x2 M r18 M_19 hg20) q1062 q62 q1059 q1061 q30 pdX8_givenBy ⟨rfl, rfl, Nat.le_of_ble_eq_true rfl, Nat.le_of_ble_eq_true rfl⟩ hK hZ hP hD hS hA rfl rfl rfl rfl hl.1 rfl (Nat.le_of_ble_eq_true rfl) dX8_valueBy_71 rfl (fun H locs hP hD hS => ?_)
    have he := Option.some.inj hf
    obtain ⟨e0, e1⟩ := Prod.mk.inj he
    exact hri _ _ _ rfl (congrArg (fun z => some (Value.int z)) e0.symm) dX8_valueBy_74 _ _ _ (by rw [e1]) hP hD hS
  have hf := in_el hc17 hf
  by_cases hc21 : x3 = 6
  · have hf := ip_el hc21 hf
    refine lv_tableIn (off := 74) (tgt := 75) hx hb dX8_valueBy_1 (by rw [hc21]; decide) (by rw [hc21]; decide) (by rw [hc21]; decide) (by decide) ?_
    refine lv_aload_n hx hb dX8_valueBy_75 rfl (lv_at hl 0 rfl) ?_
    refine lv_iload_n hx hb dX8_valueBy_76 rfl (lv_at hl 1 rfl) ?_
    refine lv_iload_n hx hb dX8_valueBy_77 rfl (lv_at hl 2 rfl) ?_
    exact no_el hf
  have hf := in_el hc21 hf
  have nhc1 := sw_ne (a := 1) hc1 (by decide)
  have nhc6 := sw_ne (a := 2) hc6 (by decide)
  have nhc11 := sw_ne (a := 3) hc11 (by decide)
  have nhc14 := sw_ne (a := 4) hc14 (by decide)
  have nhc17 := sw_ne (a := 5) hc17 (by decide)
  have nhc21 := sw_ne (a := 6) hc21 (by decide)
  refine lv_tableOut (tgt := 82) hx hb dX8_valueBy_1 (by omega) (by decide) ?_
  exact h82 x1 x2 M _ _ _ hP hD hS (lv_sub hl [0, 1, 2] rfl) hf

def fX8_bestBy_q_55 (k8 : Int32 → Int32 → Int32 → Int32 → Int32 → ST → Option (Int32 × ST)) (y1 : Int32) (y2 : Int32) (y3 : Int32) (y4 : Int32) (y5 : Int32) (s0 : Int32) (M : ST) : Option (Int32 × ST) :=
  (if s0 = 0 then dc_lt (y5 + 1) (fun v6 => k8 y1 y2 y3 y4 v6 M) else dc_b2 (fX8_valueBy_q y1 y5 y2 M) (fun r7 M_8 => (if y3 < 0 then dc_lt (y5 + 1) (fun v11 => k8 y1 y2 y5 r7 v11 M_8) else (if r7 ≤ y4 then dc_lt (y5 + 1) (fun v13 => k8 y1 y2 y3 y4 v13 M_8) else dc_lt (y5 + 1) (fun v14 => k8 y1 y2 y5 r7 v14 M_8)))))
def fX8_bestBy_q_8_s (k8 : Int32 → Int32 → Int32 → Int32 → Int32 → ST → Option (Int32 × ST)) (y1 : Int32) (y2 : Int32) (y3 : Int32) (y4 : Int32) (y5 : Int32) (M : ST) : Option (Int32 × ST) :=
  (if (M 1 0) ≤ y5 then some (y3, M) else dc_b1 (fX8_mayName y1 y5 M) (fun r2 => (if r2 = 0 then fX8_bestBy_q_55 k8 y1 y2 y3 y4 y5 0 M else (if y2 = 4 then dc_b1 (fX8_has0 y5 2 M) (fun r16 => dc_b1 (fX8_has0 y1 2 M) (fun r18 => (if r16 = r18 then fX8_bestBy_q_55 k8 y1 y2 y3 y4 y5 1 M else fX8_bestBy_q_55 k8 y1 y2 y3 y4 y5 0 M))) else fX8_bestBy_q_55 k8 y1 y2 y3 y4 y5 1 M))))
def fX8_bestBy_q_8 : Nat → Int32 → Int32 → Int32 → Int32 → Int32 → ST → Option (Int32 × ST)
  | 0 => fun _ _ _ _ _ _ => none
  | n + 1 => fX8_bestBy_q_8_s (fX8_bestBy_q_8 n)
def fX8_bestBy_q (x1 : Int32) (x2 : Int32) (M : ST) : Option (Int32 × ST) :=
  fX8_bestBy_q_8 400 x1 x2 (-1) 0 0 M
abbrev rmX8_bestBy_q : Room := { frames := 4, cells := 0, slots := 0, locals := 94 }
set_option maxRecDepth 100000 in
set_option maxHeartbeats 4000000 in
theorem tX8_bestBy_q (l : Launch) (D : va_G) (cs : Nat → ClassId) (a : Nat → Nat) (nn : Nat → Nat) (x1 : Int32) (x2 : Int32) (M : ST) (r0 : Int32) (Mz : ST) (hf : fX8_bestBy_q x1 x2 M = some (r0, Mz)) : CG l yX8_bestBy (wsm yX8_bestBy cX8_bestBy 8 (some .int)) rmX8_bestBy_q D cs [.ref (a 0), .int x1, .int x2] (some (.int r0)) (kX8 cs a (.ref (nn 0)) M) (kX8 cs a (.ref (nn 0)) Mz) := by
  refine CG.intro (by decide) (Nat.le_of_ble_eq_true rfl) ?_
  intro p e s m below meth c A Q hx hb hml hown hu hK hZ hP0 hD0 hS0 hA hri hrz hrl hrv hra ls0 hl0
  have h55 : ∀ (k8 : Int32 → Int32 → Int32 → Int32 → Int32 → ST → Option (Int32 × ST)), (∀ (y1 : Int32) (y2 : Int32) (y3 : Int32) (y4 : Int32) (y5 : Int32) (M : ST) (H : Heap) (locs : List Loc) (ls : Array Slot), va_P D vwCl (kX8 cs a (.ref (nn 0)) M) H → va_D A (kX8 cs a (.ref (nn 0)) M) → va_S A s.heap H locs → lv_has ls 8 [(0, .ref (a 0)), (1, .int y1), (2, .int y2), (3, .int y3), (4, .int y4), (5, .int y5)] → k8 y1 y2 y3 y4 y5 M = some (r0, Mz) → W p l e rmX8_bestBy_q s m [.ref (a 0), .int x1, .int x2].toArray below meth c H locs 0 0 Q (F0 m 8 ls [])) → ∀ (y1 : Int32) (y2 : Int32) (y3 : Int32) (y4 : Int32) (y5 : Int32) (s0 : Int32) (M : ST) (H : Heap) (locs : List Loc) (ls : Array Slot), va_P D vwCl (kX8 cs a (.ref (nn 0)) M) H → va_D A (kX8 cs a (.ref (nn 0)) M) → va_S A s.heap H locs → lv_has ls 8 [(0, .ref (a 0)), (1, .int y1), (2, .int y2), (3, .int y3), (4, .int y4), (5, .int y5)] → fX8_bestBy_q_55 k8 y1 y2 y3 y4 y5 s0 M = some (r0, Mz) → W p l e rmX8_bestBy_q s m [.ref (a 0), .int x1, .int x2].toArray below meth c H locs 0 0 Q (F0 m 55 ls [.int s0]) := by
    intro k8 hk8 y1 y2 y3 y4 y5 s0 M H locs ls hP hD hS hl hf
    unfold fX8_bestBy_q_55 at hf
    refine lv_istore (lv' := [(6, .int s0), (0, .ref (a 0)), (1, .int y1), (2, .int y2), (3, .int y3), (4, .int y4), (5, .int y5)]) hx hb dX8_bestBy_55 hl (by decide) rfl (fun ls hl => ?_)
    refine lv_iload hx hb dX8_bestBy_57 (lv_at hl 0 rfl) ?_
    refine lv_if_eq (tgt := 90) hx hb dX8_bestBy_59 (by decide) (fun hc5 => ?_) (fun hc5 => ?_)
    · have hf := ip_el hc5 hf
      obtain ⟨v6, hv6, hf⟩ := lt_el hf
      refine lv_iinc (v := v6) (lv' := [(5, .int v6), (6, .int s0), (0, .ref (a 0)), (1, .int y1), (2, .int y2), (3, .int y3), (4, .int y4)]) hx hb dX8_bestBy_90 hl (k := 6) rfl (by rw [hv6]; rfl) (by decide) rfl (fun ls hl => ?_)
      refine lv_goto (tgt := 8) hx hb dX8_bestBy_93 (by decide) ?_
      exact hk8 y1 y2 y3 y4 v6 M _ _ _ hP hD hS (lv_sub hl [2, 3, 4, 5, 6, 0] rfl) hf
    · have hf := in_el hc5 hf
      refine lv_aload_n hx hb dX8_bestBy_62 rfl (lv_at hl 1 rfl) ?_
      refine lv_iload_n hx hb dX8_bestBy_63 rfl (lv_at hl 2 rfl) ?_
      refine lv_iload hx hb dX8_bestBy_64 (lv_at hl 6 rfl) ?_
      refine lv_iload_n hx hb dX8_bestBy_66 rfl (lv_at hl 3 rfl) ?_
      obtain ⟨r7, M_8, hg9, hf⟩ := b2_el hf
      refine cc_V1 (w' := (kX8 cs a (.ref (nn 0)) M_8)) (st1 := [.int r7]) [.int y1, .int y5, .int y2] hx hb hml hown hu (tX8_valueBy_q l D cs a nn y1 y5 y2 M r7 M_8 hg9) q1054 q62 q1051 q1053 q28 pdX8_valueBy ⟨rfl, rfl, Nat.le_of_ble_eq_true rfl, Nat.le_of_ble_eq_true rfl⟩ hK hZ hP hD hS hA rfl rfl rfl rfl hl.1 rfl (Nat.le_of_ble_eq_true rfl) dX8_bestBy_67 rfl (fun H locs hP hD hS => ?_)
      refine lv_istore (lv' := [(7, .int r7), (6, .int s0), (0, .ref (a 0)), (1, .int y1), (2, .int y2), (3, .int y3), (4, .int y4), (5, .int y5)]) hx hb dX8_bestBy_70 hl (by decide) rfl (fun ls hl => ?_)
      refine lv_iload_n hx hb dX8_bestBy_72 rfl (lv_at hl 5 rfl) ?_
      refine lv_if_lt (tgt := 83) hx hb dX8_bestBy_73 (by decide) (fun hc10 => ?_) (fun hc10 => ?_)
      · have hf := ip_el hc10 hf
        refine lv_iload hx hb dX8_bestBy_83 (lv_at hl 7 rfl) ?_
        refine lv_istore_n (lv' := [(3, .int y5), (7, .int r7), (6, .int s0), (0, .ref (a 0)), (1, .int y1), (2, .int y2), (4, .int y4), (5, .int y5)]) hx hb dX8_bestBy_85 rfl hl (by decide) rfl (fun ls hl => ?_)
        refine lv_iload hx hb dX8_bestBy_86 (lv_at hl 1 rfl) ?_
        refine lv_istore (lv' := [(4, .int r7), (3, .int y5), (7, .int r7), (6, .int s0), (0, .ref (a 0)), (1, .int y1), (2, .int y2), (5, .int y5)]) hx hb dX8_bestBy_88 hl (by decide) rfl (fun ls hl => ?_)
        obtain ⟨v11, hv11, hf⟩ := lt_el hf
        refine lv_iinc (v := v11) (lv' := [(5, .int v11), (4, .int r7), (3, .int y5), (7, .int r7), (6, .int s0), (0, .ref (a 0)), (1, .int y1), (2, .int y2)]) hx hb dX8_bestBy_90 hl (k := 7) rfl (by rw [hv11]; rfl) (by decide) rfl (fun ls hl => ?_)
        refine lv_goto (tgt := 8) hx hb dX8_bestBy_93 (by decide) ?_
        exact hk8 y1 y2 y5 r7 v11 M_8 _ _ _ hP hD hS (lv_sub hl [5, 6, 7, 2, 1, 0] rfl) hf
      · have hf := in_el hc10 hf
        refine lv_iload hx hb dX8_bestBy_76 (lv_at hl 0 rfl) ?_
        refine lv_iload hx hb dX8_bestBy_78 (lv_at hl 6 rfl) ?_
        refine lv_icmp_le (tgt := 90) hx hb dX8_bestBy_80 (by decide) (fun hc12 => ?_) (fun hc12 => ?_)
        · have hf := ip_el hc12 hf
          obtain ⟨v13, hv13, hf⟩ := lt_el hf
          refine lv_iinc (v := v13) (lv' := [(5, .int v13), (7, .int r7), (6, .int s0), (0, .ref (a 0)), (1, .int y1), (2, .int y2), (3, .int y3), (4, .int y4)]) hx hb dX8_bestBy_90 hl (k := 7) rfl (by rw [hv13]; rfl) (by decide) rfl (fun ls hl => ?_)
          refine lv_goto (tgt := 8) hx hb dX8_bestBy_93 (by decide) ?_
          exact hk8 y1 y2 y3 y4 v13 M_8 _ _ _ hP hD hS (lv_sub hl [3, 4, 5, 6, 7, 0] rfl) hf
        · have hf := in_el hc12 hf
          refine lv_iload hx hb dX8_bestBy_83 (lv_at hl 7 rfl) ?_
          refine lv_istore_n (lv' := [(3, .int y5), (7, .int r7), (6, .int s0), (0, .ref (a 0)), (1, .int y1), (2, .int y2), (4, .int y4), (5, .int y5)]) hx hb dX8_bestBy_85 rfl hl (by decide) rfl (fun ls hl => ?_)
          refine lv_iload hx hb dX8_bestBy_86 (lv_at hl 1 rfl) ?_
          refine lv_istore (lv' := [(4, .int r7), (3, .int y5), (7, .int r7), (6, .int s0), (0, .ref (a 0)), (1, .int y1), (2, .int y2), (5, .int y5)]) hx hb dX8_bestBy_88 hl (by decide) rfl (fun ls hl => ?_)
          obtain ⟨v14, hv14, hf⟩ := lt_el hf
          refine lv_iinc (v := v14) (lv' := [(5, .int v14), (4, .int r7), (3, .int y5), (7, .int r7), (6, .int s0), (0, .ref (a 0)), (1, .int y1), (2, .int y2)]) hx hb dX8_bestBy_90 hl (k := 7) rfl (by rw [hv14]; rfl) (by decide) rfl (fun ls hl => ?_)
          refine lv_goto (tgt := 8) hx hb dX8_bestBy_93 (by decide) ?_
          exact hk8 y1 y2 y5 r7 v14 M_8 _ _ _ hP hD hS (lv_sub hl [5, 6, 7, 2, 1, 0] rfl) hf
  have hs8 : ∀ (k8 : Int32 → Int32 → Int32 → Int32 → Int32 → ST → Option (Int32 × ST)), (∀ (y1 : Int32) (y2 : Int32) (y3 : Int32) (y4 : Int32) (y5 : Int32) (M : ST) (H : Heap) (locs : List Loc) (ls : Array Slot), va_P D vwCl (kX8 cs a (.ref (nn 0)) M) H → va_D A (kX8 cs a (.ref (nn 0)) M) → va_S A s.heap H locs → lv_has ls 8 [(0, .ref (a 0)), (1, .int y1), (2, .int y2), (3, .int y3), (4, .int y4), (5, .int y5)] → k8 y1 y2 y3 y4 y5 M = some (r0, Mz) → W p l e rmX8_bestBy_q s m [.ref (a 0), .int x1, .int x2].toArray below meth c H locs 0 0 Q (F0 m 8 ls [])) → ∀ (y1 : Int32) (y2 : Int32) (y3 : Int32) (y4 : Int32) (y5 : Int32) (M : ST) (H : Heap) (locs : List Loc) (ls : Array Slot), va_P D vwCl (kX8 cs a (.ref (nn 0)) M) H → va_D A (kX8 cs a (.ref (nn 0)) M) → va_S A s.heap H locs → lv_has ls 8 [(0, .ref (a 0)), (1, .int y1), (2, .int y2), (3, .int y3), (4, .int y4), (5, .int y5)] → fX8_bestBy_q_8_s k8 y1 y2 y3 y4 y5 M = some (r0, Mz) → W p l e rmX8_bestBy_q s m [.ref (a 0), .int x1, .int x2].toArray below meth c H locs 0 0 Q (F0 m 8 ls []) := by
    intro k8 hk8 y1 y2 y3 y4 y5 M H locs ls hP hD hS hl hf
    unfold fX8_bestBy_q_8_s at hf
    refine lv_iload hx hb dX8_bestBy_8 (lv_at hl 5 rfl) ?_
    refine lv_aload_n hx hb dX8_bestBy_10 rfl (lv_at hl 0 rfl) ?_
    refine va_get (D := D) (ci := 8) (v := .ref (a 1)) (C := RX8) (T := TX8) (N := 26) hx hb hu inX8 hown hK.1 hP 0 rfl rfl 0 (by decide) (hu _ q917) (fun _ h9 => h9) rfl dX8_bestBy_11 ?_
    refine lv_iconst (v := 0) hx hb dX8_bestBy_14 (by decide) ?_
    refine ia_lit hx hb hK hP 1 0 rfl (by decide) dX8_bestBy_15 ?_
    refine lv_icmp_ge (tgt := 96) hx hb dX8_bestBy_16 (by decide) (fun hc1 => ?_) (fun hc1 => ?_)
    · have hf := ip_el hc1 hf
      refine lv_iload_n hx hb dX8_bestBy_96 rfl (lv_at hl 3 rfl) ?_
      have he := Option.some.inj hf
      obtain ⟨e0, e1⟩ := Prod.mk.inj he
      exact hri _ _ _ rfl (congrArg (fun z => some (Value.int z)) e0.symm) dX8_bestBy_97 _ _ _ (by rw [e1]) hP hD hS
    · have hf := in_el hc1 hf
      refine lv_aload_n hx hb dX8_bestBy_19 rfl (lv_at hl 0 rfl) ?_
      refine lv_iload_n hx hb dX8_bestBy_20 rfl (lv_at hl 1 rfl) ?_
      refine lv_iload hx hb dX8_bestBy_21 (lv_at hl 5 rfl) ?_
      obtain ⟨r2, hg3, hf⟩ := b1_el hf
      refine cc_V1 (w' := (kX8 cs a (.ref (nn 0)) M)) (st1 := [.int r2]) [.int y1, .int y5] hx hb hml hown hu (tX8_mayName l D cs a nn y1 y5 M r2 hg3) q1038 q62 q1035 q1037 q24 pdX8_mayName ⟨rfl, rfl, Nat.le_of_ble_eq_true rfl, Nat.le_of_ble_eq_true rfl⟩ hK hZ hP hD hS hA rfl rfl rfl rfl hl.1 rfl (Nat.le_of_ble_eq_true rfl) dX8_bestBy_23 rfl (fun H locs hP hD hS => ?_)
      refine lv_if_eq (tgt := 54) hx hb dX8_bestBy_26 (by decide) (fun hc4 => ?_) (fun hc4 => ?_)
      · have hf := ip_el hc4 hf
        refine lv_iconst (v := 0) hx hb dX8_bestBy_54 (by decide) ?_
        exact h55 k8 hk8 y1 y2 y3 y4 y5 0 M _ _ _ hP hD hS (lv_sub hl [0, 1, 2, 3, 4, 5] rfl) hf
      · have hf := in_el hc4 hf
        refine lv_iload_n hx hb dX8_bestBy_29 rfl (lv_at hl 2 rfl) ?_
        refine lv_iconst (v := 4) hx hb dX8_bestBy_30 (by decide) ?_
        refine lv_icmp_ne (tgt := 50) hx hb dX8_bestBy_31 (by decide) (fun hc15 => ?_) (fun hc15 => ?_)
        · have hf := in_el hc15 hf
          refine lv_iconst (v := 1) hx hb dX8_bestBy_50 (by decide) ?_
          refine lv_goto (tgt := 55) hx hb dX8_bestBy_51 (by decide) ?_
          exact h55 k8 hk8 y1 y2 y3 y4 y5 1 M _ _ _ hP hD hS (lv_sub hl [0, 1, 2, 3, 4, 5] rfl) hf
        · have hf := ip_el hc15 hf
          refine lv_aload_n hx hb dX8_bestBy_34 rfl (lv_at hl 0 rfl) ?_
          refine lv_iload hx hb dX8_bestBy_35 (lv_at hl 5 rfl) ?_
          refine lv_iconst (v := 2) hx hb dX8_bestBy_37 (by decide) ?_
          obtain ⟨r16, hg17, hf⟩ := b1_el hf
          refine cc_V1 (w' := (kX8 cs a (.ref (nn 0)) M)) (st1 := [.int r16]) [.int y5, .int 2] hx hb hml hown hu (tX8_has0 l D cs a nn y5 2 M r16 hg17) q1026 q62 q1023 q1025 q21 pdX8_has0 ⟨rfl, rfl, Nat.le_of_ble_eq_true rfl, Nat.le_of_ble_eq_true rfl⟩ hK hZ hP hD hS hA rfl rfl rfl rfl hl.1 rfl (Nat.le_of_ble_eq_true rfl) dX8_bestBy_38 rfl (fun H locs hP hD hS => ?_)
          refine lv_aload_n hx hb dX8_bestBy_41 rfl (lv_at hl 0 rfl) ?_
          refine lv_iload_n hx hb dX8_bestBy_42 rfl (lv_at hl 1 rfl) ?_
          refine lv_iconst (v := 2) hx hb dX8_bestBy_43 (by decide) ?_
          obtain ⟨r18, hg19, hf⟩ := b1_el hf
          refine cc_V1 (w' := (kX8 cs a (.ref (nn 0)) M)) (st1 := [.int r18, .int r16]) [.int y1, .int 2] hx hb hml hown hu (tX8_has0 l D cs a nn y1 2 M r18 hg19) q1026 q62 q1023 q1025 q21 pdX8_has0 ⟨rfl, rfl, Nat.le_of_ble_eq_true rfl, Nat.le_of_ble_eq_true rfl⟩ hK hZ hP hD hS hA rfl rfl rfl rfl hl.1 rfl (Nat.le_of_ble_eq_true rfl) dX8_bestBy_44 rfl (fun H locs hP hD hS => ?_)
          refine lv_icmp_ne (tgt := 54) hx hb dX8_bestBy_47 (by decide) (fun hc20 => ?_) (fun hc20 => ?_)
          · have hf := in_el hc20 hf
            refine lv_iconst (v := 0) hx hb dX8_bestBy_54 (by decide) ?_
            exact h55 k8 hk8 y1 y2 y3 y4 y5 0 M _ _ _ hP hD hS (lv_sub hl [0, 1, 2, 3, 4, 5] rfl) hf
          · have hf := ip_el hc20 hf
            refine lv_iconst (v := 1) hx hb dX8_bestBy_50 (by decide) ?_
            refine lv_goto (tgt := 55) hx hb dX8_bestBy_51 (by decide) ?_
            exact h55 k8 hk8 y1 y2 y3 y4 y5 1 M _ _ _ hP hD hS (lv_sub hl [0, 1, 2, 3, 4, 5] rfl) hf
  have h8 : ∀ (n : Nat), ∀ (y1 : Int32) (y2 : Int32) (y3 : Int32) (y4 : Int32) (y5 : Int32) (M : ST) (H : Heap) (locs : List Loc) (ls : Array Slot), va_P D vwCl (kX8 cs a (.ref (nn 0)) M) H → va_D A (kX8 cs a (.ref (nn 0)) M) → va_S A s.heap H locs → lv_has ls 8 [(0, .ref (a 0)), (1, .int y1), (2, .int y2), (3, .int y3), (4, .int y4), (5, .int y5)] → fX8_bestBy_q_8 n y1 y2 y3 y4 y5 M = some (r0, Mz) → W p l e rmX8_bestBy_q s m [.ref (a 0), .int x1, .int x2].toArray below meth c H locs 0 0 Q (F0 m 8 ls []) := by
    intro n
    induction n with
    | zero => intro y1 y2 y3 y4 y5 M H locs ls hP hD hS hl hf; exact no_el hf
    | succ n ih => intro y1 y2 y3 y4 y5 M H locs ls hP hD hS hl hf; exact hs8 _ ih y1 y2 y3 y4 y5 M _ _ _ hP hD hS hl hf
  have hl : lv_has ls0 8 [(0, .ref (a 0)), (1, .int x1), (2, .int x2)] := hl0
  have hP := hP0
  have hD := hD0
  have hS := hS0
  unfold fX8_bestBy_q at hf
  refine lv_iconst (v := (-1)) hx hb dX8_bestBy_0 (by decide) ?_
  refine lv_istore_n (lv' := [(3, .int (-1)), (0, .ref (a 0)), (1, .int x1), (2, .int x2)]) hx hb dX8_bestBy_1 rfl hl (by decide) rfl (fun ls hl => ?_)
  refine lv_iconst (v := 0) hx hb dX8_bestBy_2 (by decide) ?_
  refine lv_istore (lv' := [(4, .int 0), (3, .int (-1)), (0, .ref (a 0)), (1, .int x1), (2, .int x2)]) hx hb dX8_bestBy_3 hl (by decide) rfl (fun ls hl => ?_)
  refine lv_iconst (v := 0) hx hb dX8_bestBy_5 (by decide) ?_
  refine lv_istore (lv' := [(5, .int 0), (4, .int 0), (3, .int (-1)), (0, .ref (a 0)), (1, .int x1), (2, .int x2)]) hx hb dX8_bestBy_6 hl (by decide) rfl (fun ls hl => ?_)
  exact h8 400 x1 x2 (-1) 0 0 M _ _ _ hP hD hS (lv_sub hl [3, 4, 5, 2, 1, 0] rfl) hf

def fX8_would_q_130 (y1 : Int32) (y3 : Int32) (s0 : Int32) (s1 : Int32) (M : ST) : Option (Int32 × ST) :=
  dc_b2 (fX8_bestBy_q s1 s0 M) (fun r8 M_9 => (if 0 ≤ r8 then some (r8, M_9) else (if y3 = 4 then dc_b2 (fX8_bestBy_q y1 0 M_9) (fun r13 M_14 => some (r13, M_14)) else some (r8, M_9))))
def fX8_would_q_116 (y1 : Int32) (y3 : Int32) (s0 : Int32) (M : ST) : Option (Int32 × ST) :=
  (if s0 = 0 then fX8_would_q_130 y1 y3 y3 y1 M else fX8_would_q_130 y1 y3 0 y1 M)
def fX8_would_q_98 (y1 : Int32) (y3 : Int32) (M : ST) : Option (Int32 × ST) :=
  (if y3 = 6 then (if (M 0 12) = 0 then fX8_would_q_116 y1 y3 0 M else fX8_would_q_116 y1 y3 1 M) else fX8_would_q_116 y1 y3 0 M)
def fX8_would_q_82 (y1 : Int32) (y3 : Int32) (M : ST) : Option (Int32 × ST) :=
  (if y3 = 5 then (if (M 1 190) = 0 then fX8_would_q_116 y1 y3 1 M else fX8_would_q_98 y1 y3 M) else fX8_would_q_98 y1 y3 M)
def fX8_would_q_75 (y1 : Int32) (y3 : Int32) (M : ST) : Option (Int32 × ST) :=
  dc_b1 (fX8_firstNamed M) (fun r17 => (if r17 < 0 then fX8_would_q_116 y1 y3 1 M else fX8_would_q_82 y1 y3 M))
def fX8_would_q_54 (y1 : Int32) (M : ST) : Option (Int32 × ST) :=
  dc_b1 (fX8_has0 y1 0 M) (fun r4 => (if r4 = 0 then fX8_would_q_116 y1 r4 1 M else (if r4 = 1 then fX8_would_q_75 y1 r4 M else (if r4 = 2 then fX8_would_q_75 y1 r4 M else fX8_would_q_82 y1 r4 M))))
def fX8_would_q_31 (y1 : Int32) (s0 : Int32) (M : ST) : Option (Int32 × ST) :=
  (if s0 < 0 then fX8_would_q_54 y1 M else (if (M 0 12) = 0 then dc_b1 (fX8_mayName y1 s0 M) (fun r26 => (if r26 = 0 then fX8_would_q_54 y1 M else some (s0, M))) else fX8_would_q_54 y1 M))
def fX8_would_q (x1 : Int32) (M : ST) : Option (Int32 × ST) :=
  (if x1 = (M 0 9) then fX8_would_q_31 x1 (M 0 10) M else (if x1 = (M 0 10) then fX8_would_q_31 x1 (M 0 9) M else fX8_would_q_31 x1 (-1) M))
abbrev rmX8_would_q : Room := { frames := 5, cells := 0, slots := 0, locals := 121 }
set_option maxRecDepth 100000 in
set_option maxHeartbeats 4000000 in
theorem tX8_would_q (l : Launch) (D : va_G) (cs : Nat → ClassId) (a : Nat → Nat) (nn : Nat → Nat) (x1 : Int32) (M : ST) (r0 : Int32) (Mz : ST) (hf : fX8_would_q x1 M = some (r0, Mz)) : CG l yX8_would (wsm yX8_would cX8_would 6 (some .int)) rmX8_would_q D cs [.ref (a 0), .int x1] (some (.int r0)) (kX8 cs a (.ref (nn 0)) M) (kX8 cs a (.ref (nn 0)) Mz) := by
  refine CG.intro (by decide) (Nat.le_of_ble_eq_true rfl) ?_
  intro p e s m below meth c A Q hx hb hml hown hu hK hZ hP0 hD0 hS0 hA hri hrz hrl hrv hra ls0 hl0
  have h130 : ∀ (y1 : Int32) (y3 : Int32) (s0 : Int32) (s1 : Int32) (M : ST) (H : Heap) (locs : List Loc) (ls : Array Slot), va_P D vwCl (kX8 cs a (.ref (nn 0)) M) H → va_D A (kX8 cs a (.ref (nn 0)) M) → va_S A s.heap H locs → lv_has ls 6 [(0, .ref (a 0)), (1, .int y1), (3, .int y3)] → fX8_would_q_130 y1 y3 s0 s1 M = some (r0, Mz) → W p l e rmX8_would_q s m [.ref (a 0), .int x1].toArray below meth c H locs 0 0 Q (F0 m 130 ls [.int s0, .int s1, .ref (a 0)]) := by
    intro y1 y3 s0 s1 M H locs ls hP hD hS hl hf
    unfold fX8_would_q_130 at hf
    obtain ⟨r8, M_9, hg10, hf⟩ := b2_el hf
    refine cc_V1 (w' := (kX8 cs a (.ref (nn 0)) M_9)) (st1 := [.int r8]) [.int s1, .int s0] hx hb hml hown hu (tX8_bestBy_q l D cs a nn s1 s0 M r8 M_9 hg10) q1050 q62 q1047 q1049 q27 pdX8_bestBy ⟨rfl, rfl, Nat.le_of_ble_eq_true rfl, Nat.le_of_ble_eq_true rfl⟩ hK hZ hP hD hS hA rfl rfl rfl rfl hl.1 rfl (Nat.le_of_ble_eq_true rfl) dX8_would_130 rfl (fun H locs hP hD hS => ?_)
    refine lv_istore (lv' := [(5, .int r8), (0, .ref (a 0)), (1, .int y1), (3, .int y3)]) hx hb dX8_would_133 hl (by decide) rfl (fun ls hl => ?_)
    refine lv_iload hx hb dX8_would_135 (lv_at hl 0 rfl) ?_
    refine lv_if_ge (tgt := 154) hx hb dX8_would_137 (by decide) (fun hc11 => ?_) (fun hc11 => ?_)
    · have hf := ip_el hc11 hf
      refine lv_iload hx hb dX8_would_154 (lv_at hl 0 rfl) ?_
      have he := Option.some.inj hf
      obtain ⟨e0, e1⟩ := Prod.mk.inj he
      exact hri _ _ _ rfl (congrArg (fun z => some (Value.int z)) e0.symm) dX8_would_156 _ _ _ (by rw [e1]) hP hD hS
    · have hf := in_el hc11 hf
      refine lv_iload_n hx hb dX8_would_140 rfl (lv_at hl 3 rfl) ?_
      refine lv_iconst (v := 4) hx hb dX8_would_141 (by decide) ?_
      refine lv_icmp_ne (tgt := 154) hx hb dX8_would_142 (by decide) (fun hc12 => ?_) (fun hc12 => ?_)
      · have hf := in_el hc12 hf
        refine lv_iload hx hb dX8_would_154 (lv_at hl 0 rfl) ?_
        have he := Option.some.inj hf
        obtain ⟨e0, e1⟩ := Prod.mk.inj he
        exact hri _ _ _ rfl (congrArg (fun z => some (Value.int z)) e0.symm) dX8_would_156 _ _ _ (by rw [e1]) hP hD hS
      · have hf := ip_el hc12 hf
        refine lv_aload_n hx hb dX8_would_145 rfl (lv_at hl 1 rfl) ?_
        refine lv_iload_n hx hb dX8_would_146 rfl (lv_at hl 2 rfl) ?_
        refine lv_iconst (v := 0) hx hb dX8_would_147 (by decide) ?_
        obtain ⟨r13, M_14, hg15, hf⟩ := b2_el hf
        refine cc_V1 (w' := (kX8 cs a (.ref (nn 0)) M_14)) (st1 := [.int r13]) [.int y1, .int 0] hx hb hml hown hu (tX8_bestBy_q l D cs a nn y1 0 M_9 r13 M_14 hg15) q1050 q62 q1047 q1049 q27 pdX8_bestBy ⟨rfl, rfl, Nat.le_of_ble_eq_true rfl, Nat.le_of_ble_eq_true rfl⟩ hK hZ hP hD hS hA rfl rfl rfl rfl hl.1 rfl (Nat.le_of_ble_eq_true rfl) dX8_would_148 rfl (fun H locs hP hD hS => ?_)
        refine lv_goto (tgt := 156) hx hb dX8_would_151 (by decide) ?_
        have he := Option.some.inj hf
        obtain ⟨e0, e1⟩ := Prod.mk.inj he
        exact hri _ _ _ rfl (congrArg (fun z => some (Value.int z)) e0.symm) dX8_would_156 _ _ _ (by rw [e1]) hP hD hS
  have h116 : ∀ (y1 : Int32) (y3 : Int32) (s0 : Int32) (M : ST) (H : Heap) (locs : List Loc) (ls : Array Slot), va_P D vwCl (kX8 cs a (.ref (nn 0)) M) H → va_D A (kX8 cs a (.ref (nn 0)) M) → va_S A s.heap H locs → lv_has ls 6 [(0, .ref (a 0)), (1, .int y1), (3, .int y3)] → fX8_would_q_116 y1 y3 s0 M = some (r0, Mz) → W p l e rmX8_would_q s m [.ref (a 0), .int x1].toArray below meth c H locs 0 0 Q (F0 m 116 ls [.int s0]) := by
    intro y1 y3 s0 M H locs ls hP hD hS hl hf
    unfold fX8_would_q_116 at hf
    refine lv_istore (lv' := [(4, .int s0), (0, .ref (a 0)), (1, .int y1), (3, .int y3)]) hx hb dX8_would_116 hl (by decide) rfl (fun ls hl => ?_)
    refine lv_aload_n hx hb dX8_would_118 rfl (lv_at hl 1 rfl) ?_
    refine lv_iload_n hx hb dX8_would_119 rfl (lv_at hl 2 rfl) ?_
    refine lv_iload hx hb dX8_would_120 (lv_at hl 0 rfl) ?_
    refine lv_if_eq (tgt := 129) hx hb dX8_would_122 (by decide) (fun hc7 => ?_) (fun hc7 => ?_)
    · have hf := ip_el hc7 hf
      refine lv_iload_n hx hb dX8_would_129 rfl (lv_at hl 3 rfl) ?_
      exact h130 y1 y3 y3 y1 M _ _ _ hP hD hS (lv_sub hl [1, 2, 3] rfl) hf
    · have hf := in_el hc7 hf
      refine lv_iconst (v := 0) hx hb dX8_would_125 (by decide) ?_
      refine lv_goto (tgt := 130) hx hb dX8_would_126 (by decide) ?_
      exact h130 y1 y3 0 y1 M _ _ _ hP hD hS (lv_sub hl [1, 2, 3] rfl) hf
  have h98 : ∀ (y1 : Int32) (y3 : Int32) (M : ST) (H : Heap) (locs : List Loc) (ls : Array Slot), va_P D vwCl (kX8 cs a (.ref (nn 0)) M) H → va_D A (kX8 cs a (.ref (nn 0)) M) → va_S A s.heap H locs → lv_has ls 6 [(0, .ref (a 0)), (1, .int y1), (3, .int y3)] → fX8_would_q_98 y1 y3 M = some (r0, Mz) → W p l e rmX8_would_q s m [.ref (a 0), .int x1].toArray below meth c H locs 0 0 Q (F0 m 98 ls []) := by
    intro y1 y3 M H locs ls hP hD hS hl hf
    unfold fX8_would_q_98 at hf
    refine lv_iload_n hx hb dX8_would_98 rfl (lv_at hl 2 rfl) ?_
    refine lv_bipush (v := 6) hx hb dX8_would_99 (by decide) ?_
    refine lv_icmp_ne (tgt := 115) hx hb dX8_would_101 (by decide) (fun hc21 => ?_) (fun hc21 => ?_)
    · have hf := in_el hc21 hf
      refine lv_iconst (v := 0) hx hb dX8_would_115 (by decide) ?_
      exact h116 y1 y3 0 M _ _ _ hP hD hS (lv_sub hl [0, 1, 2] rfl) hf
    · have hf := ip_el hc21 hf
      refine lv_aload_n hx hb dX8_would_104 rfl (lv_at hl 0 rfl) ?_
      refine va_get (D := D) (ci := 8) (v := .int (M 0 12)) (C := RX8) (T := TX8) (N := 26) hx hb hu inX8 hown hK.1 hP 0 rfl rfl 12 (by decide) (hu _ q929) (fun _ h9 => h9) rfl dX8_would_105 ?_
      refine lv_if_eq (tgt := 115) hx hb dX8_would_108 (by decide) (fun hc22 => ?_) (fun hc22 => ?_)
      · have hf := ip_el hc22 hf
        refine lv_iconst (v := 0) hx hb dX8_would_115 (by decide) ?_
        exact h116 y1 y3 0 M _ _ _ hP hD hS (lv_sub hl [0, 1, 2] rfl) hf
      · have hf := in_el hc22 hf
        refine lv_iconst (v := 1) hx hb dX8_would_111 (by decide) ?_
        refine lv_goto (tgt := 116) hx hb dX8_would_112 (by decide) ?_
        exact h116 y1 y3 1 M _ _ _ hP hD hS (lv_sub hl [0, 1, 2] rfl) hf
  have h82 : ∀ (y1 : Int32) (y3 : Int32) (M : ST) (H : Heap) (locs : List Loc) (ls : Array Slot), va_P D vwCl (kX8 cs a (.ref (nn 0)) M) H → va_D A (kX8 cs a (.ref (nn 0)) M) → va_S A s.heap H locs → lv_has ls 6 [(0, .ref (a 0)), (1, .int y1), (3, .int y3)] → fX8_would_q_82 y1 y3 M = some (r0, Mz) → W p l e rmX8_would_q s m [.ref (a 0), .int x1].toArray below meth c H locs 0 0 Q (F0 m 82 ls []) := by
    intro y1 y3 M H locs ls hP hD hS hl hf
    unfold fX8_would_q_82 at hf
    refine lv_iload_n hx hb dX8_would_82 rfl (lv_at hl 2 rfl) ?_
    refine lv_iconst (v := 5) hx hb dX8_would_83 (by decide) ?_
    refine lv_icmp_ne (tgt := 98) hx hb dX8_would_84 (by decide) (fun hc20 => ?_) (fun hc20 => ?_)
    · have hf := in_el hc20 hf
      exact h98 y1 y3 M _ _ _ hP hD hS (lv_sub hl [0, 1, 2] rfl) hf
    · have hf := ip_el hc20 hf
      refine lv_aload_n hx hb dX8_would_87 rfl (lv_at hl 0 rfl) ?_
      refine va_get (D := D) (ci := 8) (v := .ref (a 1)) (C := RX8) (T := TX8) (N := 26) hx hb hu inX8 hown hK.1 hP 0 rfl rfl 0 (by decide) (hu _ q917) (fun _ h9 => h9) rfl dX8_would_88 ?_
      refine lv_sipush (v := 190) hx hb dX8_would_91 (by decide) ?_
      refine ia_lit hx hb hK hP 1 190 rfl (by decide) dX8_would_94 ?_
      refine lv_if_eq (tgt := 111) hx hb dX8_would_95 (by decide) (fun hc23 => ?_) (fun hc23 => ?_)
      · have hf := ip_el hc23 hf
        refine lv_iconst (v := 1) hx hb dX8_would_111 (by decide) ?_
        refine lv_goto (tgt := 116) hx hb dX8_would_112 (by decide) ?_
        exact h116 y1 y3 1 M _ _ _ hP hD hS (lv_sub hl [0, 1, 2] rfl) hf
      · have hf := in_el hc23 hf
        exact h98 y1 y3 M _ _ _ hP hD hS (lv_sub hl [0, 1, 2] rfl) hf
  have h75 : ∀ (y1 : Int32) (y3 : Int32) (M : ST) (H : Heap) (locs : List Loc) (ls : Array Slot), va_P D vwCl (kX8 cs a (.ref (nn 0)) M) H → va_D A (kX8 cs a (.ref (nn 0)) M) → va_S A s.heap H locs → lv_has ls 6 [(0, .ref (a 0)), (1, .int y1), (3, .int y3)] → fX8_would_q_75 y1 y3 M = some (r0, Mz) → W p l e rmX8_would_q s m [.ref (a 0), .int x1].toArray below meth c H locs 0 0 Q (F0 m 75 ls []) := by
    intro y1 y3 M H locs ls hP hD hS hl hf
    unfold fX8_would_q_75 at hf
    refine lv_aload_n hx hb dX8_would_75 rfl (lv_at hl 0 rfl) ?_
    obtain ⟨r17, hg18, hf⟩ := b1_el hf
    refine cc_V1 (w' := (kX8 cs a (.ref (nn 0)) M)) (st1 := [.int r17]) [] hx hb hml hown hu (tX8_firstNamed l D cs a nn M r17 hg18) q1046 q62 q1043 q1045 q26 pdX8_firstNamed ⟨rfl, rfl, Nat.le_of_ble_eq_true rfl, Nat.le_of_ble_eq_true rfl⟩ hK hZ hP hD hS hA rfl rfl rfl rfl hl.1 rfl (Nat.le_of_ble_eq_true rfl) dX8_would_76 rfl (fun H locs hP hD hS => ?_)
    refine lv_if_lt (tgt := 111) hx hb dX8_would_79 (by decide) (fun hc19 => ?_) (fun hc19 => ?_)
    · have hf := ip_el hc19 hf
      refine lv_iconst (v := 1) hx hb dX8_would_111 (by decide) ?_
      refine lv_goto (tgt := 116) hx hb dX8_would_112 (by decide) ?_
      exact h116 y1 y3 1 M _ _ _ hP hD hS (lv_sub hl [0, 1, 2] rfl) hf
    · have hf := in_el hc19 hf
      exact h82 y1 y3 M _ _ _ hP hD hS (lv_sub hl [0, 1, 2] rfl) hf
  have h54 : ∀ (y1 : Int32) (M : ST) (H : Heap) (locs : List Loc) (ls : Array Slot), va_P D vwCl (kX8 cs a (.ref (nn 0)) M) H → va_D A (kX8 cs a (.ref (nn 0)) M) → va_S A s.heap H locs → lv_has ls 6 [(0, .ref (a 0)), (1, .int y1)] → fX8_would_q_54 y1 M = some (r0, Mz) → W p l e rmX8_would_q s m [.ref (a 0), .int x1].toArray below meth c H locs 0 0 Q (F0 m 54 ls []) := by
    intro y1 M H locs ls hP hD hS hl hf
    unfold fX8_would_q_54 at hf
    refine lv_aload_n hx hb dX8_would_54 rfl (lv_at hl 0 rfl) ?_
    refine lv_iload_n hx hb dX8_would_55 rfl (lv_at hl 1 rfl) ?_
    refine lv_iconst (v := 0) hx hb dX8_would_56 (by decide) ?_
    obtain ⟨r4, hg5, hf⟩ := b1_el hf
    refine cc_V1 (w' := (kX8 cs a (.ref (nn 0)) M)) (st1 := [.int r4]) [.int y1, .int 0] hx hb hml hown hu (tX8_has0 l D cs a nn y1 0 M r4 hg5) q1026 q62 q1023 q1025 q21 pdX8_has0 ⟨rfl, rfl, Nat.le_of_ble_eq_true rfl, Nat.le_of_ble_eq_true rfl⟩ hK hZ hP hD hS hA rfl rfl rfl rfl hl.1 rfl (Nat.le_of_ble_eq_true rfl) dX8_would_57 rfl (fun H locs hP hD hS => ?_)
    refine lv_istore_n (lv' := [(3, .int r4), (0, .ref (a 0)), (1, .int y1)]) hx hb dX8_would_60 rfl hl (by decide) rfl (fun ls hl => ?_)
    refine lv_iload_n hx hb dX8_would_61 rfl (lv_at hl 0 rfl) ?_
    refine lv_if_eq (tgt := 111) hx hb dX8_would_62 (by decide) (fun hc6 => ?_) (fun hc6 => ?_)
    · have hf := ip_el hc6 hf
      refine lv_iconst (v := 1) hx hb dX8_would_111 (by decide) ?_
      refine lv_goto (tgt := 116) hx hb dX8_would_112 (by decide) ?_
      exact h116 y1 r4 1 M _ _ _ hP hD hS (lv_sub hl [1, 2, 0] rfl) hf
    · have hf := in_el hc6 hf
      refine lv_iload_n hx hb dX8_would_65 rfl (lv_at hl 0 rfl) ?_
      refine lv_iconst (v := 1) hx hb dX8_would_66 (by decide) ?_
      refine lv_icmp_eq (tgt := 75) hx hb dX8_would_67 (by decide) (fun hc16 => ?_) (fun hc16 => ?_)
      · have hf := ip_el hc16 hf
        exact h75 y1 r4 M _ _ _ hP hD hS (lv_sub hl [1, 2, 0] rfl) hf
      · have hf := in_el hc16 hf
        refine lv_iload_n hx hb dX8_would_70 rfl (lv_at hl 0 rfl) ?_
        refine lv_iconst (v := 2) hx hb dX8_would_71 (by decide) ?_
        refine lv_icmp_ne (tgt := 82) hx hb dX8_would_72 (by decide) (fun hc24 => ?_) (fun hc24 => ?_)
        · have hf := in_el hc24 hf
          exact h82 y1 r4 M _ _ _ hP hD hS (lv_sub hl [1, 2, 0] rfl) hf
        · have hf := ip_el hc24 hf
          exact h75 y1 r4 M _ _ _ hP hD hS (lv_sub hl [1, 2, 0] rfl) hf
  have h31 : ∀ (y1 : Int32) (s0 : Int32) (M : ST) (H : Heap) (locs : List Loc) (ls : Array Slot), va_P D vwCl (kX8 cs a (.ref (nn 0)) M) H → va_D A (kX8 cs a (.ref (nn 0)) M) → va_S A s.heap H locs → lv_has ls 6 [(0, .ref (a 0)), (1, .int y1)] → fX8_would_q_31 y1 s0 M = some (r0, Mz) → W p l e rmX8_would_q s m [.ref (a 0), .int x1].toArray below meth c H locs 0 0 Q (F0 m 31 ls [.int s0]) := by
    intro y1 s0 M H locs ls hP hD hS hl hf
    unfold fX8_would_q_31 at hf
    refine lv_istore_n (lv' := [(2, .int s0), (0, .ref (a 0)), (1, .int y1)]) hx hb dX8_would_31 rfl hl (by decide) rfl (fun ls hl => ?_)
    refine lv_iload_n hx hb dX8_would_32 rfl (lv_at hl 0 rfl) ?_
    refine lv_if_lt (tgt := 54) hx hb dX8_would_33 (by decide) (fun hc3 => ?_) (fun hc3 => ?_)
    · have hf := ip_el hc3 hf
      exact h54 y1 M _ _ _ hP hD hS (lv_sub hl [1, 2] rfl) hf
    · have hf := in_el hc3 hf
      refine lv_aload_n hx hb dX8_would_36 rfl (lv_at hl 1 rfl) ?_
      refine va_get (D := D) (ci := 8) (v := .int (M 0 12)) (C := RX8) (T := TX8) (N := 26) hx hb hu inX8 hown hK.1 hP 0 rfl rfl 12 (by decide) (hu _ q929) (fun _ h9 => h9) rfl dX8_would_37 ?_
      refine lv_if_ne (tgt := 54) hx hb dX8_would_40 (by decide) (fun hc25 => ?_) (fun hc25 => ?_)
      · have hf := in_el hc25 hf
        exact h54 y1 M _ _ _ hP hD hS (lv_sub hl [1, 2] rfl) hf
      · have hf := ip_el hc25 hf
        refine lv_aload_n hx hb dX8_would_43 rfl (lv_at hl 1 rfl) ?_
        refine lv_iload_n hx hb dX8_would_44 rfl (lv_at hl 2 rfl) ?_
        refine lv_iload_n hx hb dX8_would_45 rfl (lv_at hl 0 rfl) ?_
        obtain ⟨r26, hg27, hf⟩ := b1_el hf
        refine cc_V1 (w' := (kX8 cs a (.ref (nn 0)) M)) (st1 := [.int r26]) [.int y1, .int s0] hx hb hml hown hu (tX8_mayName l D cs a nn y1 s0 M r26 hg27) q1038 q62 q1035 q1037 q24 pdX8_mayName ⟨rfl, rfl, Nat.le_of_ble_eq_true rfl, Nat.le_of_ble_eq_true rfl⟩ hK hZ hP hD hS hA rfl rfl rfl rfl hl.1 rfl (Nat.le_of_ble_eq_true rfl) dX8_would_46 rfl (fun H locs hP hD hS => ?_)
        refine lv_if_eq (tgt := 54) hx hb dX8_would_49 (by decide) (fun hc28 => ?_) (fun hc28 => ?_)
        · have hf := ip_el hc28 hf
          exact h54 y1 M _ _ _ hP hD hS (lv_sub hl [1, 2] rfl) hf
        · have hf := in_el hc28 hf
          refine lv_iload_n hx hb dX8_would_52 rfl (lv_at hl 0 rfl) ?_
          have he := Option.some.inj hf
          obtain ⟨e0, e1⟩ := Prod.mk.inj he
          exact hri _ _ _ rfl (congrArg (fun z => some (Value.int z)) e0.symm) dX8_would_53 _ _ _ (by rw [e1]) hP hD hS
  have hl : lv_has ls0 6 [(0, .ref (a 0)), (1, .int x1)] := hl0
  have hP := hP0
  have hD := hD0
  have hS := hS0
  unfold fX8_would_q at hf
  refine lv_iload_n hx hb dX8_would_0 rfl (lv_at hl 1 rfl) ?_
  refine lv_aload_n hx hb dX8_would_1 rfl (lv_at hl 0 rfl) ?_
  refine va_get (D := D) (ci := 8) (v := .int (M 0 9)) (C := RX8) (T := TX8) (N := 26) hx hb hu inX8 hown hK.1 hP 0 rfl rfl 9 (by decide) (hu _ q926) (fun _ h9 => h9) rfl dX8_would_2 ?_
  refine lv_icmp_ne (tgt := 15) hx hb dX8_would_5 (by decide) (fun hc1 => ?_) (fun hc1 => ?_)
  · have hf := in_el hc1 hf
    refine lv_iload_n hx hb dX8_would_15 rfl (lv_at hl 1 rfl) ?_
    refine lv_aload_n hx hb dX8_would_16 rfl (lv_at hl 0 rfl) ?_
    refine va_get (D := D) (ci := 8) (v := .int (M 0 10)) (C := RX8) (T := TX8) (N := 26) hx hb hu inX8 hown hK.1 hP 0 rfl rfl 10 (by decide) (hu _ q927) (fun _ h9 => h9) rfl dX8_would_17 ?_
    refine lv_icmp_ne (tgt := 30) hx hb dX8_would_20 (by decide) (fun hc2 => ?_) (fun hc2 => ?_)
    · have hf := in_el hc2 hf
      refine lv_iconst (v := (-1)) hx hb dX8_would_30 (by decide) ?_
      exact h31 x1 (-1) M _ _ _ hP hD hS (lv_sub hl [0, 1] rfl) hf
    · have hf := ip_el hc2 hf
      refine lv_aload_n hx hb dX8_would_23 rfl (lv_at hl 0 rfl) ?_
      refine va_get (D := D) (ci := 8) (v := .int (M 0 9)) (C := RX8) (T := TX8) (N := 26) hx hb hu inX8 hown hK.1 hP 0 rfl rfl 9 (by decide) (hu _ q926) (fun _ h9 => h9) rfl dX8_would_24 ?_
      refine lv_goto (tgt := 31) hx hb dX8_would_27 (by decide) ?_
      exact h31 x1 (M 0 9) M _ _ _ hP hD hS (lv_sub hl [0, 1] rfl) hf
  · have hf := ip_el hc1 hf
    refine lv_aload_n hx hb dX8_would_8 rfl (lv_at hl 0 rfl) ?_
    refine va_get (D := D) (ci := 8) (v := .int (M 0 10)) (C := RX8) (T := TX8) (N := 26) hx hb hu inX8 hown hK.1 hP 0 rfl rfl 10 (by decide) (hu _ q927) (fun _ h9 => h9) rfl dX8_would_9 ?_
    refine lv_goto (tgt := 31) hx hb dX8_would_12 (by decide) ?_
    exact h31 x1 (M 0 10) M _ _ _ hP hD hS (lv_sub hl [0, 1] rfl) hf

def fX8_comes_q_202 (k149 : Int32 → Int32 → ST → Option (Int32 × ST)) (y1 : Int32) (y2 : Int32) (s0 : Int32) (M : ST) : Option (Int32 × ST) :=
  dc_b2 (fX8_would_q y1 M) (fun r12 M_13 => dc_ck s0 271 (dc_lt (sti M_13 1 (Int32.toNatClampNeg s0) r12) (fun M_16 => dc_lt (y2 + 1) (fun v17 => k149 y1 v17 M_16))))
def fX8_comes_q_149_s (k149 : Int32 → Int32 → ST → Option (Int32 × ST)) (y1 : Int32) (y2 : Int32) (M : ST) : Option (Int32 × ST) :=
  (if (M 1 4) ≤ y2 then some (y1, M) else (if (M 1 8) = 1 then dc_ck (10 + y2) 271 ((if (M 1 (Int32.toNatClampNeg (10 + y2))) < 0 then fX8_comes_q_202 k149 y1 y2 (10 + y2) M else dc_ck (10 + y2) 271 (dc_ck (10 + y2) 271 (dc_lt (sti M 1 (Int32.toNatClampNeg (10 + y2)) (M 1 (Int32.toNatClampNeg (10 + y2)))) (fun M_22 => dc_lt (y2 + 1) (fun v23 => k149 y1 v23 M_22)))))) else fX8_comes_q_202 k149 y1 y2 (10 + y2) M))
def fX8_comes_q_149 : Nat → Int32 → Int32 → ST → Option (Int32 × ST)
  | 0 => fun _ _ _ => none
  | n + 1 => fX8_comes_q_149_s (fX8_comes_q_149 n)
def fX8_comes_q_89 (y1 : Int32) (M : ST) : Option (Int32 × ST) :=
  dc_lt (sti M 1 1 y1) (fun M_2 => dc_lt (sti M_2 1 2 0) (fun M_3 => (if y1 < 0 then some (y1, M_3) else dc_ck ((14 + (6 * y1)) + 4) 271 (dc_ck ((14 + (6 * y1)) + 4) 271 (dc_lt (sti M_3 1 (Int32.toNatClampNeg ((14 + (6 * y1)) + 4)) ((M_3 1 (Int32.toNatClampNeg ((14 + (6 * y1)) + 4))) + 1)) (fun M_7 => (if (M_7 1 8) = 1 then fX8_comes_q_149 400 y1 0 M_7 else dc_lt ((M_7 1 4) - 1) (fun v9 => fX8_comes_q_149 400 y1 v9 M_7))))))))
def fX8_comes_q_42_s (k4 : Int32 → Int32 → ST → Option (Int32 × ST)) (k42 : Int32 → Int32 → Int32 → ST → Option (Int32 × ST)) (y1 : Int32) (y2 : Int32) (y3 : Int32) (M : ST) : Option (Int32 × ST) :=
  (if 4 ≤ (y3 + 1) then dc_lt (sti M 1 13 (-1)) (fun M_28 => dc_lt (y2 + 1) (fun v29 => k4 y1 v29 M_28)) else dc_ck ((10 + y3) + 1) 271 (dc_ck (10 + y3) 271 (dc_lt (sti M 1 (Int32.toNatClampNeg (10 + y3)) (M 1 (Int32.toNatClampNeg ((10 + y3) + 1)))) (fun M_32 => dc_lt (y3 + 1) (fun v33 => k42 y1 y2 v33 M_32)))))
def fX8_comes_q_42 (k4 : Int32 → Int32 → ST → Option (Int32 × ST)) : Nat → Int32 → Int32 → Int32 → ST → Option (Int32 × ST)
  | 0 => fun _ _ _ _ => none
  | n + 1 => fX8_comes_q_42_s k4 (fX8_comes_q_42 k4 n)
def fX8_comes_q_32 (k4 : Int32 → Int32 → ST → Option (Int32 × ST)) (y2 : Int32) (M : ST) : Option (Int32 × ST) :=
  dc_lt (M 1 10) (fun v26 => fX8_comes_q_42 k4 400 v26 y2 0 M)
def fX8_comes_q_4_s (k4 : Int32 → Int32 → ST → Option (Int32 × ST)) (y1 : Int32) (y2 : Int32) (M : ST) : Option (Int32 × ST) :=
  (if (M 1 4) ≤ y2 then fX8_comes_q_89 y1 M else (if 0 ≤ y1 then fX8_comes_q_89 y1 M else (if y2 = 0 then fX8_comes_q_32 k4 y2 M else (if (M 1 8) = 0 then fX8_comes_q_32 k4 y2 M else fX8_comes_q_89 y1 M))))
def fX8_comes_q_4 : Nat → Int32 → Int32 → ST → Option (Int32 × ST)
  | 0 => fun _ _ _ => none
  | n + 1 => fX8_comes_q_4_s (fX8_comes_q_4 n)
def fX8_comes_q (M : ST) : Option (Int32 × ST) :=
  fX8_comes_q_4 400 (-1) 0 M
abbrev rmX8_comes_q : Room := { frames := 6, cells := 0, slots := 0, locals := 146 }
set_option maxRecDepth 100000 in
set_option maxHeartbeats 4000000 in
theorem tX8_comes_q (l : Launch) (D : va_G) (cs : Nat → ClassId) (a : Nat → Nat) (nn : Nat → Nat) (M : ST) (r0 : Int32) (Mz : ST) (hf : fX8_comes_q M = some (r0, Mz)) : CG l yX8_comes (wsm yX8_comes cX8_comes 4 (some .int)) rmX8_comes_q D cs [.ref (a 0)] (some (.int r0)) (kX8 cs a (.ref (nn 0)) M) (kX8 cs a (.ref (nn 0)) Mz) := by
  refine CG.intro (by decide) (Nat.le_of_ble_eq_true rfl) ?_
  intro p e s m below meth c A Q hx hb hml hown hu hK hZ hP0 hD0 hS0 hA hri hrz hrl hrv hra ls0 hl0
  have h202 : ∀ (k149 : Int32 → Int32 → ST → Option (Int32 × ST)), (∀ (y1 : Int32) (y2 : Int32) (M : ST) (H : Heap) (locs : List Loc) (ls : Array Slot), va_P D vwCl (kX8 cs a (.ref (nn 0)) M) H → va_D A (kX8 cs a (.ref (nn 0)) M) → va_S A s.heap H locs → lv_has ls 4 [(0, .ref (a 0)), (1, .int y1), (2, .int y2)] → k149 y1 y2 M = some (r0, Mz) → W p l e rmX8_comes_q s m [.ref (a 0)].toArray below meth c H locs 0 0 Q (F0 m 149 ls [])) → ∀ (y1 : Int32) (y2 : Int32) (s0 : Int32) (M : ST) (H : Heap) (locs : List Loc) (ls : Array Slot), va_P D vwCl (kX8 cs a (.ref (nn 0)) M) H → va_D A (kX8 cs a (.ref (nn 0)) M) → va_S A s.heap H locs → lv_has ls 4 [(0, .ref (a 0)), (1, .int y1), (2, .int y2)] → fX8_comes_q_202 k149 y1 y2 s0 M = some (r0, Mz) → W p l e rmX8_comes_q s m [.ref (a 0)].toArray below meth c H locs 0 0 Q (F0 m 202 ls [.int s0, .ref (a 1)]) := by
    intro k149 hk149 y1 y2 s0 M H locs ls hP hD hS hl hf
    unfold fX8_comes_q_202 at hf
    refine lv_aload_n hx hb dX8_comes_202 rfl (lv_at hl 0 rfl) ?_
    refine lv_iload_n hx hb dX8_comes_203 rfl (lv_at hl 1 rfl) ?_
    obtain ⟨r12, M_13, hg14, hf⟩ := b2_el hf
    refine cc_V1 (w' := (kX8 cs a (.ref (nn 0)) M_13)) (st1 := [.int r12, .int s0, .ref (a 1)]) [.int y1] hx hb hml hown hu (tX8_would_q l D cs a nn y1 M r12 M_13 hg14) q1034 q62 q1031 q1033 q23 pdX8_would ⟨rfl, rfl, Nat.le_of_ble_eq_true rfl, Nat.le_of_ble_eq_true rfl⟩ hK hZ hP hD hS hA rfl rfl rfl rfl hl.1 rfl (Nat.le_of_ble_eq_true rfl) dX8_comes_204 rfl (fun H locs hP hD hS => ?_)
    obtain ⟨hi15, hf⟩ := ck_el hf
    obtain ⟨M_16, hM_16, hf⟩ := lt_el hf
    refine va_iast hx hb hK.1 hP hD hS 1 0 rfl rfl hi15 dX8_comes_207 (fun H locs hP hD hS => ?_)
    have hP : va_P D vwCl (kX8 cs a (.ref (nn 0)) M_16) H := by rw [hM_16]; exact hP
    have hD : va_D A (kX8 cs a (.ref (nn 0)) M_16) := by rw [hM_16]; exact hD
    obtain ⟨v17, hv17, hf⟩ := lt_el hf
    refine lv_iinc (v := v17) (lv' := [(2, .int v17), (0, .ref (a 0)), (1, .int y1)]) hx hb dX8_comes_208 hl (k := 2) rfl (by rw [hv17]; rfl) (by decide) rfl (fun ls hl => ?_)
    refine lv_goto (tgt := 149) hx hb dX8_comes_211 (by decide) ?_
    exact hk149 y1 v17 M_16 _ _ _ hP hD hS (lv_sub hl [1, 2, 0] rfl) hf
  have hs149 : ∀ (k149 : Int32 → Int32 → ST → Option (Int32 × ST)), (∀ (y1 : Int32) (y2 : Int32) (M : ST) (H : Heap) (locs : List Loc) (ls : Array Slot), va_P D vwCl (kX8 cs a (.ref (nn 0)) M) H → va_D A (kX8 cs a (.ref (nn 0)) M) → va_S A s.heap H locs → lv_has ls 4 [(0, .ref (a 0)), (1, .int y1), (2, .int y2)] → k149 y1 y2 M = some (r0, Mz) → W p l e rmX8_comes_q s m [.ref (a 0)].toArray below meth c H locs 0 0 Q (F0 m 149 ls [])) → ∀ (y1 : Int32) (y2 : Int32) (M : ST) (H : Heap) (locs : List Loc) (ls : Array Slot), va_P D vwCl (kX8 cs a (.ref (nn 0)) M) H → va_D A (kX8 cs a (.ref (nn 0)) M) → va_S A s.heap H locs → lv_has ls 4 [(0, .ref (a 0)), (1, .int y1), (2, .int y2)] → fX8_comes_q_149_s k149 y1 y2 M = some (r0, Mz) → W p l e rmX8_comes_q s m [.ref (a 0)].toArray below meth c H locs 0 0 Q (F0 m 149 ls []) := by
    intro k149 hk149 y1 y2 M H locs ls hP hD hS hl hf
    unfold fX8_comes_q_149_s at hf
    refine lv_iload_n hx hb dX8_comes_149 rfl (lv_at hl 2 rfl) ?_
    refine lv_aload_n hx hb dX8_comes_150 rfl (lv_at hl 0 rfl) ?_
    refine va_get (D := D) (ci := 8) (v := .ref (a 1)) (C := RX8) (T := TX8) (N := 26) hx hb hu inX8 hown hK.1 hP 0 rfl rfl 0 (by decide) (hu _ q917) (fun _ h9 => h9) rfl dX8_comes_151 ?_
    refine lv_iconst (v := 4) hx hb dX8_comes_154 (by decide) ?_
    refine ia_lit hx hb hK hP 1 4 rfl (by decide) dX8_comes_155 ?_
    refine lv_icmp_ge (tgt := 214) hx hb dX8_comes_156 (by decide) (fun hc10 => ?_) (fun hc10 => ?_)
    · have hf := ip_el hc10 hf
      refine lv_iload_n hx hb dX8_comes_214 rfl (lv_at hl 1 rfl) ?_
      have he := Option.some.inj hf
      obtain ⟨e0, e1⟩ := Prod.mk.inj he
      exact hri _ _ _ rfl (congrArg (fun z => some (Value.int z)) e0.symm) dX8_comes_215 _ _ _ (by rw [e1]) hP hD hS
    · have hf := in_el hc10 hf
      refine lv_aload_n hx hb dX8_comes_159 rfl (lv_at hl 0 rfl) ?_
      refine va_get (D := D) (ci := 8) (v := .ref (a 1)) (C := RX8) (T := TX8) (N := 26) hx hb hu inX8 hown hK.1 hP 0 rfl rfl 0 (by decide) (hu _ q917) (fun _ h9 => h9) rfl dX8_comes_160 ?_
      refine lv_bipush (v := 10) hx hb dX8_comes_163 (by decide) ?_
      refine lv_iload_n hx hb dX8_comes_165 rfl (lv_at hl 2 rfl) ?_
      refine lv_iadd hx hb dX8_comes_166 ?_
      refine lv_aload_n hx hb dX8_comes_167 rfl (lv_at hl 0 rfl) ?_
      refine va_get (D := D) (ci := 8) (v := .ref (a 1)) (C := RX8) (T := TX8) (N := 26) hx hb hu inX8 hown hK.1 hP 0 rfl rfl 0 (by decide) (hu _ q917) (fun _ h9 => h9) rfl dX8_comes_168 ?_
      refine lv_bipush (v := 8) hx hb dX8_comes_171 (by decide) ?_
      refine ia_lit hx hb hK hP 1 8 rfl (by decide) dX8_comes_173 ?_
      refine lv_iconst (v := 1) hx hb dX8_comes_174 (by decide) ?_
      refine lv_icmp_ne (tgt := 202) hx hb dX8_comes_175 (by decide) (fun hc11 => ?_) (fun hc11 => ?_)
      · have hf := in_el hc11 hf
        exact h202 k149 hk149 y1 y2 (10 + y2) M _ _ _ hP hD hS (lv_sub hl [0, 1, 2] rfl) hf
      · have hf := ip_el hc11 hf
        refine lv_aload_n hx hb dX8_comes_178 rfl (lv_at hl 0 rfl) ?_
        refine va_get (D := D) (ci := 8) (v := .ref (a 1)) (C := RX8) (T := TX8) (N := 26) hx hb hu inX8 hown hK.1 hP 0 rfl rfl 0 (by decide) (hu _ q917) (fun _ h9 => h9) rfl dX8_comes_179 ?_
        refine lv_bipush (v := 10) hx hb dX8_comes_182 (by decide) ?_
        refine lv_iload_n hx hb dX8_comes_184 rfl (lv_at hl 2 rfl) ?_
        refine lv_iadd hx hb dX8_comes_185 ?_
        obtain ⟨hi18, hf⟩ := ck_el hf
        refine va_iald hx hb hK.1 hP 1 0 rfl rfl hi18 dX8_comes_186 ?_
        refine lv_if_lt (tgt := 202) hx hb dX8_comes_187 (by decide) (fun hc19 => ?_) (fun hc19 => ?_)
        · have hf := ip_el hc19 hf
          exact h202 k149 hk149 y1 y2 (10 + y2) M _ _ _ hP hD hS (lv_sub hl [0, 1, 2] rfl) hf
        · have hf := in_el hc19 hf
          refine lv_aload_n hx hb dX8_comes_190 rfl (lv_at hl 0 rfl) ?_
          refine va_get (D := D) (ci := 8) (v := .ref (a 1)) (C := RX8) (T := TX8) (N := 26) hx hb hu inX8 hown hK.1 hP 0 rfl rfl 0 (by decide) (hu _ q917) (fun _ h9 => h9) rfl dX8_comes_191 ?_
          refine lv_bipush (v := 10) hx hb dX8_comes_194 (by decide) ?_
          refine lv_iload_n hx hb dX8_comes_196 rfl (lv_at hl 2 rfl) ?_
          refine lv_iadd hx hb dX8_comes_197 ?_
          obtain ⟨hi20, hf⟩ := ck_el hf
          refine va_iald hx hb hK.1 hP 1 0 rfl rfl hi20 dX8_comes_198 ?_
          refine lv_goto (tgt := 207) hx hb dX8_comes_199 (by decide) ?_
          obtain ⟨hi21, hf⟩ := ck_el hf
          obtain ⟨M_22, hM_22, hf⟩ := lt_el hf
          refine va_iast hx hb hK.1 hP hD hS 1 0 rfl rfl hi21 dX8_comes_207 (fun H locs hP hD hS => ?_)
          have hP : va_P D vwCl (kX8 cs a (.ref (nn 0)) M_22) H := by rw [hM_22]; exact hP
          have hD : va_D A (kX8 cs a (.ref (nn 0)) M_22) := by rw [hM_22]; exact hD
          obtain ⟨v23, hv23, hf⟩ := lt_el hf
          refine lv_iinc (v := v23) (lv' := [(2, .int v23), (0, .ref (a 0)), (1, .int y1)]) hx hb dX8_comes_208 hl (k := 2) rfl (by rw [hv23]; rfl) (by decide) rfl (fun ls hl => ?_)
          refine lv_goto (tgt := 149) hx hb dX8_comes_211 (by decide) ?_
          exact hk149 y1 v23 M_22 _ _ _ hP hD hS (lv_sub hl [1, 2, 0] rfl) hf
  have h149 : ∀ (n : Nat), ∀ (y1 : Int32) (y2 : Int32) (M : ST) (H : Heap) (locs : List Loc) (ls : Array Slot), va_P D vwCl (kX8 cs a (.ref (nn 0)) M) H → va_D A (kX8 cs a (.ref (nn 0)) M) → va_S A s.heap H locs → lv_has ls 4 [(0, .ref (a 0)), (1, .int y1), (2, .int y2)] → fX8_comes_q_149 n y1 y2 M = some (r0, Mz) → W p l e rmX8_comes_q s m [.ref (a 0)].toArray below meth c H locs 0 0 Q (F0 m 149 ls []) := by
    intro n
    induction n with
    | zero => intro y1 y2 M H locs ls hP hD hS hl hf; exact no_el hf
    | succ n ih => intro y1 y2 M H locs ls hP hD hS hl hf; exact hs149 _ ih y1 y2 M _ _ _ hP hD hS hl hf
  have h89 : ∀ (y1 : Int32) (M : ST) (H : Heap) (locs : List Loc) (ls : Array Slot), va_P D vwCl (kX8 cs a (.ref (nn 0)) M) H → va_D A (kX8 cs a (.ref (nn 0)) M) → va_S A s.heap H locs → lv_has ls 4 [(0, .ref (a 0)), (1, .int y1)] → fX8_comes_q_89 y1 M = some (r0, Mz) → W p l e rmX8_comes_q s m [.ref (a 0)].toArray below meth c H locs 0 0 Q (F0 m 89 ls []) := by
    intro y1 M H locs ls hP hD hS hl hf
    unfold fX8_comes_q_89 at hf
    refine lv_aload_n hx hb dX8_comes_89 rfl (lv_at hl 0 rfl) ?_
    refine va_get (D := D) (ci := 8) (v := .ref (a 1)) (C := RX8) (T := TX8) (N := 26) hx hb hu inX8 hown hK.1 hP 0 rfl rfl 0 (by decide) (hu _ q917) (fun _ h9 => h9) rfl dX8_comes_90 ?_
    refine lv_iconst (v := 1) hx hb dX8_comes_93 (by decide) ?_
    refine lv_iload_n hx hb dX8_comes_94 rfl (lv_at hl 1 rfl) ?_
    obtain ⟨M_2, hM_2, hf⟩ := lt_el hf
    refine is_lit hx hb hK hP hD hS 1 1 rfl (by decide) dX8_comes_95 (fun H locs hP hD hS => ?_)
    have hP : va_P D vwCl (kX8 cs a (.ref (nn 0)) M_2) H := by rw [hM_2]; exact hP
    have hD : va_D A (kX8 cs a (.ref (nn 0)) M_2) := by rw [hM_2]; exact hD
    refine lv_aload_n hx hb dX8_comes_96 rfl (lv_at hl 0 rfl) ?_
    refine va_get (D := D) (ci := 8) (v := .ref (a 1)) (C := RX8) (T := TX8) (N := 26) hx hb hu inX8 hown hK.1 hP 0 rfl rfl 0 (by decide) (hu _ q917) (fun _ h9 => h9) rfl dX8_comes_97 ?_
    refine lv_iconst (v := 2) hx hb dX8_comes_100 (by decide) ?_
    refine lv_iconst (v := 0) hx hb dX8_comes_101 (by decide) ?_
    obtain ⟨M_3, hM_3, hf⟩ := lt_el hf
    refine is_lit hx hb hK hP hD hS 1 2 rfl (by decide) dX8_comes_102 (fun H locs hP hD hS => ?_)
    have hP : va_P D vwCl (kX8 cs a (.ref (nn 0)) M_3) H := by rw [hM_3]; exact hP
    have hD : va_D A (kX8 cs a (.ref (nn 0)) M_3) := by rw [hM_3]; exact hD
    refine lv_iload_n hx hb dX8_comes_103 rfl (lv_at hl 1 rfl) ?_
    refine lv_if_lt (tgt := 214) hx hb dX8_comes_104 (by decide) (fun hc4 => ?_) (fun hc4 => ?_)
    · have hf := ip_el hc4 hf
      refine lv_iload_n hx hb dX8_comes_214 rfl (lv_at hl 1 rfl) ?_
      have he := Option.some.inj hf
      obtain ⟨e0, e1⟩ := Prod.mk.inj he
      exact hri _ _ _ rfl (congrArg (fun z => some (Value.int z)) e0.symm) dX8_comes_215 _ _ _ (by rw [e1]) hP hD hS
    · have hf := in_el hc4 hf
      refine lv_aload_n hx hb dX8_comes_107 rfl (lv_at hl 0 rfl) ?_
      refine va_get (D := D) (ci := 8) (v := .ref (a 1)) (C := RX8) (T := TX8) (N := 26) hx hb hu inX8 hown hK.1 hP 0 rfl rfl 0 (by decide) (hu _ q917) (fun _ h9 => h9) rfl dX8_comes_108 ?_
      refine lv_bipush (v := 14) hx hb dX8_comes_111 (by decide) ?_
      refine lv_bipush (v := 6) hx hb dX8_comes_113 (by decide) ?_
      refine lv_iload_n hx hb dX8_comes_115 rfl (lv_at hl 1 rfl) ?_
      refine lv_imul hx hb dX8_comes_116 ?_
      refine lv_iadd hx hb dX8_comes_117 ?_
      refine lv_iconst (v := 4) hx hb dX8_comes_118 (by decide) ?_
      refine lv_iadd hx hb dX8_comes_119 ?_
      refine lv_dup2_11 hx hb dX8_comes_120 rfl rfl ?_
      obtain ⟨hi5, hf⟩ := ck_el hf
      refine va_iald hx hb hK.1 hP 1 0 rfl rfl hi5 dX8_comes_121 ?_
      refine lv_iconst (v := 1) hx hb dX8_comes_122 (by decide) ?_
      refine lv_iadd hx hb dX8_comes_123 ?_
      obtain ⟨hi6, hf⟩ := ck_el hf
      obtain ⟨M_7, hM_7, hf⟩ := lt_el hf
      refine va_iast hx hb hK.1 hP hD hS 1 0 rfl rfl hi6 dX8_comes_124 (fun H locs hP hD hS => ?_)
      have hP : va_P D vwCl (kX8 cs a (.ref (nn 0)) M_7) H := by rw [hM_7]; exact hP
      have hD : va_D A (kX8 cs a (.ref (nn 0)) M_7) := by rw [hM_7]; exact hD
      refine lv_aload_n hx hb dX8_comes_125 rfl (lv_at hl 0 rfl) ?_
      refine va_get (D := D) (ci := 8) (v := .ref (a 1)) (C := RX8) (T := TX8) (N := 26) hx hb hu inX8 hown hK.1 hP 0 rfl rfl 0 (by decide) (hu _ q917) (fun _ h9 => h9) rfl dX8_comes_126 ?_
      refine lv_bipush (v := 8) hx hb dX8_comes_129 (by decide) ?_
      refine ia_lit hx hb hK hP 1 8 rfl (by decide) dX8_comes_131 ?_
      refine lv_iconst (v := 1) hx hb dX8_comes_132 (by decide) ?_
      refine lv_icmp_ne (tgt := 140) hx hb dX8_comes_133 (by decide) (fun hc8 => ?_) (fun hc8 => ?_)
      · have hf := in_el hc8 hf
        refine lv_aload_n hx hb dX8_comes_140 rfl (lv_at hl 0 rfl) ?_
        refine va_get (D := D) (ci := 8) (v := .ref (a 1)) (C := RX8) (T := TX8) (N := 26) hx hb hu inX8 hown hK.1 hP 0 rfl rfl 0 (by decide) (hu _ q917) (fun _ h9 => h9) rfl dX8_comes_141 ?_
        refine lv_iconst (v := 4) hx hb dX8_comes_144 (by decide) ?_
        refine ia_lit hx hb hK hP 1 4 rfl (by decide) dX8_comes_145 ?_
        refine lv_iconst (v := 1) hx hb dX8_comes_146 (by decide) ?_
        refine lv_isub hx hb dX8_comes_147 ?_
        obtain ⟨v9, hv9, hf⟩ := lt_el hf
        refine lv_tope hv9 ?_
        refine lv_istore_n (lv' := [(2, .int v9), (0, .ref (a 0)), (1, .int y1)]) hx hb dX8_comes_148 rfl hl (by decide) rfl (fun ls hl => ?_)
        exact h149 400 y1 v9 M_7 _ _ _ hP hD hS (lv_sub hl [1, 2, 0] rfl) hf
      · have hf := ip_el hc8 hf
        refine lv_iconst (v := 0) hx hb dX8_comes_136 (by decide) ?_
        refine lv_goto (tgt := 148) hx hb dX8_comes_137 (by decide) ?_
        refine lv_istore_n (lv' := [(2, .int 0), (0, .ref (a 0)), (1, .int y1)]) hx hb dX8_comes_148 rfl hl (by decide) rfl (fun ls hl => ?_)
        exact h149 400 y1 0 M_7 _ _ _ hP hD hS (lv_sub hl [1, 2, 0] rfl) hf
  have hs42 : ∀ (k4 : Int32 → Int32 → ST → Option (Int32 × ST)), (∀ (y1 : Int32) (y2 : Int32) (M : ST) (H : Heap) (locs : List Loc) (ls : Array Slot), va_P D vwCl (kX8 cs a (.ref (nn 0)) M) H → va_D A (kX8 cs a (.ref (nn 0)) M) → va_S A s.heap H locs → lv_has ls 4 [(0, .ref (a 0)), (1, .int y1), (2, .int y2)] → k4 y1 y2 M = some (r0, Mz) → W p l e rmX8_comes_q s m [.ref (a 0)].toArray below meth c H locs 0 0 Q (F0 m 4 ls [])) → ∀ (k42 : Int32 → Int32 → Int32 → ST → Option (Int32 × ST)), (∀ (y1 : Int32) (y2 : Int32) (y3 : Int32) (M : ST) (H : Heap) (locs : List Loc) (ls : Array Slot), va_P D vwCl (kX8 cs a (.ref (nn 0)) M) H → va_D A (kX8 cs a (.ref (nn 0)) M) → va_S A s.heap H locs → lv_has ls 4 [(0, .ref (a 0)), (1, .int y1), (2, .int y2), (3, .int y3)] → k42 y1 y2 y3 M = some (r0, Mz) → W p l e rmX8_comes_q s m [.ref (a 0)].toArray below meth c H locs 0 0 Q (F0 m 42 ls [])) → ∀ (y1 : Int32) (y2 : Int32) (y3 : Int32) (M : ST) (H : Heap) (locs : List Loc) (ls : Array Slot), va_P D vwCl (kX8 cs a (.ref (nn 0)) M) H → va_D A (kX8 cs a (.ref (nn 0)) M) → va_S A s.heap H locs → lv_has ls 4 [(0, .ref (a 0)), (1, .int y1), (2, .int y2), (3, .int y3)] → fX8_comes_q_42_s k4 k42 y1 y2 y3 M = some (r0, Mz) → W p l e rmX8_comes_q s m [.ref (a 0)].toArray below meth c H locs 0 0 Q (F0 m 42 ls []) := by
    intro k4 hk4 k42 hk42 y1 y2 y3 M H locs ls hP hD hS hl hf
    unfold fX8_comes_q_42_s at hf
    refine lv_iload_n hx hb dX8_comes_42 rfl (lv_at hl 3 rfl) ?_
    refine lv_iconst (v := 1) hx hb dX8_comes_43 (by decide) ?_
    refine lv_iadd hx hb dX8_comes_44 ?_
    refine lv_iconst (v := 4) hx hb dX8_comes_45 (by decide) ?_
    refine lv_icmp_ge (tgt := 75) hx hb dX8_comes_46 (by decide) (fun hc27 => ?_) (fun hc27 => ?_)
    · have hf := ip_el hc27 hf
      refine lv_aload_n hx hb dX8_comes_75 rfl (lv_at hl 0 rfl) ?_
      refine va_get (D := D) (ci := 8) (v := .ref (a 1)) (C := RX8) (T := TX8) (N := 26) hx hb hu inX8 hown hK.1 hP 0 rfl rfl 0 (by decide) (hu _ q917) (fun _ h9 => h9) rfl dX8_comes_76 ?_
      refine lv_bipush (v := 13) hx hb dX8_comes_79 (by decide) ?_
      refine lv_iconst (v := (-1)) hx hb dX8_comes_81 (by decide) ?_
      obtain ⟨M_28, hM_28, hf⟩ := lt_el hf
      refine is_lit hx hb hK hP hD hS 1 13 rfl (by decide) dX8_comes_82 (fun H locs hP hD hS => ?_)
      have hP : va_P D vwCl (kX8 cs a (.ref (nn 0)) M_28) H := by rw [hM_28]; exact hP
      have hD : va_D A (kX8 cs a (.ref (nn 0)) M_28) := by rw [hM_28]; exact hD
      obtain ⟨v29, hv29, hf⟩ := lt_el hf
      refine lv_iinc (v := v29) (lv' := [(2, .int v29), (0, .ref (a 0)), (1, .int y1), (3, .int y3)]) hx hb dX8_comes_83 hl (k := 2) rfl (by rw [hv29]; rfl) (by decide) rfl (fun ls hl => ?_)
      refine lv_goto (tgt := 4) hx hb dX8_comes_86 (by decide) ?_
      exact hk4 y1 v29 M_28 _ _ _ hP hD hS (lv_sub hl [1, 2, 0] rfl) hf
    · have hf := in_el hc27 hf
      refine lv_aload_n hx hb dX8_comes_49 rfl (lv_at hl 0 rfl) ?_
      refine va_get (D := D) (ci := 8) (v := .ref (a 1)) (C := RX8) (T := TX8) (N := 26) hx hb hu inX8 hown hK.1 hP 0 rfl rfl 0 (by decide) (hu _ q917) (fun _ h9 => h9) rfl dX8_comes_50 ?_
      refine lv_bipush (v := 10) hx hb dX8_comes_53 (by decide) ?_
      refine lv_iload_n hx hb dX8_comes_55 rfl (lv_at hl 3 rfl) ?_
      refine lv_iadd hx hb dX8_comes_56 ?_
      refine lv_aload_n hx hb dX8_comes_57 rfl (lv_at hl 0 rfl) ?_
      refine va_get (D := D) (ci := 8) (v := .ref (a 1)) (C := RX8) (T := TX8) (N := 26) hx hb hu inX8 hown hK.1 hP 0 rfl rfl 0 (by decide) (hu _ q917) (fun _ h9 => h9) rfl dX8_comes_58 ?_
      refine lv_bipush (v := 10) hx hb dX8_comes_61 (by decide) ?_
      refine lv_iload_n hx hb dX8_comes_63 rfl (lv_at hl 3 rfl) ?_
      refine lv_iadd hx hb dX8_comes_64 ?_
      refine lv_iconst (v := 1) hx hb dX8_comes_65 (by decide) ?_
      refine lv_iadd hx hb dX8_comes_66 ?_
      obtain ⟨hi30, hf⟩ := ck_el hf
      refine va_iald hx hb hK.1 hP 1 0 rfl rfl hi30 dX8_comes_67 ?_
      obtain ⟨hi31, hf⟩ := ck_el hf
      obtain ⟨M_32, hM_32, hf⟩ := lt_el hf
      refine va_iast hx hb hK.1 hP hD hS 1 0 rfl rfl hi31 dX8_comes_68 (fun H locs hP hD hS => ?_)
      have hP : va_P D vwCl (kX8 cs a (.ref (nn 0)) M_32) H := by rw [hM_32]; exact hP
      have hD : va_D A (kX8 cs a (.ref (nn 0)) M_32) := by rw [hM_32]; exact hD
      obtain ⟨v33, hv33, hf⟩ := lt_el hf
      refine lv_iinc (v := v33) (lv' := [(3, .int v33), (0, .ref (a 0)), (1, .int y1), (2, .int y2)]) hx hb dX8_comes_69 hl (k := 3) rfl (by rw [hv33]; rfl) (by decide) rfl (fun ls hl => ?_)
      refine lv_goto (tgt := 42) hx hb dX8_comes_72 (by decide) ?_
      exact hk42 y1 y2 v33 M_32 _ _ _ hP hD hS (lv_sub hl [1, 2, 3, 0] rfl) hf
  have h42 : ∀ (k4 : Int32 → Int32 → ST → Option (Int32 × ST)), (∀ (y1 : Int32) (y2 : Int32) (M : ST) (H : Heap) (locs : List Loc) (ls : Array Slot), va_P D vwCl (kX8 cs a (.ref (nn 0)) M) H → va_D A (kX8 cs a (.ref (nn 0)) M) → va_S A s.heap H locs → lv_has ls 4 [(0, .ref (a 0)), (1, .int y1), (2, .int y2)] → k4 y1 y2 M = some (r0, Mz) → W p l e rmX8_comes_q s m [.ref (a 0)].toArray below meth c H locs 0 0 Q (F0 m 4 ls [])) → ∀ (n : Nat), ∀ (y1 : Int32) (y2 : Int32) (y3 : Int32) (M : ST) (H : Heap) (locs : List Loc) (ls : Array Slot), va_P D vwCl (kX8 cs a (.ref (nn 0)) M) H → va_D A (kX8 cs a (.ref (nn 0)) M) → va_S A s.heap H locs → lv_has ls 4 [(0, .ref (a 0)), (1, .int y1), (2, .int y2), (3, .int y3)] → fX8_comes_q_42 k4 n y1 y2 y3 M = some (r0, Mz) → W p l e rmX8_comes_q s m [.ref (a 0)].toArray below meth c H locs 0 0 Q (F0 m 42 ls []) := by
    intro k4 hk4 n
    induction n with
    | zero => intro y1 y2 y3 M H locs ls hP hD hS hl hf; exact no_el hf
    | succ n ih => intro y1 y2 y3 M H locs ls hP hD hS hl hf; exact hs42 k4 hk4 _ ih y1 y2 y3 M _ _ _ hP hD hS hl hf
  have h32 : ∀ (k4 : Int32 → Int32 → ST → Option (Int32 × ST)), (∀ (y1 : Int32) (y2 : Int32) (M : ST) (H : Heap) (locs : List Loc) (ls : Array Slot), va_P D vwCl (kX8 cs a (.ref (nn 0)) M) H → va_D A (kX8 cs a (.ref (nn 0)) M) → va_S A s.heap H locs → lv_has ls 4 [(0, .ref (a 0)), (1, .int y1), (2, .int y2)] → k4 y1 y2 M = some (r0, Mz) → W p l e rmX8_comes_q s m [.ref (a 0)].toArray below meth c H locs 0 0 Q (F0 m 4 ls [])) → ∀ (y2 : Int32) (M : ST) (H : Heap) (locs : List Loc) (ls : Array Slot), va_P D vwCl (kX8 cs a (.ref (nn 0)) M) H → va_D A (kX8 cs a (.ref (nn 0)) M) → va_S A s.heap H locs → lv_has ls 4 [(0, .ref (a 0)), (2, .int y2)] → fX8_comes_q_32 k4 y2 M = some (r0, Mz) → W p l e rmX8_comes_q s m [.ref (a 0)].toArray below meth c H locs 0 0 Q (F0 m 32 ls []) := by
    intro k4 hk4 y2 M H locs ls hP hD hS hl hf
    unfold fX8_comes_q_32 at hf
    refine lv_aload_n hx hb dX8_comes_32 rfl (lv_at hl 0 rfl) ?_
    refine va_get (D := D) (ci := 8) (v := .ref (a 1)) (C := RX8) (T := TX8) (N := 26) hx hb hu inX8 hown hK.1 hP 0 rfl rfl 0 (by decide) (hu _ q917) (fun _ h9 => h9) rfl dX8_comes_33 ?_
    refine lv_bipush (v := 10) hx hb dX8_comes_36 (by decide) ?_
    refine ia_lit hx hb hK hP 1 10 rfl (by decide) dX8_comes_38 ?_
    obtain ⟨v26, hv26, hf⟩ := lt_el hf
    refine lv_tope hv26 ?_
    refine lv_istore_n (lv' := [(1, .int v26), (0, .ref (a 0)), (2, .int y2)]) hx hb dX8_comes_39 rfl hl (by decide) rfl (fun ls hl => ?_)
    refine lv_iconst (v := 0) hx hb dX8_comes_40 (by decide) ?_
    refine lv_istore_n (lv' := [(3, .int 0), (1, .int v26), (0, .ref (a 0)), (2, .int y2)]) hx hb dX8_comes_41 rfl hl (by decide) rfl (fun ls hl => ?_)
    exact h42 k4 hk4 400 v26 y2 0 M _ _ _ hP hD hS (lv_sub hl [2, 1, 3, 0] rfl) hf
  have hs4 : ∀ (k4 : Int32 → Int32 → ST → Option (Int32 × ST)), (∀ (y1 : Int32) (y2 : Int32) (M : ST) (H : Heap) (locs : List Loc) (ls : Array Slot), va_P D vwCl (kX8 cs a (.ref (nn 0)) M) H → va_D A (kX8 cs a (.ref (nn 0)) M) → va_S A s.heap H locs → lv_has ls 4 [(0, .ref (a 0)), (1, .int y1), (2, .int y2)] → k4 y1 y2 M = some (r0, Mz) → W p l e rmX8_comes_q s m [.ref (a 0)].toArray below meth c H locs 0 0 Q (F0 m 4 ls [])) → ∀ (y1 : Int32) (y2 : Int32) (M : ST) (H : Heap) (locs : List Loc) (ls : Array Slot), va_P D vwCl (kX8 cs a (.ref (nn 0)) M) H → va_D A (kX8 cs a (.ref (nn 0)) M) → va_S A s.heap H locs → lv_has ls 4 [(0, .ref (a 0)), (1, .int y1), (2, .int y2)] → fX8_comes_q_4_s k4 y1 y2 M = some (r0, Mz) → W p l e rmX8_comes_q s m [.ref (a 0)].toArray below meth c H locs 0 0 Q (F0 m 4 ls []) := by
    intro k4 hk4 y1 y2 M H locs ls hP hD hS hl hf
    unfold fX8_comes_q_4_s at hf
    refine lv_iload_n hx hb dX8_comes_4 rfl (lv_at hl 2 rfl) ?_
    refine lv_aload_n hx hb dX8_comes_5 rfl (lv_at hl 0 rfl) ?_
    refine va_get (D := D) (ci := 8) (v := .ref (a 1)) (C := RX8) (T := TX8) (N := 26) hx hb hu inX8 hown hK.1 hP 0 rfl rfl 0 (by decide) (hu _ q917) (fun _ h9 => h9) rfl dX8_comes_6 ?_
    refine lv_iconst (v := 4) hx hb dX8_comes_9 (by decide) ?_
    refine ia_lit hx hb hK hP 1 4 rfl (by decide) dX8_comes_10 ?_
    refine lv_icmp_ge (tgt := 89) hx hb dX8_comes_11 (by decide) (fun hc1 => ?_) (fun hc1 => ?_)
    · have hf := ip_el hc1 hf
      exact h89 y1 M _ _ _ hP hD hS (lv_sub hl [0, 1] rfl) hf
    · have hf := in_el hc1 hf
      refine lv_iload_n hx hb dX8_comes_14 rfl (lv_at hl 1 rfl) ?_
      refine lv_if_ge (tgt := 89) hx hb dX8_comes_15 (by decide) (fun hc24 => ?_) (fun hc24 => ?_)
      · have hf := ip_el hc24 hf
        exact h89 y1 M _ _ _ hP hD hS (lv_sub hl [0, 1] rfl) hf
      · have hf := in_el hc24 hf
        refine lv_iload_n hx hb dX8_comes_18 rfl (lv_at hl 2 rfl) ?_
        refine lv_if_eq (tgt := 32) hx hb dX8_comes_19 (by decide) (fun hc25 => ?_) (fun hc25 => ?_)
        · have hf := ip_el hc25 hf
          exact h32 k4 hk4 y2 M _ _ _ hP hD hS (lv_sub hl [0, 2] rfl) hf
        · have hf := in_el hc25 hf
          refine lv_aload_n hx hb dX8_comes_22 rfl (lv_at hl 0 rfl) ?_
          refine va_get (D := D) (ci := 8) (v := .ref (a 1)) (C := RX8) (T := TX8) (N := 26) hx hb hu inX8 hown hK.1 hP 0 rfl rfl 0 (by decide) (hu _ q917) (fun _ h9 => h9) rfl dX8_comes_23 ?_
          refine lv_bipush (v := 8) hx hb dX8_comes_26 (by decide) ?_
          refine ia_lit hx hb hK hP 1 8 rfl (by decide) dX8_comes_28 ?_
          refine lv_if_ne (tgt := 89) hx hb dX8_comes_29 (by decide) (fun hc34 => ?_) (fun hc34 => ?_)
          · have hf := in_el hc34 hf
            exact h89 y1 M _ _ _ hP hD hS (lv_sub hl [0, 1] rfl) hf
          · have hf := ip_el hc34 hf
            exact h32 k4 hk4 y2 M _ _ _ hP hD hS (lv_sub hl [0, 2] rfl) hf
  have h4 : ∀ (n : Nat), ∀ (y1 : Int32) (y2 : Int32) (M : ST) (H : Heap) (locs : List Loc) (ls : Array Slot), va_P D vwCl (kX8 cs a (.ref (nn 0)) M) H → va_D A (kX8 cs a (.ref (nn 0)) M) → va_S A s.heap H locs → lv_has ls 4 [(0, .ref (a 0)), (1, .int y1), (2, .int y2)] → fX8_comes_q_4 n y1 y2 M = some (r0, Mz) → W p l e rmX8_comes_q s m [.ref (a 0)].toArray below meth c H locs 0 0 Q (F0 m 4 ls []) := by
    intro n
    induction n with
    | zero => intro y1 y2 M H locs ls hP hD hS hl hf; exact no_el hf
    | succ n ih => intro y1 y2 M H locs ls hP hD hS hl hf; exact hs4 _ ih y1 y2 M _ _ _ hP hD hS hl hf
  have hl : lv_has ls0 4 [(0, .ref (a 0))] := hl0
  have hP := hP0
  have hD := hD0
  have hS := hS0
  unfold fX8_comes_q at hf
  refine lv_iconst (v := (-1)) hx hb dX8_comes_0 (by decide) ?_
  refine lv_istore_n (lv' := [(1, .int (-1)), (0, .ref (a 0))]) hx hb dX8_comes_1 rfl hl (by decide) rfl (fun ls hl => ?_)
  refine lv_iconst (v := 0) hx hb dX8_comes_2 (by decide) ?_
  refine lv_istore_n (lv' := [(2, .int 0), (1, .int (-1)), (0, .ref (a 0))]) hx hb dX8_comes_3 rfl hl (by decide) rfl (fun ls hl => ?_)
  exact h4 400 (-1) 0 M _ _ _ hP hD hS (lv_sub hl [2, 1, 0] rfl) hf

def fX8_followsBy_115_s (k115 : Int32 → Int32 → ST → Option (Int32 × ST)) (y3 : Int32) (y4 : Int32) (M : ST) : Option (Int32 × ST) :=
  (if 74 ≤ y4 then some (y3, M) else dc_ck y4 74 (dc_ck y4 271 (dc_lt (sti M 1 (Int32.toNatClampNeg y4) (M 12 (Int32.toNatClampNeg y4))) (fun M_10 => dc_lt (y4 + 1) (fun v11 => k115 y3 v11 M_10)))))
def fX8_followsBy_115 : Nat → Int32 → Int32 → ST → Option (Int32 × ST)
  | 0 => fun _ _ _ => none
  | n + 1 => fX8_followsBy_115_s (fX8_followsBy_115 n)
def fX8_followsBy_53_s (k53 : Int32 → Int32 → Int32 → ST → Option (Int32 × ST)) (y1 : Int32) (y3 : Int32) (y4 : Int32) (M : ST) : Option (Int32 × ST) :=
  (if ((M 12 4) + 2) ≤ y4 then dc_lt (sti M 0 12 0) (fun M_6 => fX8_followsBy_115 400 y3 0 M_6) else dc_b2 (fX8_comes_q M) (fun r12 M_13 => (if 0 ≤ r12 then dc_b1 (fX8_has0 r12 2 M_13) (fun r16 => dc_b1 (fX8_has0 y1 2 M_13) (fun r18 => dc_b1 (fX8_worthOf r16 r18 M_13) (fun r20 => dc_lt (y3 + r20) (fun v22 => dc_lt (y4 + 1) (fun v23 => k53 y1 v22 v23 M_13))))) else dc_lt (y3 + 0) (fun v24 => dc_lt (y4 + 1) (fun v25 => k53 y1 v24 v25 M_13)))))
def fX8_followsBy_53 : Nat → Int32 → Int32 → Int32 → ST → Option (Int32 × ST)
  | 0 => fun _ _ _ _ => none
  | n + 1 => fX8_followsBy_53_s (fX8_followsBy_53 n)
def fX8_followsBy_2_s (k2 : Int32 → Int32 → Int32 → ST → Option (Int32 × ST)) (y1 : Int32) (y2 : Int32) (y3 : Int32) (M : ST) : Option (Int32 × ST) :=
  (if 74 ≤ y3 then dc_lt (sti M 0 12 1) (fun M_2 => dc_ck ((10 + (M_2 1 4)) - 1) 271 (dc_lt (sti M_2 1 (Int32.toNatClampNeg ((10 + (M_2 1 4)) - 1)) y2) (fun M_4 => fX8_followsBy_53 400 y1 0 0 M_4))) else dc_ck y3 271 (dc_ck y3 74 (dc_lt (sti M 12 (Int32.toNatClampNeg y3) (M 1 (Int32.toNatClampNeg y3))) (fun M_28 => dc_lt (y3 + 1) (fun v29 => k2 y1 y2 v29 M_28)))))
def fX8_followsBy_2 : Nat → Int32 → Int32 → Int32 → ST → Option (Int32 × ST)
  | 0 => fun _ _ _ _ => none
  | n + 1 => fX8_followsBy_2_s (fX8_followsBy_2 n)
def fX8_followsBy (x1 : Int32) (x2 : Int32) (M : ST) : Option (Int32 × ST) :=
  fX8_followsBy_2 400 x1 x2 0 M
abbrev rmX8_followsBy : Room := { frames := 7, cells := 0, slots := 0, locals := 169 }
set_option maxRecDepth 100000 in
set_option maxHeartbeats 4000000 in
theorem tX8_followsBy (l : Launch) (D : va_G) (cs : Nat → ClassId) (a : Nat → Nat) (nn : Nat → Nat) (x1 : Int32) (x2 : Int32) (M : ST) (r0 : Int32) (Mz : ST) (hf : fX8_followsBy x1 x2 M = some (r0, Mz)) : CG l yX8_followsBy (wsm yX8_followsBy cX8_followsBy 6 (some .int)) rmX8_followsBy D cs [.ref (a 0), .int x1, .int x2] (some (.int r0)) (kX8 cs a (.ref (nn 0)) M) (kX8 cs a (.ref (nn 0)) Mz) := by
  refine CG.intro (by decide) (Nat.le_of_ble_eq_true rfl) ?_
  intro p e s m below meth c A Q hx hb hml hown hu hK hZ hP0 hD0 hS0 hA hri hrz hrl hrv hra ls0 hl0
  have hs115 : ∀ (k115 : Int32 → Int32 → ST → Option (Int32 × ST)), (∀ (y3 : Int32) (y4 : Int32) (M : ST) (H : Heap) (locs : List Loc) (ls : Array Slot), va_P D vwCl (kX8 cs a (.ref (nn 0)) M) H → va_D A (kX8 cs a (.ref (nn 0)) M) → va_S A s.heap H locs → lv_has ls 6 [(0, .ref (a 0)), (3, .int y3), (4, .int y4)] → k115 y3 y4 M = some (r0, Mz) → W p l e rmX8_followsBy s m [.ref (a 0), .int x1, .int x2].toArray below meth c H locs 0 0 Q (F0 m 115 ls [])) → ∀ (y3 : Int32) (y4 : Int32) (M : ST) (H : Heap) (locs : List Loc) (ls : Array Slot), va_P D vwCl (kX8 cs a (.ref (nn 0)) M) H → va_D A (kX8 cs a (.ref (nn 0)) M) → va_S A s.heap H locs → lv_has ls 6 [(0, .ref (a 0)), (3, .int y3), (4, .int y4)] → fX8_followsBy_115_s k115 y3 y4 M = some (r0, Mz) → W p l e rmX8_followsBy s m [.ref (a 0), .int x1, .int x2].toArray below meth c H locs 0 0 Q (F0 m 115 ls []) := by
    intro k115 hk115 y3 y4 M H locs ls hP hD hS hl hf
    unfold fX8_followsBy_115_s at hf
    refine lv_iload hx hb dX8_followsBy_115 (lv_at hl 2 rfl) ?_
    refine lv_bipush (v := 74) hx hb dX8_followsBy_117 (by decide) ?_
    refine lv_icmp_ge (tgt := 142) hx hb dX8_followsBy_119 (by decide) (fun hc7 => ?_) (fun hc7 => ?_)
    · have hf := ip_el hc7 hf
      refine lv_iload_n hx hb dX8_followsBy_142 rfl (lv_at hl 1 rfl) ?_
      have he := Option.some.inj hf
      obtain ⟨e0, e1⟩ := Prod.mk.inj he
      exact hri _ _ _ rfl (congrArg (fun z => some (Value.int z)) e0.symm) dX8_followsBy_143 _ _ _ (by rw [e1]) hP hD hS
    · have hf := in_el hc7 hf
      refine lv_aload_n hx hb dX8_followsBy_122 rfl (lv_at hl 0 rfl) ?_
      refine va_get (D := D) (ci := 8) (v := .ref (a 1)) (C := RX8) (T := TX8) (N := 26) hx hb hu inX8 hown hK.1 hP 0 rfl rfl 0 (by decide) (hu _ q917) (fun _ h9 => h9) rfl dX8_followsBy_123 ?_
      refine lv_iload hx hb dX8_followsBy_126 (lv_at hl 2 rfl) ?_
      refine lv_aload_n hx hb dX8_followsBy_128 rfl (lv_at hl 0 rfl) ?_
      refine va_get (D := D) (ci := 8) (v := .ref (a 12)) (C := RX8) (T := TX8) (N := 26) hx hb hu inX8 hown hK.1 hP 0 rfl rfl 11 (by decide) (hu _ q928) (fun _ h9 => h9) rfl dX8_followsBy_129 ?_
      refine lv_iload hx hb dX8_followsBy_132 (lv_at hl 2 rfl) ?_
      obtain ⟨hi8, hf⟩ := ck_el hf
      refine va_iald hx hb hK.1 hP 7 0 rfl rfl hi8 dX8_followsBy_134 ?_
      obtain ⟨hi9, hf⟩ := ck_el hf
      obtain ⟨M_10, hM_10, hf⟩ := lt_el hf
      refine va_iast hx hb hK.1 hP hD hS 1 0 rfl rfl hi9 dX8_followsBy_135 (fun H locs hP hD hS => ?_)
      have hP : va_P D vwCl (kX8 cs a (.ref (nn 0)) M_10) H := by rw [hM_10]; exact hP
      have hD : va_D A (kX8 cs a (.ref (nn 0)) M_10) := by rw [hM_10]; exact hD
      obtain ⟨v11, hv11, hf⟩ := lt_el hf
      refine lv_iinc (v := v11) (lv' := [(4, .int v11), (0, .ref (a 0)), (3, .int y3)]) hx hb dX8_followsBy_136 hl (k := 2) rfl (by rw [hv11]; rfl) (by decide) rfl (fun ls hl => ?_)
      refine lv_goto (tgt := 115) hx hb dX8_followsBy_139 (by decide) ?_
      exact hk115 y3 v11 M_10 _ _ _ hP hD hS (lv_sub hl [1, 2, 0] rfl) hf
  have h115 : ∀ (n : Nat), ∀ (y3 : Int32) (y4 : Int32) (M : ST) (H : Heap) (locs : List Loc) (ls : Array Slot), va_P D vwCl (kX8 cs a (.ref (nn 0)) M) H → va_D A (kX8 cs a (.ref (nn 0)) M) → va_S A s.heap H locs → lv_has ls 6 [(0, .ref (a 0)), (3, .int y3), (4, .int y4)] → fX8_followsBy_115 n y3 y4 M = some (r0, Mz) → W p l e rmX8_followsBy s m [.ref (a 0), .int x1, .int x2].toArray below meth c H locs 0 0 Q (F0 m 115 ls []) := by
    intro n
    induction n with
    | zero => intro y3 y4 M H locs ls hP hD hS hl hf; exact no_el hf
    | succ n ih => intro y3 y4 M H locs ls hP hD hS hl hf; exact hs115 _ ih y3 y4 M _ _ _ hP hD hS hl hf
  have hs53 : ∀ (k53 : Int32 → Int32 → Int32 → ST → Option (Int32 × ST)), (∀ (y1 : Int32) (y3 : Int32) (y4 : Int32) (M : ST) (H : Heap) (locs : List Loc) (ls : Array Slot), va_P D vwCl (kX8 cs a (.ref (nn 0)) M) H → va_D A (kX8 cs a (.ref (nn 0)) M) → va_S A s.heap H locs → lv_has ls 6 [(0, .ref (a 0)), (1, .int y1), (3, .int y3), (4, .int y4)] → k53 y1 y3 y4 M = some (r0, Mz) → W p l e rmX8_followsBy s m [.ref (a 0), .int x1, .int x2].toArray below meth c H locs 0 0 Q (F0 m 53 ls [])) → ∀ (y1 : Int32) (y3 : Int32) (y4 : Int32) (M : ST) (H : Heap) (locs : List Loc) (ls : Array Slot), va_P D vwCl (kX8 cs a (.ref (nn 0)) M) H → va_D A (kX8 cs a (.ref (nn 0)) M) → va_S A s.heap H locs → lv_has ls 6 [(0, .ref (a 0)), (1, .int y1), (3, .int y3), (4, .int y4)] → fX8_followsBy_53_s k53 y1 y3 y4 M = some (r0, Mz) → W p l e rmX8_followsBy s m [.ref (a 0), .int x1, .int x2].toArray below meth c H locs 0 0 Q (F0 m 53 ls []) := by
    intro k53 hk53 y1 y3 y4 M H locs ls hP hD hS hl hf
    unfold fX8_followsBy_53_s at hf
    refine lv_iload hx hb dX8_followsBy_53 (lv_at hl 3 rfl) ?_
    refine lv_aload_n hx hb dX8_followsBy_55 rfl (lv_at hl 0 rfl) ?_
    refine va_get (D := D) (ci := 8) (v := .ref (a 12)) (C := RX8) (T := TX8) (N := 26) hx hb hu inX8 hown hK.1 hP 0 rfl rfl 11 (by decide) (hu _ q928) (fun _ h9 => h9) rfl dX8_followsBy_56 ?_
    refine lv_iconst (v := 4) hx hb dX8_followsBy_59 (by decide) ?_
    refine ia_lit hx hb hK hP 7 4 rfl (by decide) dX8_followsBy_60 ?_
    refine lv_iconst (v := 2) hx hb dX8_followsBy_61 (by decide) ?_
    refine lv_iadd hx hb dX8_followsBy_62 ?_
    refine lv_icmp_ge (tgt := 107) hx hb dX8_followsBy_63 (by decide) (fun hc5 => ?_) (fun hc5 => ?_)
    · have hf := ip_el hc5 hf
      refine lv_aload_n hx hb dX8_followsBy_107 rfl (lv_at hl 0 rfl) ?_
      refine lv_iconst (v := 0) hx hb dX8_followsBy_108 (by decide) ?_
      obtain ⟨M_6, hM_6, hf⟩ := lt_el hf
      refine va_put (D := D) (ci := 8) (v := .int 0) (ty := .boolean) (C := RX8) (T := TX8) (N := 26) hx hb hu inX8 tyX8 tyX8_ok nmX8 hown hK.1 hP hD hS 0 rfl rfl 12 (by decide) (hu _ q929) (fun _ h9 => h9) rfl (by decide +kernel) rfl rfl (Nat.le_of_ble_eq_true rfl) dX8_followsBy_109 (fun H locs hP hD hS => ?_)
      have hP : va_P D vwCl (kX8 cs a (.ref (nn 0)) M_6) H := by rw [hM_6]; exact hP
      have hD : va_D A (kX8 cs a (.ref (nn 0)) M_6) := by rw [hM_6]; exact hD
      refine lv_iconst (v := 0) hx hb dX8_followsBy_112 (by decide) ?_
      refine lv_istore (lv' := [(4, .int 0), (0, .ref (a 0)), (1, .int y1), (3, .int y3)]) hx hb dX8_followsBy_113 hl (by decide) rfl (fun ls hl => ?_)
      exact h115 400 y3 0 M_6 _ _ _ hP hD hS (lv_sub hl [1, 3, 0] rfl) hf
    · have hf := in_el hc5 hf
      refine lv_aload_n hx hb dX8_followsBy_66 rfl (lv_at hl 0 rfl) ?_
      obtain ⟨r12, M_13, hg14, hf⟩ := b2_el hf
      refine cc_V1 (w' := (kX8 cs a (.ref (nn 0)) M_13)) (st1 := [.int r12]) [] hx hb hml hown hu (tX8_comes_q l D cs a nn M r12 M_13 hg14) q1081 q62 q1078 q1080 q34 pdX8_comes ⟨rfl, rfl, Nat.le_of_ble_eq_true rfl, Nat.le_of_ble_eq_true rfl⟩ hK hZ hP hD hS hA rfl rfl rfl rfl hl.1 rfl (Nat.le_of_ble_eq_true rfl) dX8_followsBy_67 rfl (fun H locs hP hD hS => ?_)
      refine lv_istore (lv' := [(5, .int r12), (0, .ref (a 0)), (1, .int y1), (3, .int y3), (4, .int y4)]) hx hb dX8_followsBy_70 hl (by decide) rfl (fun ls hl => ?_)
      refine lv_iload_n hx hb dX8_followsBy_72 rfl (lv_at hl 3 rfl) ?_
      refine lv_iload hx hb dX8_followsBy_73 (lv_at hl 0 rfl) ?_
      refine lv_if_ge (tgt := 82) hx hb dX8_followsBy_75 (by decide) (fun hc15 => ?_) (fun hc15 => ?_)
      · have hf := ip_el hc15 hf
        refine lv_aload_n hx hb dX8_followsBy_82 rfl (lv_at hl 1 rfl) ?_
        refine lv_aload_n hx hb dX8_followsBy_83 rfl (lv_at hl 1 rfl) ?_
        refine lv_iload hx hb dX8_followsBy_84 (lv_at hl 0 rfl) ?_
        refine lv_iconst (v := 2) hx hb dX8_followsBy_86 (by decide) ?_
        obtain ⟨r16, hg17, hf⟩ := b1_el hf
        refine cc_V1 (w' := (kX8 cs a (.ref (nn 0)) M_13)) (st1 := [.int r16, .ref (a 0), .int y3]) [.int r12, .int 2] hx hb hml hown hu (tX8_has0 l D cs a nn r12 2 M_13 r16 hg17) q1026 q62 q1023 q1025 q21 pdX8_has0 ⟨rfl, rfl, Nat.le_of_ble_eq_true rfl, Nat.le_of_ble_eq_true rfl⟩ hK hZ hP hD hS hA rfl rfl rfl rfl hl.1 rfl (Nat.le_of_ble_eq_true rfl) dX8_followsBy_87 rfl (fun H locs hP hD hS => ?_)
        refine lv_aload_n hx hb dX8_followsBy_90 rfl (lv_at hl 1 rfl) ?_
        refine lv_iload_n hx hb dX8_followsBy_91 rfl (lv_at hl 2 rfl) ?_
        refine lv_iconst (v := 2) hx hb dX8_followsBy_92 (by decide) ?_
        obtain ⟨r18, hg19, hf⟩ := b1_el hf
        refine cc_V1 (w' := (kX8 cs a (.ref (nn 0)) M_13)) (st1 := [.int r18, .int r16, .ref (a 0), .int y3]) [.int y1, .int 2] hx hb hml hown hu (tX8_has0 l D cs a nn y1 2 M_13 r18 hg19) q1026 q62 q1023 q1025 q21 pdX8_has0 ⟨rfl, rfl, Nat.le_of_ble_eq_true rfl, Nat.le_of_ble_eq_true rfl⟩ hK hZ hP hD hS hA rfl rfl rfl rfl hl.1 rfl (Nat.le_of_ble_eq_true rfl) dX8_followsBy_93 rfl (fun H locs hP hD hS => ?_)
        obtain ⟨r20, hg21, hf⟩ := b1_el hf
        refine cc_V1 (w' := (kX8 cs a (.ref (nn 0)) M_13)) (st1 := [.int r20, .int y3]) [.int r16, .int r18] hx hb hml hown hu (tX8_worthOf l D cs a nn r16 r18 M_13 r20 hg21) q1073 q62 q1070 q1072 q32 pdX8_worthOf ⟨rfl, rfl, Nat.le_of_ble_eq_true rfl, Nat.le_of_ble_eq_true rfl⟩ hK hZ hP hD hS hA rfl rfl rfl rfl hl.1 rfl (Nat.le_of_ble_eq_true rfl) dX8_followsBy_96 rfl (fun H locs hP hD hS => ?_)
        refine lv_iadd hx hb dX8_followsBy_99 ?_
        obtain ⟨v22, hv22, hf⟩ := lt_el hf
        refine lv_tope hv22 ?_
        refine lv_istore_n (lv' := [(3, .int v22), (5, .int r12), (0, .ref (a 0)), (1, .int y1), (4, .int y4)]) hx hb dX8_followsBy_100 rfl hl (by decide) rfl (fun ls hl => ?_)
        obtain ⟨v23, hv23, hf⟩ := lt_el hf
        refine lv_iinc (v := v23) (lv' := [(4, .int v23), (3, .int v22), (5, .int r12), (0, .ref (a 0)), (1, .int y1)]) hx hb dX8_followsBy_101 hl (k := 4) rfl (by rw [hv23]; rfl) (by decide) rfl (fun ls hl => ?_)
        refine lv_goto (tgt := 53) hx hb dX8_followsBy_104 (by decide) ?_
        exact hk53 y1 v22 v23 M_13 _ _ _ hP hD hS (lv_sub hl [3, 4, 1, 0] rfl) hf
      · have hf := in_el hc15 hf
        refine lv_iconst (v := 0) hx hb dX8_followsBy_78 (by decide) ?_
        refine lv_goto (tgt := 99) hx hb dX8_followsBy_79 (by decide) ?_
        refine lv_iadd hx hb dX8_followsBy_99 ?_
        obtain ⟨v24, hv24, hf⟩ := lt_el hf
        refine lv_tope hv24 ?_
        refine lv_istore_n (lv' := [(3, .int v24), (5, .int r12), (0, .ref (a 0)), (1, .int y1), (4, .int y4)]) hx hb dX8_followsBy_100 rfl hl (by decide) rfl (fun ls hl => ?_)
        obtain ⟨v25, hv25, hf⟩ := lt_el hf
        refine lv_iinc (v := v25) (lv' := [(4, .int v25), (3, .int v24), (5, .int r12), (0, .ref (a 0)), (1, .int y1)]) hx hb dX8_followsBy_101 hl (k := 4) rfl (by rw [hv25]; rfl) (by decide) rfl (fun ls hl => ?_)
        refine lv_goto (tgt := 53) hx hb dX8_followsBy_104 (by decide) ?_
        exact hk53 y1 v24 v25 M_13 _ _ _ hP hD hS (lv_sub hl [3, 4, 1, 0] rfl) hf
  have h53 : ∀ (n : Nat), ∀ (y1 : Int32) (y3 : Int32) (y4 : Int32) (M : ST) (H : Heap) (locs : List Loc) (ls : Array Slot), va_P D vwCl (kX8 cs a (.ref (nn 0)) M) H → va_D A (kX8 cs a (.ref (nn 0)) M) → va_S A s.heap H locs → lv_has ls 6 [(0, .ref (a 0)), (1, .int y1), (3, .int y3), (4, .int y4)] → fX8_followsBy_53 n y1 y3 y4 M = some (r0, Mz) → W p l e rmX8_followsBy s m [.ref (a 0), .int x1, .int x2].toArray below meth c H locs 0 0 Q (F0 m 53 ls []) := by
    intro n
    induction n with
    | zero => intro y1 y3 y4 M H locs ls hP hD hS hl hf; exact no_el hf
    | succ n ih => intro y1 y3 y4 M H locs ls hP hD hS hl hf; exact hs53 _ ih y1 y3 y4 M _ _ _ hP hD hS hl hf
  have hs2 : ∀ (k2 : Int32 → Int32 → Int32 → ST → Option (Int32 × ST)), (∀ (y1 : Int32) (y2 : Int32) (y3 : Int32) (M : ST) (H : Heap) (locs : List Loc) (ls : Array Slot), va_P D vwCl (kX8 cs a (.ref (nn 0)) M) H → va_D A (kX8 cs a (.ref (nn 0)) M) → va_S A s.heap H locs → lv_has ls 6 [(0, .ref (a 0)), (1, .int y1), (2, .int y2), (3, .int y3)] → k2 y1 y2 y3 M = some (r0, Mz) → W p l e rmX8_followsBy s m [.ref (a 0), .int x1, .int x2].toArray below meth c H locs 0 0 Q (F0 m 2 ls [])) → ∀ (y1 : Int32) (y2 : Int32) (y3 : Int32) (M : ST) (H : Heap) (locs : List Loc) (ls : Array Slot), va_P D vwCl (kX8 cs a (.ref (nn 0)) M) H → va_D A (kX8 cs a (.ref (nn 0)) M) → va_S A s.heap H locs → lv_has ls 6 [(0, .ref (a 0)), (1, .int y1), (2, .int y2), (3, .int y3)] → fX8_followsBy_2_s k2 y1 y2 y3 M = some (r0, Mz) → W p l e rmX8_followsBy s m [.ref (a 0), .int x1, .int x2].toArray below meth c H locs 0 0 Q (F0 m 2 ls []) := by
    intro k2 hk2 y1 y2 y3 M H locs ls hP hD hS hl hf
    unfold fX8_followsBy_2_s at hf
    refine lv_iload_n hx hb dX8_followsBy_2 rfl (lv_at hl 3 rfl) ?_
    refine lv_bipush (v := 74) hx hb dX8_followsBy_3 (by decide) ?_
    refine lv_icmp_ge (tgt := 26) hx hb dX8_followsBy_5 (by decide) (fun hc1 => ?_) (fun hc1 => ?_)
    · have hf := ip_el hc1 hf
      refine lv_aload_n hx hb dX8_followsBy_26 rfl (lv_at hl 0 rfl) ?_
      refine lv_iconst (v := 1) hx hb dX8_followsBy_27 (by decide) ?_
      obtain ⟨M_2, hM_2, hf⟩ := lt_el hf
      refine va_put (D := D) (ci := 8) (v := .int 1) (ty := .boolean) (C := RX8) (T := TX8) (N := 26) hx hb hu inX8 tyX8 tyX8_ok nmX8 hown hK.1 hP hD hS 0 rfl rfl 12 (by decide) (hu _ q929) (fun _ h9 => h9) rfl (by decide +kernel) rfl rfl (Nat.le_of_ble_eq_true rfl) dX8_followsBy_28 (fun H locs hP hD hS => ?_)
      have hP : va_P D vwCl (kX8 cs a (.ref (nn 0)) M_2) H := by rw [hM_2]; exact hP
      have hD : va_D A (kX8 cs a (.ref (nn 0)) M_2) := by rw [hM_2]; exact hD
      refine lv_aload_n hx hb dX8_followsBy_31 rfl (lv_at hl 0 rfl) ?_
      refine va_get (D := D) (ci := 8) (v := .ref (a 1)) (C := RX8) (T := TX8) (N := 26) hx hb hu inX8 hown hK.1 hP 0 rfl rfl 0 (by decide) (hu _ q917) (fun _ h9 => h9) rfl dX8_followsBy_32 ?_
      refine lv_bipush (v := 10) hx hb dX8_followsBy_35 (by decide) ?_
      refine lv_aload_n hx hb dX8_followsBy_37 rfl (lv_at hl 0 rfl) ?_
      refine va_get (D := D) (ci := 8) (v := .ref (a 1)) (C := RX8) (T := TX8) (N := 26) hx hb hu inX8 hown hK.1 hP 0 rfl rfl 0 (by decide) (hu _ q917) (fun _ h9 => h9) rfl dX8_followsBy_38 ?_
      refine lv_iconst (v := 4) hx hb dX8_followsBy_41 (by decide) ?_
      refine ia_lit hx hb hK hP 1 4 rfl (by decide) dX8_followsBy_42 ?_
      refine lv_iadd hx hb dX8_followsBy_43 ?_
      refine lv_iconst (v := 1) hx hb dX8_followsBy_44 (by decide) ?_
      refine lv_isub hx hb dX8_followsBy_45 ?_
      refine lv_iload_n hx hb dX8_followsBy_46 rfl (lv_at hl 2 rfl) ?_
      obtain ⟨hi3, hf⟩ := ck_el hf
      obtain ⟨M_4, hM_4, hf⟩ := lt_el hf
      refine va_iast hx hb hK.1 hP hD hS 1 0 rfl rfl hi3 dX8_followsBy_47 (fun H locs hP hD hS => ?_)
      have hP : va_P D vwCl (kX8 cs a (.ref (nn 0)) M_4) H := by rw [hM_4]; exact hP
      have hD : va_D A (kX8 cs a (.ref (nn 0)) M_4) := by rw [hM_4]; exact hD
      refine lv_iconst (v := 0) hx hb dX8_followsBy_48 (by decide) ?_
      refine lv_istore_n (lv' := [(3, .int 0), (0, .ref (a 0)), (1, .int y1), (2, .int y2)]) hx hb dX8_followsBy_49 rfl hl (by decide) rfl (fun ls hl => ?_)
      refine lv_iconst (v := 0) hx hb dX8_followsBy_50 (by decide) ?_
      refine lv_istore (lv' := [(4, .int 0), (3, .int 0), (0, .ref (a 0)), (1, .int y1), (2, .int y2)]) hx hb dX8_followsBy_51 hl (by decide) rfl (fun ls hl => ?_)
      exact h53 400 y1 0 0 M_4 _ _ _ hP hD hS (lv_sub hl [2, 3, 1, 0] rfl) hf
    · have hf := in_el hc1 hf
      refine lv_aload_n hx hb dX8_followsBy_8 rfl (lv_at hl 0 rfl) ?_
      refine va_get (D := D) (ci := 8) (v := .ref (a 12)) (C := RX8) (T := TX8) (N := 26) hx hb hu inX8 hown hK.1 hP 0 rfl rfl 11 (by decide) (hu _ q928) (fun _ h9 => h9) rfl dX8_followsBy_9 ?_
      refine lv_iload_n hx hb dX8_followsBy_12 rfl (lv_at hl 3 rfl) ?_
      refine lv_aload_n hx hb dX8_followsBy_13 rfl (lv_at hl 0 rfl) ?_
      refine va_get (D := D) (ci := 8) (v := .ref (a 1)) (C := RX8) (T := TX8) (N := 26) hx hb hu inX8 hown hK.1 hP 0 rfl rfl 0 (by decide) (hu _ q917) (fun _ h9 => h9) rfl dX8_followsBy_14 ?_
      refine lv_iload_n hx hb dX8_followsBy_17 rfl (lv_at hl 3 rfl) ?_
      obtain ⟨hi26, hf⟩ := ck_el hf
      refine va_iald hx hb hK.1 hP 1 0 rfl rfl hi26 dX8_followsBy_18 ?_
      obtain ⟨hi27, hf⟩ := ck_el hf
      obtain ⟨M_28, hM_28, hf⟩ := lt_el hf
      refine va_iast hx hb hK.1 hP hD hS 7 0 rfl rfl hi27 dX8_followsBy_19 (fun H locs hP hD hS => ?_)
      have hP : va_P D vwCl (kX8 cs a (.ref (nn 0)) M_28) H := by rw [hM_28]; exact hP
      have hD : va_D A (kX8 cs a (.ref (nn 0)) M_28) := by rw [hM_28]; exact hD
      obtain ⟨v29, hv29, hf⟩ := lt_el hf
      refine lv_iinc (v := v29) (lv' := [(3, .int v29), (0, .ref (a 0)), (1, .int y1), (2, .int y2)]) hx hb dX8_followsBy_20 hl (k := 3) rfl (by rw [hv29]; rfl) (by decide) rfl (fun ls hl => ?_)
      refine lv_goto (tgt := 2) hx hb dX8_followsBy_23 (by decide) ?_
      exact hk2 y1 y2 v29 M_28 _ _ _ hP hD hS (lv_sub hl [1, 2, 3, 0] rfl) hf
  have h2 : ∀ (n : Nat), ∀ (y1 : Int32) (y2 : Int32) (y3 : Int32) (M : ST) (H : Heap) (locs : List Loc) (ls : Array Slot), va_P D vwCl (kX8 cs a (.ref (nn 0)) M) H → va_D A (kX8 cs a (.ref (nn 0)) M) → va_S A s.heap H locs → lv_has ls 6 [(0, .ref (a 0)), (1, .int y1), (2, .int y2), (3, .int y3)] → fX8_followsBy_2 n y1 y2 y3 M = some (r0, Mz) → W p l e rmX8_followsBy s m [.ref (a 0), .int x1, .int x2].toArray below meth c H locs 0 0 Q (F0 m 2 ls []) := by
    intro n
    induction n with
    | zero => intro y1 y2 y3 M H locs ls hP hD hS hl hf; exact no_el hf
    | succ n ih => intro y1 y2 y3 M H locs ls hP hD hS hl hf; exact hs2 _ ih y1 y2 y3 M _ _ _ hP hD hS hl hf
  have hl : lv_has ls0 6 [(0, .ref (a 0)), (1, .int x1), (2, .int x2)] := hl0
  have hP := hP0
  have hD := hD0
  have hS := hS0
  unfold fX8_followsBy at hf
  refine lv_iconst (v := 0) hx hb dX8_followsBy_0 (by decide) ?_
  refine lv_istore_n (lv' := [(3, .int 0), (0, .ref (a 0)), (1, .int x1), (2, .int x2)]) hx hb dX8_followsBy_1 rfl hl (by decide) rfl (fun ls hl => ?_)
  exact h2 400 x1 x2 0 M _ _ _ hP hD hS (lv_sub hl [1, 2, 3, 0] rfl) hf

def fX8_valueBy_82 (y1 : Int32) (y2 : Int32) (M : ST) : Option (Int32 × ST) :=
  dc_b1 (fX8_likesOf y1 y2 M) (fun r15 => some (r15, M))
def fX8_valueBy (x1 : Int32) (x2 : Int32) (x3 : Int32) (M : ST) : Option (Int32 × ST) :=
  (if x3 = 1 then dc_b1 (fX8_firstNamed M) (fun r2 => dc_b1 (fX8_likesOf r2 x2 M) (fun r4 => some (r4, M))) else if x3 = 2 then dc_b1 (fX8_firstNamed M) (fun r7 => dc_b1 (fX8_likesOf r7 x2 M) (fun r9 => some ((-r9), M))) else if x3 = 3 then dc_b1 (fX8_has0 x2 1 M) (fun r12 => some (r12, M)) else if x3 = 4 then fX8_valueBy_82 x1 x2 M else if x3 = 5 then dc_b2 (fX8_givenBy x1 x2 M) (fun r18 M_19 => some (r18, M_19)) else if x3 = 6 then dc_b2 (fX8_followsBy x1 x2 M) (fun r22 M_23 => some (r22, M_23)) else fX8_valueBy_82 x1 x2 M)
abbrev rmX8_valueBy : Room := { frames := 8, cells := 0, slots := 0, locals := 194 }
set_option maxRecDepth 100000 in
set_option maxHeartbeats 4000000 in
theorem tX8_valueBy (l : Launch) (D : va_G) (cs : Nat → ClassId) (a : Nat → Nat) (nn : Nat → Nat) (x1 : Int32) (x2 : Int32) (x3 : Int32) (M : ST) (r0 : Int32) (Mz : ST) (hf : fX8_valueBy x1 x2 x3 M = some (r0, Mz)) : CG l yX8_valueBy (wsm yX8_valueBy cX8_valueBy 4 (some .int)) rmX8_valueBy D cs [.ref (a 0), .int x1, .int x2, .int x3] (some (.int r0)) (kX8 cs a (.ref (nn 0)) M) (kX8 cs a (.ref (nn 0)) Mz) := by
  refine CG.intro (by decide) (Nat.le_of_ble_eq_true rfl) ?_
  intro p e s m below meth c A Q hx hb hml hown hu hK hZ hP0 hD0 hS0 hA hri hrz hrl hrv hra ls0 hl0
  have h82 : ∀ (y1 : Int32) (y2 : Int32) (M : ST) (H : Heap) (locs : List Loc) (ls : Array Slot), va_P D vwCl (kX8 cs a (.ref (nn 0)) M) H → va_D A (kX8 cs a (.ref (nn 0)) M) → va_S A s.heap H locs → lv_has ls 4 [(0, .ref (a 0)), (1, .int y1), (2, .int y2)] → fX8_valueBy_82 y1 y2 M = some (r0, Mz) → W p l e rmX8_valueBy s m [.ref (a 0), .int x1, .int x2, .int x3].toArray below meth c H locs 0 0 Q (F0 m 82 ls []) := by
    intro y1 y2 M H locs ls hP hD hS hl hf
    unfold fX8_valueBy_82 at hf
    refine lv_aload_n hx hb dX8_valueBy_82 rfl (lv_at hl 0 rfl) ?_
    refine lv_iload_n hx hb dX8_valueBy_83 rfl (lv_at hl 1 rfl) ?_
    refine lv_iload_n hx hb dX8_valueBy_84 rfl (lv_at hl 2 rfl) ?_
    obtain ⟨r15, hg16, hf⟩ := b1_el hf
    refine cc_V1 (w' := (kX8 cs a (.ref (nn 0)) M)) (st1 := [.int r15]) [.int y1, .int y2] hx hb hml hown hu (tX8_likesOf l D cs a nn y1 y2 M r15 hg16) q1058 q62 q1055 q1057 q29 pdX8_likesOf ⟨rfl, rfl, Nat.le_of_ble_eq_true rfl, Nat.le_of_ble_eq_true rfl⟩ hK hZ hP hD hS hA rfl rfl rfl rfl hl.1 rfl (Nat.le_of_ble_eq_true rfl) dX8_valueBy_85 rfl (fun H locs hP hD hS => ?_)
    have he := Option.some.inj hf
    obtain ⟨e0, e1⟩ := Prod.mk.inj he
    exact hri _ _ _ rfl (congrArg (fun z => some (Value.int z)) e0.symm) dX8_valueBy_88 _ _ _ (by rw [e1]) hP hD hS
  have hl : lv_has ls0 4 [(0, .ref (a 0)), (1, .int x1), (2, .int x2), (3, .int x3)] := hl0
  have hP := hP0
  have hD := hD0
  have hS := hS0
  unfold fX8_valueBy at hf
  refine lv_iload_n hx hb dX8_valueBy_0 rfl (lv_at hl 3 rfl) ?_
  by_cases hc1 : x3 = 1
  · have hf := ip_el hc1 hf
    refine lv_tableIn (off := 39) (tgt := 40) hx hb dX8_valueBy_1 (by rw [hc1]; decide) (by rw [hc1]; decide) (by rw [hc1]; decide) (by decide) ?_
    refine lv_aload_n hx hb dX8_valueBy_40 rfl (lv_at hl 0 rfl) ?_
    refine lv_aload_n hx hb dX8_valueBy_41 rfl (lv_at hl 0 rfl) ?_
    obtain ⟨r2, hg3, hf⟩ := b1_el hf
    refine cc_V1 (w' := (kX8 cs a (.ref (nn 0)) M)) (st1 := [.int r2, .ref (a 0)]) [] hx hb hml hown hu (tX8_firstNamed l D cs a nn M r2 hg3) q1046 q62 q1043 q1045 q26 pdX8_firstNamed ⟨rfl, rfl, Nat.le_of_ble_eq_true rfl, Nat.le_of_ble_eq_true rfl⟩ hK hZ hP hD hS hA rfl rfl rfl rfl hl.1 rfl (Nat.le_of_ble_eq_true rfl) dX8_valueBy_42 rfl (fun H locs hP hD hS => ?_)
    refine lv_iload_n hx hb dX8_valueBy_45 rfl (lv_at hl 2 rfl) ?_
    obtain ⟨r4, hg5, hf⟩ := b1_el hf
    refine cc_V1 (w' := (kX8 cs a (.ref (nn 0)) M)) (st1 := [.int r4]) [.int r2, .int x2] hx hb hml hown hu (tX8_likesOf l D cs a nn r2 x2 M r4 hg5) q1058 q62 q1055 q1057 q29 pdX8_likesOf ⟨rfl, rfl, Nat.le_of_ble_eq_true rfl, Nat.le_of_ble_eq_true rfl⟩ hK hZ hP hD hS hA rfl rfl rfl rfl hl.1 rfl (Nat.le_of_ble_eq_true rfl) dX8_valueBy_46 rfl (fun H locs hP hD hS => ?_)
    have he := Option.some.inj hf
    obtain ⟨e0, e1⟩ := Prod.mk.inj he
    exact hri _ _ _ rfl (congrArg (fun z => some (Value.int z)) e0.symm) dX8_valueBy_49 _ _ _ (by rw [e1]) hP hD hS
  have hf := in_el hc1 hf
  by_cases hc6 : x3 = 2
  · have hf := ip_el hc6 hf
    refine lv_tableIn (off := 49) (tgt := 50) hx hb dX8_valueBy_1 (by rw [hc6]; decide) (by rw [hc6]; decide) (by rw [hc6]; decide) (by decide) ?_
    refine lv_aload_n hx hb dX8_valueBy_50 rfl (lv_at hl 0 rfl) ?_
    refine lv_aload_n hx hb dX8_valueBy_51 rfl (lv_at hl 0 rfl) ?_
    obtain ⟨r7, hg8, hf⟩ := b1_el hf
    refine cc_V1 (w' := (kX8 cs a (.ref (nn 0)) M)) (st1 := [.int r7, .ref (a 0)]) [] hx hb hml hown hu (tX8_firstNamed l D cs a nn M r7 hg8) q1046 q62 q1043 q1045 q26 pdX8_firstNamed ⟨rfl, rfl, Nat.le_of_ble_eq_true rfl, Nat.le_of_ble_eq_true rfl⟩ hK hZ hP hD hS hA rfl rfl rfl rfl hl.1 rfl (Nat.le_of_ble_eq_true rfl) dX8_valueBy_52 rfl (fun H locs hP hD hS => ?_)
    refine lv_iload_n hx hb dX8_valueBy_55 rfl (lv_at hl 2 rfl) ?_
    obtain ⟨r9, hg10, hf⟩ := b1_el hf
    refine cc_V1 (w' := (kX8 cs a (.ref (nn 0)) M)) (st1 := [.int r9]) [.int r7, .int x2] hx hb hml hown hu (tX8_likesOf l D cs a nn r7 x2 M r9 hg10) q1058 q62 q1055 q1057 q29 pdX8_likesOf ⟨rfl, rfl, Nat.le_of_ble_eq_true rfl, Nat.le_of_ble_eq_true rfl⟩ hK hZ hP hD hS hA rfl rfl rfl rfl hl.1 rfl (Nat.le_of_ble_eq_true rfl) dX8_valueBy_56 rfl (fun H locs hP hD hS => ?_)
    refine lv_ineg hx hb dX8_valueBy_59 ?_
    have he := Option.some.inj hf
    obtain ⟨e0, e1⟩ := Prod.mk.inj he
    exact hri _ _ _ rfl (congrArg (fun z => some (Value.int z)) e0.symm) dX8_valueBy_60 _ _ _ (by rw [e1]) hP hD hS
  have hf := in_el hc6 hf
  by_cases hc11 : x3 = 3
  · have hf := ip_el hc11 hf
    refine lv_tableIn (off := 60) (tgt := 61) hx hb dX8_valueBy_1 (by rw [hc11]; decide) (by rw [hc11]; decide) (by rw [hc11]; decide) (by decide) ?_
    refine lv_aload_n hx hb dX8_valueBy_61 rfl (lv_at hl 0 rfl) ?_
    refine lv_iload_n hx hb dX8_valueBy_62 rfl (lv_at hl 2 rfl) ?_
    refine lv_iconst (v := 1) hx hb dX8_valueBy_63 (by decide) ?_
    obtain ⟨r12, hg13, hf⟩ := b1_el hf
    refine cc_V1 (w' := (kX8 cs a (.ref (nn 0)) M)) (st1 := [.int r12]) [.int x2, .int 1] hx hb hml hown hu (tX8_has0 l D cs a nn x2 1 M r12 hg13) q1026 q62 q1023 q1025 q21 pdX8_has0 ⟨rfl, rfl, Nat.le_of_ble_eq_true rfl, Nat.le_of_ble_eq_true rfl⟩ hK hZ hP hD hS hA rfl rfl rfl rfl hl.1 rfl (Nat.le_of_ble_eq_true rfl) dX8_valueBy_64 rfl (fun H locs hP hD hS => ?_)
    have he := Option.some.inj hf
    obtain ⟨e0, e1⟩ := Prod.mk.inj he
    exact hri _ _ _ rfl (congrArg (fun z => some (Value.int z)) e0.symm) dX8_valueBy_67 _ _ _ (by rw [e1]) hP hD hS
  have hf := in_el hc11 hf
  by_cases hc14 : x3 = 4
  · have hf := ip_el hc14 hf
    refine lv_tableIn (off := 81) (tgt := 82) hx hb dX8_valueBy_1 (by rw [hc14]; decide) (by rw [hc14]; decide) (by rw [hc14]; decide) (by decide) ?_
    exact h82 x1 x2 M _ _ _ hP hD hS (lv_sub hl [0, 1, 2] rfl) hf
  have hf := in_el hc14 hf
  by_cases hc17 : x3 = 5
  · have hf := ip_el hc17 hf
    refine lv_tableIn (off := 67) (tgt := 68) hx hb dX8_valueBy_1 (by rw [hc17]; decide) (by rw [hc17]; decide) (by rw [hc17]; decide) (by decide) ?_
    refine lv_aload_n hx hb dX8_valueBy_68 rfl (lv_at hl 0 rfl) ?_
    refine lv_iload_n hx hb dX8_valueBy_69 rfl (lv_at hl 1 rfl) ?_
    refine lv_iload_n hx hb dX8_valueBy_70 rfl (lv_at hl 2 rfl) ?_
    obtain ⟨r18, M_19, hg20, hf⟩ := b2_el hf
    refine cc_V1 (w' := (kX8 cs a (.ref (nn 0)) M_19)) (st1 := [.int r18]) [.int x1, .int x2] hx hb hml hown hu (tX8_givenBy l D cs a nn x1 x2 M r18 M_19 hg20) q1062 q62 q1059 q1061 q30 pdX8_givenBy ⟨rfl, rfl, Nat.le_of_ble_eq_true rfl, Nat.le_of_ble_eq_true rfl⟩ hK hZ hP hD hS hA rfl rfl rfl rfl hl.1 rfl (Nat.le_of_ble_eq_true rfl) dX8_valueBy_71 rfl (fun H locs hP hD hS => ?_)
    have he := Option.some.inj hf
    obtain ⟨e0, e1⟩ := Prod.mk.inj he
    exact hri _ _ _ rfl (congrArg (fun z => some (Value.int z)) e0.symm) dX8_valueBy_74 _ _ _ (by rw [e1]) hP hD hS
  have hf := in_el hc17 hf
  by_cases hc21 : x3 = 6
  · have hf := ip_el hc21 hf
    refine lv_tableIn (off := 74) (tgt := 75) hx hb dX8_valueBy_1 (by rw [hc21]; decide) (by rw [hc21]; decide) (by rw [hc21]; decide) (by decide) ?_
    refine lv_aload_n hx hb dX8_valueBy_75 rfl (lv_at hl 0 rfl) ?_
    refine lv_iload_n hx hb dX8_valueBy_76 rfl (lv_at hl 1 rfl) ?_
    refine lv_iload_n hx hb dX8_valueBy_77 rfl (lv_at hl 2 rfl) ?_
    obtain ⟨r22, M_23, hg24, hf⟩ := b2_el hf
    refine cc_V1 (w' := (kX8 cs a (.ref (nn 0)) M_23)) (st1 := [.int r22]) [.int x1, .int x2] hx hb hml hown hu (tX8_followsBy l D cs a nn x1 x2 M r22 M_23 hg24) q1077 q62 q1074 q1076 q33 pdX8_followsBy ⟨rfl, rfl, Nat.le_of_ble_eq_true rfl, Nat.le_of_ble_eq_true rfl⟩ hK hZ hP hD hS hA rfl rfl rfl rfl hl.1 rfl (Nat.le_of_ble_eq_true rfl) dX8_valueBy_78 rfl (fun H locs hP hD hS => ?_)
    have he := Option.some.inj hf
    obtain ⟨e0, e1⟩ := Prod.mk.inj he
    exact hri _ _ _ rfl (congrArg (fun z => some (Value.int z)) e0.symm) dX8_valueBy_81 _ _ _ (by rw [e1]) hP hD hS
  have hf := in_el hc21 hf
  have nhc1 := sw_ne (a := 1) hc1 (by decide)
  have nhc6 := sw_ne (a := 2) hc6 (by decide)
  have nhc11 := sw_ne (a := 3) hc11 (by decide)
  have nhc14 := sw_ne (a := 4) hc14 (by decide)
  have nhc17 := sw_ne (a := 5) hc17 (by decide)
  have nhc21 := sw_ne (a := 6) hc21 (by decide)
  refine lv_tableOut (tgt := 82) hx hb dX8_valueBy_1 (by omega) (by decide) ?_
  exact h82 x1 x2 M _ _ _ hP hD hS (lv_sub hl [0, 1, 2] rfl) hf

def fX8_bestBy_55 (k8 : Int32 → Int32 → Int32 → Int32 → Int32 → ST → Option (Int32 × ST)) (y1 : Int32) (y2 : Int32) (y3 : Int32) (y4 : Int32) (y5 : Int32) (s0 : Int32) (M : ST) : Option (Int32 × ST) :=
  (if s0 = 0 then dc_lt (y5 + 1) (fun v6 => k8 y1 y2 y3 y4 v6 M) else dc_b2 (fX8_valueBy y1 y5 y2 M) (fun r7 M_8 => (if y3 < 0 then dc_lt (y5 + 1) (fun v11 => k8 y1 y2 y5 r7 v11 M_8) else (if r7 ≤ y4 then dc_lt (y5 + 1) (fun v13 => k8 y1 y2 y3 y4 v13 M_8) else dc_lt (y5 + 1) (fun v14 => k8 y1 y2 y5 r7 v14 M_8)))))
def fX8_bestBy_8_s (k8 : Int32 → Int32 → Int32 → Int32 → Int32 → ST → Option (Int32 × ST)) (y1 : Int32) (y2 : Int32) (y3 : Int32) (y4 : Int32) (y5 : Int32) (M : ST) : Option (Int32 × ST) :=
  (if (M 1 0) ≤ y5 then some (y3, M) else dc_b1 (fX8_mayName y1 y5 M) (fun r2 => (if r2 = 0 then fX8_bestBy_55 k8 y1 y2 y3 y4 y5 0 M else (if y2 = 4 then dc_b1 (fX8_has0 y5 2 M) (fun r16 => dc_b1 (fX8_has0 y1 2 M) (fun r18 => (if r16 = r18 then fX8_bestBy_55 k8 y1 y2 y3 y4 y5 1 M else fX8_bestBy_55 k8 y1 y2 y3 y4 y5 0 M))) else fX8_bestBy_55 k8 y1 y2 y3 y4 y5 1 M))))
def fX8_bestBy_8 : Nat → Int32 → Int32 → Int32 → Int32 → Int32 → ST → Option (Int32 × ST)
  | 0 => fun _ _ _ _ _ _ => none
  | n + 1 => fX8_bestBy_8_s (fX8_bestBy_8 n)
def fX8_bestBy (x1 : Int32) (x2 : Int32) (M : ST) : Option (Int32 × ST) :=
  fX8_bestBy_8 400 x1 x2 (-1) 0 0 M
abbrev rmX8_bestBy : Room := { frames := 9, cells := 0, slots := 0, locals := 217 }
set_option maxRecDepth 100000 in
set_option maxHeartbeats 4000000 in
theorem tX8_bestBy (l : Launch) (D : va_G) (cs : Nat → ClassId) (a : Nat → Nat) (nn : Nat → Nat) (x1 : Int32) (x2 : Int32) (M : ST) (r0 : Int32) (Mz : ST) (hf : fX8_bestBy x1 x2 M = some (r0, Mz)) : CG l yX8_bestBy (wsm yX8_bestBy cX8_bestBy 8 (some .int)) rmX8_bestBy D cs [.ref (a 0), .int x1, .int x2] (some (.int r0)) (kX8 cs a (.ref (nn 0)) M) (kX8 cs a (.ref (nn 0)) Mz) := by
  refine CG.intro (by decide) (Nat.le_of_ble_eq_true rfl) ?_
  intro p e s m below meth c A Q hx hb hml hown hu hK hZ hP0 hD0 hS0 hA hri hrz hrl hrv hra ls0 hl0
  have h55 : ∀ (k8 : Int32 → Int32 → Int32 → Int32 → Int32 → ST → Option (Int32 × ST)), (∀ (y1 : Int32) (y2 : Int32) (y3 : Int32) (y4 : Int32) (y5 : Int32) (M : ST) (H : Heap) (locs : List Loc) (ls : Array Slot), va_P D vwCl (kX8 cs a (.ref (nn 0)) M) H → va_D A (kX8 cs a (.ref (nn 0)) M) → va_S A s.heap H locs → lv_has ls 8 [(0, .ref (a 0)), (1, .int y1), (2, .int y2), (3, .int y3), (4, .int y4), (5, .int y5)] → k8 y1 y2 y3 y4 y5 M = some (r0, Mz) → W p l e rmX8_bestBy s m [.ref (a 0), .int x1, .int x2].toArray below meth c H locs 0 0 Q (F0 m 8 ls [])) → ∀ (y1 : Int32) (y2 : Int32) (y3 : Int32) (y4 : Int32) (y5 : Int32) (s0 : Int32) (M : ST) (H : Heap) (locs : List Loc) (ls : Array Slot), va_P D vwCl (kX8 cs a (.ref (nn 0)) M) H → va_D A (kX8 cs a (.ref (nn 0)) M) → va_S A s.heap H locs → lv_has ls 8 [(0, .ref (a 0)), (1, .int y1), (2, .int y2), (3, .int y3), (4, .int y4), (5, .int y5)] → fX8_bestBy_55 k8 y1 y2 y3 y4 y5 s0 M = some (r0, Mz) → W p l e rmX8_bestBy s m [.ref (a 0), .int x1, .int x2].toArray below meth c H locs 0 0 Q (F0 m 55 ls [.int s0]) := by
    intro k8 hk8 y1 y2 y3 y4 y5 s0 M H locs ls hP hD hS hl hf
    unfold fX8_bestBy_55 at hf
    refine lv_istore (lv' := [(6, .int s0), (0, .ref (a 0)), (1, .int y1), (2, .int y2), (3, .int y3), (4, .int y4), (5, .int y5)]) hx hb dX8_bestBy_55 hl (by decide) rfl (fun ls hl => ?_)
    refine lv_iload hx hb dX8_bestBy_57 (lv_at hl 0 rfl) ?_
    refine lv_if_eq (tgt := 90) hx hb dX8_bestBy_59 (by decide) (fun hc5 => ?_) (fun hc5 => ?_)
    · have hf := ip_el hc5 hf
      obtain ⟨v6, hv6, hf⟩ := lt_el hf
      refine lv_iinc (v := v6) (lv' := [(5, .int v6), (6, .int s0), (0, .ref (a 0)), (1, .int y1), (2, .int y2), (3, .int y3), (4, .int y4)]) hx hb dX8_bestBy_90 hl (k := 6) rfl (by rw [hv6]; rfl) (by decide) rfl (fun ls hl => ?_)
      refine lv_goto (tgt := 8) hx hb dX8_bestBy_93 (by decide) ?_
      exact hk8 y1 y2 y3 y4 v6 M _ _ _ hP hD hS (lv_sub hl [2, 3, 4, 5, 6, 0] rfl) hf
    · have hf := in_el hc5 hf
      refine lv_aload_n hx hb dX8_bestBy_62 rfl (lv_at hl 1 rfl) ?_
      refine lv_iload_n hx hb dX8_bestBy_63 rfl (lv_at hl 2 rfl) ?_
      refine lv_iload hx hb dX8_bestBy_64 (lv_at hl 6 rfl) ?_
      refine lv_iload_n hx hb dX8_bestBy_66 rfl (lv_at hl 3 rfl) ?_
      obtain ⟨r7, M_8, hg9, hf⟩ := b2_el hf
      refine cc_V1 (w' := (kX8 cs a (.ref (nn 0)) M_8)) (st1 := [.int r7]) [.int y1, .int y5, .int y2] hx hb hml hown hu (tX8_valueBy l D cs a nn y1 y5 y2 M r7 M_8 hg9) q1054 q62 q1051 q1053 q28 pdX8_valueBy ⟨rfl, rfl, Nat.le_of_ble_eq_true rfl, Nat.le_of_ble_eq_true rfl⟩ hK hZ hP hD hS hA rfl rfl rfl rfl hl.1 rfl (Nat.le_of_ble_eq_true rfl) dX8_bestBy_67 rfl (fun H locs hP hD hS => ?_)
      refine lv_istore (lv' := [(7, .int r7), (6, .int s0), (0, .ref (a 0)), (1, .int y1), (2, .int y2), (3, .int y3), (4, .int y4), (5, .int y5)]) hx hb dX8_bestBy_70 hl (by decide) rfl (fun ls hl => ?_)
      refine lv_iload_n hx hb dX8_bestBy_72 rfl (lv_at hl 5 rfl) ?_
      refine lv_if_lt (tgt := 83) hx hb dX8_bestBy_73 (by decide) (fun hc10 => ?_) (fun hc10 => ?_)
      · have hf := ip_el hc10 hf
        refine lv_iload hx hb dX8_bestBy_83 (lv_at hl 7 rfl) ?_
        refine lv_istore_n (lv' := [(3, .int y5), (7, .int r7), (6, .int s0), (0, .ref (a 0)), (1, .int y1), (2, .int y2), (4, .int y4), (5, .int y5)]) hx hb dX8_bestBy_85 rfl hl (by decide) rfl (fun ls hl => ?_)
        refine lv_iload hx hb dX8_bestBy_86 (lv_at hl 1 rfl) ?_
        refine lv_istore (lv' := [(4, .int r7), (3, .int y5), (7, .int r7), (6, .int s0), (0, .ref (a 0)), (1, .int y1), (2, .int y2), (5, .int y5)]) hx hb dX8_bestBy_88 hl (by decide) rfl (fun ls hl => ?_)
        obtain ⟨v11, hv11, hf⟩ := lt_el hf
        refine lv_iinc (v := v11) (lv' := [(5, .int v11), (4, .int r7), (3, .int y5), (7, .int r7), (6, .int s0), (0, .ref (a 0)), (1, .int y1), (2, .int y2)]) hx hb dX8_bestBy_90 hl (k := 7) rfl (by rw [hv11]; rfl) (by decide) rfl (fun ls hl => ?_)
        refine lv_goto (tgt := 8) hx hb dX8_bestBy_93 (by decide) ?_
        exact hk8 y1 y2 y5 r7 v11 M_8 _ _ _ hP hD hS (lv_sub hl [5, 6, 7, 2, 1, 0] rfl) hf
      · have hf := in_el hc10 hf
        refine lv_iload hx hb dX8_bestBy_76 (lv_at hl 0 rfl) ?_
        refine lv_iload hx hb dX8_bestBy_78 (lv_at hl 6 rfl) ?_
        refine lv_icmp_le (tgt := 90) hx hb dX8_bestBy_80 (by decide) (fun hc12 => ?_) (fun hc12 => ?_)
        · have hf := ip_el hc12 hf
          obtain ⟨v13, hv13, hf⟩ := lt_el hf
          refine lv_iinc (v := v13) (lv' := [(5, .int v13), (7, .int r7), (6, .int s0), (0, .ref (a 0)), (1, .int y1), (2, .int y2), (3, .int y3), (4, .int y4)]) hx hb dX8_bestBy_90 hl (k := 7) rfl (by rw [hv13]; rfl) (by decide) rfl (fun ls hl => ?_)
          refine lv_goto (tgt := 8) hx hb dX8_bestBy_93 (by decide) ?_
          exact hk8 y1 y2 y3 y4 v13 M_8 _ _ _ hP hD hS (lv_sub hl [3, 4, 5, 6, 7, 0] rfl) hf
        · have hf := in_el hc12 hf
          refine lv_iload hx hb dX8_bestBy_83 (lv_at hl 7 rfl) ?_
          refine lv_istore_n (lv' := [(3, .int y5), (7, .int r7), (6, .int s0), (0, .ref (a 0)), (1, .int y1), (2, .int y2), (4, .int y4), (5, .int y5)]) hx hb dX8_bestBy_85 rfl hl (by decide) rfl (fun ls hl => ?_)
          refine lv_iload hx hb dX8_bestBy_86 (lv_at hl 1 rfl) ?_
          refine lv_istore (lv' := [(4, .int r7), (3, .int y5), (7, .int r7), (6, .int s0), (0, .ref (a 0)), (1, .int y1), (2, .int y2), (5, .int y5)]) hx hb dX8_bestBy_88 hl (by decide) rfl (fun ls hl => ?_)
          obtain ⟨v14, hv14, hf⟩ := lt_el hf
          refine lv_iinc (v := v14) (lv' := [(5, .int v14), (4, .int r7), (3, .int y5), (7, .int r7), (6, .int s0), (0, .ref (a 0)), (1, .int y1), (2, .int y2)]) hx hb dX8_bestBy_90 hl (k := 7) rfl (by rw [hv14]; rfl) (by decide) rfl (fun ls hl => ?_)
          refine lv_goto (tgt := 8) hx hb dX8_bestBy_93 (by decide) ?_
          exact hk8 y1 y2 y5 r7 v14 M_8 _ _ _ hP hD hS (lv_sub hl [5, 6, 7, 2, 1, 0] rfl) hf
  have hs8 : ∀ (k8 : Int32 → Int32 → Int32 → Int32 → Int32 → ST → Option (Int32 × ST)), (∀ (y1 : Int32) (y2 : Int32) (y3 : Int32) (y4 : Int32) (y5 : Int32) (M : ST) (H : Heap) (locs : List Loc) (ls : Array Slot), va_P D vwCl (kX8 cs a (.ref (nn 0)) M) H → va_D A (kX8 cs a (.ref (nn 0)) M) → va_S A s.heap H locs → lv_has ls 8 [(0, .ref (a 0)), (1, .int y1), (2, .int y2), (3, .int y3), (4, .int y4), (5, .int y5)] → k8 y1 y2 y3 y4 y5 M = some (r0, Mz) → W p l e rmX8_bestBy s m [.ref (a 0), .int x1, .int x2].toArray below meth c H locs 0 0 Q (F0 m 8 ls [])) → ∀ (y1 : Int32) (y2 : Int32) (y3 : Int32) (y4 : Int32) (y5 : Int32) (M : ST) (H : Heap) (locs : List Loc) (ls : Array Slot), va_P D vwCl (kX8 cs a (.ref (nn 0)) M) H → va_D A (kX8 cs a (.ref (nn 0)) M) → va_S A s.heap H locs → lv_has ls 8 [(0, .ref (a 0)), (1, .int y1), (2, .int y2), (3, .int y3), (4, .int y4), (5, .int y5)] → fX8_bestBy_8_s k8 y1 y2 y3 y4 y5 M = some (r0, Mz) → W p l e rmX8_bestBy s m [.ref (a 0), .int x1, .int x2].toArray below meth c H locs 0 0 Q (F0 m 8 ls []) := by
    intro k8 hk8 y1 y2 y3 y4 y5 M H locs ls hP hD hS hl hf
    unfold fX8_bestBy_8_s at hf
    refine lv_iload hx hb dX8_bestBy_8 (lv_at hl 5 rfl) ?_
    refine lv_aload_n hx hb dX8_bestBy_10 rfl (lv_at hl 0 rfl) ?_
    refine va_get (D := D) (ci := 8) (v := .ref (a 1)) (C := RX8) (T := TX8) (N := 26) hx hb hu inX8 hown hK.1 hP 0 rfl rfl 0 (by decide) (hu _ q917) (fun _ h9 => h9) rfl dX8_bestBy_11 ?_
    refine lv_iconst (v := 0) hx hb dX8_bestBy_14 (by decide) ?_
    refine ia_lit hx hb hK hP 1 0 rfl (by decide) dX8_bestBy_15 ?_
    refine lv_icmp_ge (tgt := 96) hx hb dX8_bestBy_16 (by decide) (fun hc1 => ?_) (fun hc1 => ?_)
    · have hf := ip_el hc1 hf
      refine lv_iload_n hx hb dX8_bestBy_96 rfl (lv_at hl 3 rfl) ?_
      have he := Option.some.inj hf
      obtain ⟨e0, e1⟩ := Prod.mk.inj he
      exact hri _ _ _ rfl (congrArg (fun z => some (Value.int z)) e0.symm) dX8_bestBy_97 _ _ _ (by rw [e1]) hP hD hS
    · have hf := in_el hc1 hf
      refine lv_aload_n hx hb dX8_bestBy_19 rfl (lv_at hl 0 rfl) ?_
      refine lv_iload_n hx hb dX8_bestBy_20 rfl (lv_at hl 1 rfl) ?_
      refine lv_iload hx hb dX8_bestBy_21 (lv_at hl 5 rfl) ?_
      obtain ⟨r2, hg3, hf⟩ := b1_el hf
      refine cc_V1 (w' := (kX8 cs a (.ref (nn 0)) M)) (st1 := [.int r2]) [.int y1, .int y5] hx hb hml hown hu (tX8_mayName l D cs a nn y1 y5 M r2 hg3) q1038 q62 q1035 q1037 q24 pdX8_mayName ⟨rfl, rfl, Nat.le_of_ble_eq_true rfl, Nat.le_of_ble_eq_true rfl⟩ hK hZ hP hD hS hA rfl rfl rfl rfl hl.1 rfl (Nat.le_of_ble_eq_true rfl) dX8_bestBy_23 rfl (fun H locs hP hD hS => ?_)
      refine lv_if_eq (tgt := 54) hx hb dX8_bestBy_26 (by decide) (fun hc4 => ?_) (fun hc4 => ?_)
      · have hf := ip_el hc4 hf
        refine lv_iconst (v := 0) hx hb dX8_bestBy_54 (by decide) ?_
        exact h55 k8 hk8 y1 y2 y3 y4 y5 0 M _ _ _ hP hD hS (lv_sub hl [0, 1, 2, 3, 4, 5] rfl) hf
      · have hf := in_el hc4 hf
        refine lv_iload_n hx hb dX8_bestBy_29 rfl (lv_at hl 2 rfl) ?_
        refine lv_iconst (v := 4) hx hb dX8_bestBy_30 (by decide) ?_
        refine lv_icmp_ne (tgt := 50) hx hb dX8_bestBy_31 (by decide) (fun hc15 => ?_) (fun hc15 => ?_)
        · have hf := in_el hc15 hf
          refine lv_iconst (v := 1) hx hb dX8_bestBy_50 (by decide) ?_
          refine lv_goto (tgt := 55) hx hb dX8_bestBy_51 (by decide) ?_
          exact h55 k8 hk8 y1 y2 y3 y4 y5 1 M _ _ _ hP hD hS (lv_sub hl [0, 1, 2, 3, 4, 5] rfl) hf
        · have hf := ip_el hc15 hf
          refine lv_aload_n hx hb dX8_bestBy_34 rfl (lv_at hl 0 rfl) ?_
          refine lv_iload hx hb dX8_bestBy_35 (lv_at hl 5 rfl) ?_
          refine lv_iconst (v := 2) hx hb dX8_bestBy_37 (by decide) ?_
          obtain ⟨r16, hg17, hf⟩ := b1_el hf
          refine cc_V1 (w' := (kX8 cs a (.ref (nn 0)) M)) (st1 := [.int r16]) [.int y5, .int 2] hx hb hml hown hu (tX8_has0 l D cs a nn y5 2 M r16 hg17) q1026 q62 q1023 q1025 q21 pdX8_has0 ⟨rfl, rfl, Nat.le_of_ble_eq_true rfl, Nat.le_of_ble_eq_true rfl⟩ hK hZ hP hD hS hA rfl rfl rfl rfl hl.1 rfl (Nat.le_of_ble_eq_true rfl) dX8_bestBy_38 rfl (fun H locs hP hD hS => ?_)
          refine lv_aload_n hx hb dX8_bestBy_41 rfl (lv_at hl 0 rfl) ?_
          refine lv_iload_n hx hb dX8_bestBy_42 rfl (lv_at hl 1 rfl) ?_
          refine lv_iconst (v := 2) hx hb dX8_bestBy_43 (by decide) ?_
          obtain ⟨r18, hg19, hf⟩ := b1_el hf
          refine cc_V1 (w' := (kX8 cs a (.ref (nn 0)) M)) (st1 := [.int r18, .int r16]) [.int y1, .int 2] hx hb hml hown hu (tX8_has0 l D cs a nn y1 2 M r18 hg19) q1026 q62 q1023 q1025 q21 pdX8_has0 ⟨rfl, rfl, Nat.le_of_ble_eq_true rfl, Nat.le_of_ble_eq_true rfl⟩ hK hZ hP hD hS hA rfl rfl rfl rfl hl.1 rfl (Nat.le_of_ble_eq_true rfl) dX8_bestBy_44 rfl (fun H locs hP hD hS => ?_)
          refine lv_icmp_ne (tgt := 54) hx hb dX8_bestBy_47 (by decide) (fun hc20 => ?_) (fun hc20 => ?_)
          · have hf := in_el hc20 hf
            refine lv_iconst (v := 0) hx hb dX8_bestBy_54 (by decide) ?_
            exact h55 k8 hk8 y1 y2 y3 y4 y5 0 M _ _ _ hP hD hS (lv_sub hl [0, 1, 2, 3, 4, 5] rfl) hf
          · have hf := ip_el hc20 hf
            refine lv_iconst (v := 1) hx hb dX8_bestBy_50 (by decide) ?_
            refine lv_goto (tgt := 55) hx hb dX8_bestBy_51 (by decide) ?_
            exact h55 k8 hk8 y1 y2 y3 y4 y5 1 M _ _ _ hP hD hS (lv_sub hl [0, 1, 2, 3, 4, 5] rfl) hf
  have h8 : ∀ (n : Nat), ∀ (y1 : Int32) (y2 : Int32) (y3 : Int32) (y4 : Int32) (y5 : Int32) (M : ST) (H : Heap) (locs : List Loc) (ls : Array Slot), va_P D vwCl (kX8 cs a (.ref (nn 0)) M) H → va_D A (kX8 cs a (.ref (nn 0)) M) → va_S A s.heap H locs → lv_has ls 8 [(0, .ref (a 0)), (1, .int y1), (2, .int y2), (3, .int y3), (4, .int y4), (5, .int y5)] → fX8_bestBy_8 n y1 y2 y3 y4 y5 M = some (r0, Mz) → W p l e rmX8_bestBy s m [.ref (a 0), .int x1, .int x2].toArray below meth c H locs 0 0 Q (F0 m 8 ls []) := by
    intro n
    induction n with
    | zero => intro y1 y2 y3 y4 y5 M H locs ls hP hD hS hl hf; exact no_el hf
    | succ n ih => intro y1 y2 y3 y4 y5 M H locs ls hP hD hS hl hf; exact hs8 _ ih y1 y2 y3 y4 y5 M _ _ _ hP hD hS hl hf
  have hl : lv_has ls0 8 [(0, .ref (a 0)), (1, .int x1), (2, .int x2)] := hl0
  have hP := hP0
  have hD := hD0
  have hS := hS0
  unfold fX8_bestBy at hf
  refine lv_iconst (v := (-1)) hx hb dX8_bestBy_0 (by decide) ?_
  refine lv_istore_n (lv' := [(3, .int (-1)), (0, .ref (a 0)), (1, .int x1), (2, .int x2)]) hx hb dX8_bestBy_1 rfl hl (by decide) rfl (fun ls hl => ?_)
  refine lv_iconst (v := 0) hx hb dX8_bestBy_2 (by decide) ?_
  refine lv_istore (lv' := [(4, .int 0), (3, .int (-1)), (0, .ref (a 0)), (1, .int x1), (2, .int x2)]) hx hb dX8_bestBy_3 hl (by decide) rfl (fun ls hl => ?_)
  refine lv_iconst (v := 0) hx hb dX8_bestBy_5 (by decide) ?_
  refine lv_istore (lv' := [(5, .int 0), (4, .int 0), (3, .int (-1)), (0, .ref (a 0)), (1, .int x1), (2, .int x2)]) hx hb dX8_bestBy_6 hl (by decide) rfl (fun ls hl => ?_)
  exact h8 400 x1 x2 (-1) 0 0 M _ _ _ hP hD hS (lv_sub hl [3, 4, 5, 2, 1, 0] rfl) hf

def fX8_would_130 (y1 : Int32) (y3 : Int32) (s0 : Int32) (s1 : Int32) (M : ST) : Option (Int32 × ST) :=
  dc_b2 (fX8_bestBy s1 s0 M) (fun r8 M_9 => (if 0 ≤ r8 then some (r8, M_9) else (if y3 = 4 then dc_b2 (fX8_bestBy y1 0 M_9) (fun r13 M_14 => some (r13, M_14)) else some (r8, M_9))))
def fX8_would_116 (y1 : Int32) (y3 : Int32) (s0 : Int32) (M : ST) : Option (Int32 × ST) :=
  (if s0 = 0 then fX8_would_130 y1 y3 y3 y1 M else fX8_would_130 y1 y3 0 y1 M)
def fX8_would_98 (y1 : Int32) (y3 : Int32) (M : ST) : Option (Int32 × ST) :=
  (if y3 = 6 then (if (M 0 12) = 0 then fX8_would_116 y1 y3 0 M else fX8_would_116 y1 y3 1 M) else fX8_would_116 y1 y3 0 M)
def fX8_would_82 (y1 : Int32) (y3 : Int32) (M : ST) : Option (Int32 × ST) :=
  (if y3 = 5 then (if (M 1 190) = 0 then fX8_would_116 y1 y3 1 M else fX8_would_98 y1 y3 M) else fX8_would_98 y1 y3 M)
def fX8_would_75 (y1 : Int32) (y3 : Int32) (M : ST) : Option (Int32 × ST) :=
  dc_b1 (fX8_firstNamed M) (fun r17 => (if r17 < 0 then fX8_would_116 y1 y3 1 M else fX8_would_82 y1 y3 M))
def fX8_would_54 (y1 : Int32) (M : ST) : Option (Int32 × ST) :=
  dc_b1 (fX8_has0 y1 0 M) (fun r4 => (if r4 = 0 then fX8_would_116 y1 r4 1 M else (if r4 = 1 then fX8_would_75 y1 r4 M else (if r4 = 2 then fX8_would_75 y1 r4 M else fX8_would_82 y1 r4 M))))
def fX8_would_31 (y1 : Int32) (s0 : Int32) (M : ST) : Option (Int32 × ST) :=
  (if s0 < 0 then fX8_would_54 y1 M else (if (M 0 12) = 0 then dc_b1 (fX8_mayName y1 s0 M) (fun r26 => (if r26 = 0 then fX8_would_54 y1 M else some (s0, M))) else fX8_would_54 y1 M))
def fX8_would (x1 : Int32) (M : ST) : Option (Int32 × ST) :=
  (if x1 = (M 0 9) then fX8_would_31 x1 (M 0 10) M else (if x1 = (M 0 10) then fX8_would_31 x1 (M 0 9) M else fX8_would_31 x1 (-1) M))
abbrev rmX8_would : Room := { frames := 10, cells := 0, slots := 0, locals := 244 }
set_option maxRecDepth 100000 in
set_option maxHeartbeats 4000000 in
theorem tX8_would (l : Launch) (D : va_G) (cs : Nat → ClassId) (a : Nat → Nat) (nn : Nat → Nat) (x1 : Int32) (M : ST) (r0 : Int32) (Mz : ST) (hf : fX8_would x1 M = some (r0, Mz)) : CG l yX8_would (wsm yX8_would cX8_would 6 (some .int)) rmX8_would D cs [.ref (a 0), .int x1] (some (.int r0)) (kX8 cs a (.ref (nn 0)) M) (kX8 cs a (.ref (nn 0)) Mz) := by
  refine CG.intro (by decide) (Nat.le_of_ble_eq_true rfl) ?_
  intro p e s m below meth c A Q hx hb hml hown hu hK hZ hP0 hD0 hS0 hA hri hrz hrl hrv hra ls0 hl0
  have h130 : ∀ (y1 : Int32) (y3 : Int32) (s0 : Int32) (s1 : Int32) (M : ST) (H : Heap) (locs : List Loc) (ls : Array Slot), va_P D vwCl (kX8 cs a (.ref (nn 0)) M) H → va_D A (kX8 cs a (.ref (nn 0)) M) → va_S A s.heap H locs → lv_has ls 6 [(0, .ref (a 0)), (1, .int y1), (3, .int y3)] → fX8_would_130 y1 y3 s0 s1 M = some (r0, Mz) → W p l e rmX8_would s m [.ref (a 0), .int x1].toArray below meth c H locs 0 0 Q (F0 m 130 ls [.int s0, .int s1, .ref (a 0)]) := by
    intro y1 y3 s0 s1 M H locs ls hP hD hS hl hf
    unfold fX8_would_130 at hf
    obtain ⟨r8, M_9, hg10, hf⟩ := b2_el hf
    refine cc_V1 (w' := (kX8 cs a (.ref (nn 0)) M_9)) (st1 := [.int r8]) [.int s1, .int s0] hx hb hml hown hu (tX8_bestBy l D cs a nn s1 s0 M r8 M_9 hg10) q1050 q62 q1047 q1049 q27 pdX8_bestBy ⟨rfl, rfl, Nat.le_of_ble_eq_true rfl, Nat.le_of_ble_eq_true rfl⟩ hK hZ hP hD hS hA rfl rfl rfl rfl hl.1 rfl (Nat.le_of_ble_eq_true rfl) dX8_would_130 rfl (fun H locs hP hD hS => ?_)
    refine lv_istore (lv' := [(5, .int r8), (0, .ref (a 0)), (1, .int y1), (3, .int y3)]) hx hb dX8_would_133 hl (by decide) rfl (fun ls hl => ?_)
    refine lv_iload hx hb dX8_would_135 (lv_at hl 0 rfl) ?_
    refine lv_if_ge (tgt := 154) hx hb dX8_would_137 (by decide) (fun hc11 => ?_) (fun hc11 => ?_)
    · have hf := ip_el hc11 hf
      refine lv_iload hx hb dX8_would_154 (lv_at hl 0 rfl) ?_
      have he := Option.some.inj hf
      obtain ⟨e0, e1⟩ := Prod.mk.inj he
      exact hri _ _ _ rfl (congrArg (fun z => some (Value.int z)) e0.symm) dX8_would_156 _ _ _ (by rw [e1]) hP hD hS
    · have hf := in_el hc11 hf
      refine lv_iload_n hx hb dX8_would_140 rfl (lv_at hl 3 rfl) ?_
      refine lv_iconst (v := 4) hx hb dX8_would_141 (by decide) ?_
      refine lv_icmp_ne (tgt := 154) hx hb dX8_would_142 (by decide) (fun hc12 => ?_) (fun hc12 => ?_)
      · have hf := in_el hc12 hf
        refine lv_iload hx hb dX8_would_154 (lv_at hl 0 rfl) ?_
        have he := Option.some.inj hf
        obtain ⟨e0, e1⟩ := Prod.mk.inj he
        exact hri _ _ _ rfl (congrArg (fun z => some (Value.int z)) e0.symm) dX8_would_156 _ _ _ (by rw [e1]) hP hD hS
      · have hf := ip_el hc12 hf
        refine lv_aload_n hx hb dX8_would_145 rfl (lv_at hl 1 rfl) ?_
        refine lv_iload_n hx hb dX8_would_146 rfl (lv_at hl 2 rfl) ?_
        refine lv_iconst (v := 0) hx hb dX8_would_147 (by decide) ?_
        obtain ⟨r13, M_14, hg15, hf⟩ := b2_el hf
        refine cc_V1 (w' := (kX8 cs a (.ref (nn 0)) M_14)) (st1 := [.int r13]) [.int y1, .int 0] hx hb hml hown hu (tX8_bestBy l D cs a nn y1 0 M_9 r13 M_14 hg15) q1050 q62 q1047 q1049 q27 pdX8_bestBy ⟨rfl, rfl, Nat.le_of_ble_eq_true rfl, Nat.le_of_ble_eq_true rfl⟩ hK hZ hP hD hS hA rfl rfl rfl rfl hl.1 rfl (Nat.le_of_ble_eq_true rfl) dX8_would_148 rfl (fun H locs hP hD hS => ?_)
        refine lv_goto (tgt := 156) hx hb dX8_would_151 (by decide) ?_
        have he := Option.some.inj hf
        obtain ⟨e0, e1⟩ := Prod.mk.inj he
        exact hri _ _ _ rfl (congrArg (fun z => some (Value.int z)) e0.symm) dX8_would_156 _ _ _ (by rw [e1]) hP hD hS
  have h116 : ∀ (y1 : Int32) (y3 : Int32) (s0 : Int32) (M : ST) (H : Heap) (locs : List Loc) (ls : Array Slot), va_P D vwCl (kX8 cs a (.ref (nn 0)) M) H → va_D A (kX8 cs a (.ref (nn 0)) M) → va_S A s.heap H locs → lv_has ls 6 [(0, .ref (a 0)), (1, .int y1), (3, .int y3)] → fX8_would_116 y1 y3 s0 M = some (r0, Mz) → W p l e rmX8_would s m [.ref (a 0), .int x1].toArray below meth c H locs 0 0 Q (F0 m 116 ls [.int s0]) := by
    intro y1 y3 s0 M H locs ls hP hD hS hl hf
    unfold fX8_would_116 at hf
    refine lv_istore (lv' := [(4, .int s0), (0, .ref (a 0)), (1, .int y1), (3, .int y3)]) hx hb dX8_would_116 hl (by decide) rfl (fun ls hl => ?_)
    refine lv_aload_n hx hb dX8_would_118 rfl (lv_at hl 1 rfl) ?_
    refine lv_iload_n hx hb dX8_would_119 rfl (lv_at hl 2 rfl) ?_
    refine lv_iload hx hb dX8_would_120 (lv_at hl 0 rfl) ?_
    refine lv_if_eq (tgt := 129) hx hb dX8_would_122 (by decide) (fun hc7 => ?_) (fun hc7 => ?_)
    · have hf := ip_el hc7 hf
      refine lv_iload_n hx hb dX8_would_129 rfl (lv_at hl 3 rfl) ?_
      exact h130 y1 y3 y3 y1 M _ _ _ hP hD hS (lv_sub hl [1, 2, 3] rfl) hf
    · have hf := in_el hc7 hf
      refine lv_iconst (v := 0) hx hb dX8_would_125 (by decide) ?_
      refine lv_goto (tgt := 130) hx hb dX8_would_126 (by decide) ?_
      exact h130 y1 y3 0 y1 M _ _ _ hP hD hS (lv_sub hl [1, 2, 3] rfl) hf
  have h98 : ∀ (y1 : Int32) (y3 : Int32) (M : ST) (H : Heap) (locs : List Loc) (ls : Array Slot), va_P D vwCl (kX8 cs a (.ref (nn 0)) M) H → va_D A (kX8 cs a (.ref (nn 0)) M) → va_S A s.heap H locs → lv_has ls 6 [(0, .ref (a 0)), (1, .int y1), (3, .int y3)] → fX8_would_98 y1 y3 M = some (r0, Mz) → W p l e rmX8_would s m [.ref (a 0), .int x1].toArray below meth c H locs 0 0 Q (F0 m 98 ls []) := by
    intro y1 y3 M H locs ls hP hD hS hl hf
    unfold fX8_would_98 at hf
    refine lv_iload_n hx hb dX8_would_98 rfl (lv_at hl 2 rfl) ?_
    refine lv_bipush (v := 6) hx hb dX8_would_99 (by decide) ?_
    refine lv_icmp_ne (tgt := 115) hx hb dX8_would_101 (by decide) (fun hc21 => ?_) (fun hc21 => ?_)
    · have hf := in_el hc21 hf
      refine lv_iconst (v := 0) hx hb dX8_would_115 (by decide) ?_
      exact h116 y1 y3 0 M _ _ _ hP hD hS (lv_sub hl [0, 1, 2] rfl) hf
    · have hf := ip_el hc21 hf
      refine lv_aload_n hx hb dX8_would_104 rfl (lv_at hl 0 rfl) ?_
      refine va_get (D := D) (ci := 8) (v := .int (M 0 12)) (C := RX8) (T := TX8) (N := 26) hx hb hu inX8 hown hK.1 hP 0 rfl rfl 12 (by decide) (hu _ q929) (fun _ h9 => h9) rfl dX8_would_105 ?_
      refine lv_if_eq (tgt := 115) hx hb dX8_would_108 (by decide) (fun hc22 => ?_) (fun hc22 => ?_)
      · have hf := ip_el hc22 hf
        refine lv_iconst (v := 0) hx hb dX8_would_115 (by decide) ?_
        exact h116 y1 y3 0 M _ _ _ hP hD hS (lv_sub hl [0, 1, 2] rfl) hf
      · have hf := in_el hc22 hf
        refine lv_iconst (v := 1) hx hb dX8_would_111 (by decide) ?_
        refine lv_goto (tgt := 116) hx hb dX8_would_112 (by decide) ?_
        exact h116 y1 y3 1 M _ _ _ hP hD hS (lv_sub hl [0, 1, 2] rfl) hf
  have h82 : ∀ (y1 : Int32) (y3 : Int32) (M : ST) (H : Heap) (locs : List Loc) (ls : Array Slot), va_P D vwCl (kX8 cs a (.ref (nn 0)) M) H → va_D A (kX8 cs a (.ref (nn 0)) M) → va_S A s.heap H locs → lv_has ls 6 [(0, .ref (a 0)), (1, .int y1), (3, .int y3)] → fX8_would_82 y1 y3 M = some (r0, Mz) → W p l e rmX8_would s m [.ref (a 0), .int x1].toArray below meth c H locs 0 0 Q (F0 m 82 ls []) := by
    intro y1 y3 M H locs ls hP hD hS hl hf
    unfold fX8_would_82 at hf
    refine lv_iload_n hx hb dX8_would_82 rfl (lv_at hl 2 rfl) ?_
    refine lv_iconst (v := 5) hx hb dX8_would_83 (by decide) ?_
    refine lv_icmp_ne (tgt := 98) hx hb dX8_would_84 (by decide) (fun hc20 => ?_) (fun hc20 => ?_)
    · have hf := in_el hc20 hf
      exact h98 y1 y3 M _ _ _ hP hD hS (lv_sub hl [0, 1, 2] rfl) hf
    · have hf := ip_el hc20 hf
      refine lv_aload_n hx hb dX8_would_87 rfl (lv_at hl 0 rfl) ?_
      refine va_get (D := D) (ci := 8) (v := .ref (a 1)) (C := RX8) (T := TX8) (N := 26) hx hb hu inX8 hown hK.1 hP 0 rfl rfl 0 (by decide) (hu _ q917) (fun _ h9 => h9) rfl dX8_would_88 ?_
      refine lv_sipush (v := 190) hx hb dX8_would_91 (by decide) ?_
      refine ia_lit hx hb hK hP 1 190 rfl (by decide) dX8_would_94 ?_
      refine lv_if_eq (tgt := 111) hx hb dX8_would_95 (by decide) (fun hc23 => ?_) (fun hc23 => ?_)
      · have hf := ip_el hc23 hf
        refine lv_iconst (v := 1) hx hb dX8_would_111 (by decide) ?_
        refine lv_goto (tgt := 116) hx hb dX8_would_112 (by decide) ?_
        exact h116 y1 y3 1 M _ _ _ hP hD hS (lv_sub hl [0, 1, 2] rfl) hf
      · have hf := in_el hc23 hf
        exact h98 y1 y3 M _ _ _ hP hD hS (lv_sub hl [0, 1, 2] rfl) hf
  have h75 : ∀ (y1 : Int32) (y3 : Int32) (M : ST) (H : Heap) (locs : List Loc) (ls : Array Slot), va_P D vwCl (kX8 cs a (.ref (nn 0)) M) H → va_D A (kX8 cs a (.ref (nn 0)) M) → va_S A s.heap H locs → lv_has ls 6 [(0, .ref (a 0)), (1, .int y1), (3, .int y3)] → fX8_would_75 y1 y3 M = some (r0, Mz) → W p l e rmX8_would s m [.ref (a 0), .int x1].toArray below meth c H locs 0 0 Q (F0 m 75 ls []) := by
    intro y1 y3 M H locs ls hP hD hS hl hf
    unfold fX8_would_75 at hf
    refine lv_aload_n hx hb dX8_would_75 rfl (lv_at hl 0 rfl) ?_
    obtain ⟨r17, hg18, hf⟩ := b1_el hf
    refine cc_V1 (w' := (kX8 cs a (.ref (nn 0)) M)) (st1 := [.int r17]) [] hx hb hml hown hu (tX8_firstNamed l D cs a nn M r17 hg18) q1046 q62 q1043 q1045 q26 pdX8_firstNamed ⟨rfl, rfl, Nat.le_of_ble_eq_true rfl, Nat.le_of_ble_eq_true rfl⟩ hK hZ hP hD hS hA rfl rfl rfl rfl hl.1 rfl (Nat.le_of_ble_eq_true rfl) dX8_would_76 rfl (fun H locs hP hD hS => ?_)
    refine lv_if_lt (tgt := 111) hx hb dX8_would_79 (by decide) (fun hc19 => ?_) (fun hc19 => ?_)
    · have hf := ip_el hc19 hf
      refine lv_iconst (v := 1) hx hb dX8_would_111 (by decide) ?_
      refine lv_goto (tgt := 116) hx hb dX8_would_112 (by decide) ?_
      exact h116 y1 y3 1 M _ _ _ hP hD hS (lv_sub hl [0, 1, 2] rfl) hf
    · have hf := in_el hc19 hf
      exact h82 y1 y3 M _ _ _ hP hD hS (lv_sub hl [0, 1, 2] rfl) hf
  have h54 : ∀ (y1 : Int32) (M : ST) (H : Heap) (locs : List Loc) (ls : Array Slot), va_P D vwCl (kX8 cs a (.ref (nn 0)) M) H → va_D A (kX8 cs a (.ref (nn 0)) M) → va_S A s.heap H locs → lv_has ls 6 [(0, .ref (a 0)), (1, .int y1)] → fX8_would_54 y1 M = some (r0, Mz) → W p l e rmX8_would s m [.ref (a 0), .int x1].toArray below meth c H locs 0 0 Q (F0 m 54 ls []) := by
    intro y1 M H locs ls hP hD hS hl hf
    unfold fX8_would_54 at hf
    refine lv_aload_n hx hb dX8_would_54 rfl (lv_at hl 0 rfl) ?_
    refine lv_iload_n hx hb dX8_would_55 rfl (lv_at hl 1 rfl) ?_
    refine lv_iconst (v := 0) hx hb dX8_would_56 (by decide) ?_
    obtain ⟨r4, hg5, hf⟩ := b1_el hf
    refine cc_V1 (w' := (kX8 cs a (.ref (nn 0)) M)) (st1 := [.int r4]) [.int y1, .int 0] hx hb hml hown hu (tX8_has0 l D cs a nn y1 0 M r4 hg5) q1026 q62 q1023 q1025 q21 pdX8_has0 ⟨rfl, rfl, Nat.le_of_ble_eq_true rfl, Nat.le_of_ble_eq_true rfl⟩ hK hZ hP hD hS hA rfl rfl rfl rfl hl.1 rfl (Nat.le_of_ble_eq_true rfl) dX8_would_57 rfl (fun H locs hP hD hS => ?_)
    refine lv_istore_n (lv' := [(3, .int r4), (0, .ref (a 0)), (1, .int y1)]) hx hb dX8_would_60 rfl hl (by decide) rfl (fun ls hl => ?_)
    refine lv_iload_n hx hb dX8_would_61 rfl (lv_at hl 0 rfl) ?_
    refine lv_if_eq (tgt := 111) hx hb dX8_would_62 (by decide) (fun hc6 => ?_) (fun hc6 => ?_)
    · have hf := ip_el hc6 hf
      refine lv_iconst (v := 1) hx hb dX8_would_111 (by decide) ?_
      refine lv_goto (tgt := 116) hx hb dX8_would_112 (by decide) ?_
      exact h116 y1 r4 1 M _ _ _ hP hD hS (lv_sub hl [1, 2, 0] rfl) hf
    · have hf := in_el hc6 hf
      refine lv_iload_n hx hb dX8_would_65 rfl (lv_at hl 0 rfl) ?_
      refine lv_iconst (v := 1) hx hb dX8_would_66 (by decide) ?_
      refine lv_icmp_eq (tgt := 75) hx hb dX8_would_67 (by decide) (fun hc16 => ?_) (fun hc16 => ?_)
      · have hf := ip_el hc16 hf
        exact h75 y1 r4 M _ _ _ hP hD hS (lv_sub hl [1, 2, 0] rfl) hf
      · have hf := in_el hc16 hf
        refine lv_iload_n hx hb dX8_would_70 rfl (lv_at hl 0 rfl) ?_
        refine lv_iconst (v := 2) hx hb dX8_would_71 (by decide) ?_
        refine lv_icmp_ne (tgt := 82) hx hb dX8_would_72 (by decide) (fun hc24 => ?_) (fun hc24 => ?_)
        · have hf := in_el hc24 hf
          exact h82 y1 r4 M _ _ _ hP hD hS (lv_sub hl [1, 2, 0] rfl) hf
        · have hf := ip_el hc24 hf
          exact h75 y1 r4 M _ _ _ hP hD hS (lv_sub hl [1, 2, 0] rfl) hf
  have h31 : ∀ (y1 : Int32) (s0 : Int32) (M : ST) (H : Heap) (locs : List Loc) (ls : Array Slot), va_P D vwCl (kX8 cs a (.ref (nn 0)) M) H → va_D A (kX8 cs a (.ref (nn 0)) M) → va_S A s.heap H locs → lv_has ls 6 [(0, .ref (a 0)), (1, .int y1)] → fX8_would_31 y1 s0 M = some (r0, Mz) → W p l e rmX8_would s m [.ref (a 0), .int x1].toArray below meth c H locs 0 0 Q (F0 m 31 ls [.int s0]) := by
    intro y1 s0 M H locs ls hP hD hS hl hf
    unfold fX8_would_31 at hf
    refine lv_istore_n (lv' := [(2, .int s0), (0, .ref (a 0)), (1, .int y1)]) hx hb dX8_would_31 rfl hl (by decide) rfl (fun ls hl => ?_)
    refine lv_iload_n hx hb dX8_would_32 rfl (lv_at hl 0 rfl) ?_
    refine lv_if_lt (tgt := 54) hx hb dX8_would_33 (by decide) (fun hc3 => ?_) (fun hc3 => ?_)
    · have hf := ip_el hc3 hf
      exact h54 y1 M _ _ _ hP hD hS (lv_sub hl [1, 2] rfl) hf
    · have hf := in_el hc3 hf
      refine lv_aload_n hx hb dX8_would_36 rfl (lv_at hl 1 rfl) ?_
      refine va_get (D := D) (ci := 8) (v := .int (M 0 12)) (C := RX8) (T := TX8) (N := 26) hx hb hu inX8 hown hK.1 hP 0 rfl rfl 12 (by decide) (hu _ q929) (fun _ h9 => h9) rfl dX8_would_37 ?_
      refine lv_if_ne (tgt := 54) hx hb dX8_would_40 (by decide) (fun hc25 => ?_) (fun hc25 => ?_)
      · have hf := in_el hc25 hf
        exact h54 y1 M _ _ _ hP hD hS (lv_sub hl [1, 2] rfl) hf
      · have hf := ip_el hc25 hf
        refine lv_aload_n hx hb dX8_would_43 rfl (lv_at hl 1 rfl) ?_
        refine lv_iload_n hx hb dX8_would_44 rfl (lv_at hl 2 rfl) ?_
        refine lv_iload_n hx hb dX8_would_45 rfl (lv_at hl 0 rfl) ?_
        obtain ⟨r26, hg27, hf⟩ := b1_el hf
        refine cc_V1 (w' := (kX8 cs a (.ref (nn 0)) M)) (st1 := [.int r26]) [.int y1, .int s0] hx hb hml hown hu (tX8_mayName l D cs a nn y1 s0 M r26 hg27) q1038 q62 q1035 q1037 q24 pdX8_mayName ⟨rfl, rfl, Nat.le_of_ble_eq_true rfl, Nat.le_of_ble_eq_true rfl⟩ hK hZ hP hD hS hA rfl rfl rfl rfl hl.1 rfl (Nat.le_of_ble_eq_true rfl) dX8_would_46 rfl (fun H locs hP hD hS => ?_)
        refine lv_if_eq (tgt := 54) hx hb dX8_would_49 (by decide) (fun hc28 => ?_) (fun hc28 => ?_)
        · have hf := ip_el hc28 hf
          exact h54 y1 M _ _ _ hP hD hS (lv_sub hl [1, 2] rfl) hf
        · have hf := in_el hc28 hf
          refine lv_iload_n hx hb dX8_would_52 rfl (lv_at hl 0 rfl) ?_
          have he := Option.some.inj hf
          obtain ⟨e0, e1⟩ := Prod.mk.inj he
          exact hri _ _ _ rfl (congrArg (fun z => some (Value.int z)) e0.symm) dX8_would_53 _ _ _ (by rw [e1]) hP hD hS
  have hl : lv_has ls0 6 [(0, .ref (a 0)), (1, .int x1)] := hl0
  have hP := hP0
  have hD := hD0
  have hS := hS0
  unfold fX8_would at hf
  refine lv_iload_n hx hb dX8_would_0 rfl (lv_at hl 1 rfl) ?_
  refine lv_aload_n hx hb dX8_would_1 rfl (lv_at hl 0 rfl) ?_
  refine va_get (D := D) (ci := 8) (v := .int (M 0 9)) (C := RX8) (T := TX8) (N := 26) hx hb hu inX8 hown hK.1 hP 0 rfl rfl 9 (by decide) (hu _ q926) (fun _ h9 => h9) rfl dX8_would_2 ?_
  refine lv_icmp_ne (tgt := 15) hx hb dX8_would_5 (by decide) (fun hc1 => ?_) (fun hc1 => ?_)
  · have hf := in_el hc1 hf
    refine lv_iload_n hx hb dX8_would_15 rfl (lv_at hl 1 rfl) ?_
    refine lv_aload_n hx hb dX8_would_16 rfl (lv_at hl 0 rfl) ?_
    refine va_get (D := D) (ci := 8) (v := .int (M 0 10)) (C := RX8) (T := TX8) (N := 26) hx hb hu inX8 hown hK.1 hP 0 rfl rfl 10 (by decide) (hu _ q927) (fun _ h9 => h9) rfl dX8_would_17 ?_
    refine lv_icmp_ne (tgt := 30) hx hb dX8_would_20 (by decide) (fun hc2 => ?_) (fun hc2 => ?_)
    · have hf := in_el hc2 hf
      refine lv_iconst (v := (-1)) hx hb dX8_would_30 (by decide) ?_
      exact h31 x1 (-1) M _ _ _ hP hD hS (lv_sub hl [0, 1] rfl) hf
    · have hf := ip_el hc2 hf
      refine lv_aload_n hx hb dX8_would_23 rfl (lv_at hl 0 rfl) ?_
      refine va_get (D := D) (ci := 8) (v := .int (M 0 9)) (C := RX8) (T := TX8) (N := 26) hx hb hu inX8 hown hK.1 hP 0 rfl rfl 9 (by decide) (hu _ q926) (fun _ h9 => h9) rfl dX8_would_24 ?_
      refine lv_goto (tgt := 31) hx hb dX8_would_27 (by decide) ?_
      exact h31 x1 (M 0 9) M _ _ _ hP hD hS (lv_sub hl [0, 1] rfl) hf
  · have hf := ip_el hc1 hf
    refine lv_aload_n hx hb dX8_would_8 rfl (lv_at hl 0 rfl) ?_
    refine va_get (D := D) (ci := 8) (v := .int (M 0 10)) (C := RX8) (T := TX8) (N := 26) hx hb hu inX8 hown hK.1 hP 0 rfl rfl 10 (by decide) (hu _ q927) (fun _ h9 => h9) rfl dX8_would_9 ?_
    refine lv_goto (tgt := 31) hx hb dX8_would_12 (by decide) ?_
    exact h31 x1 (M 0 10) M _ _ _ hP hD hS (lv_sub hl [0, 1] rfl) hf

def fX8_comes_202 (k149 : Int32 → Int32 → ST → Option (Int32 × ST)) (y1 : Int32) (y2 : Int32) (s0 : Int32) (M : ST) : Option (Int32 × ST) :=
  dc_b2 (fX8_would y1 M) (fun r12 M_13 => dc_ck s0 271 (dc_lt (sti M_13 1 (Int32.toNatClampNeg s0) r12) (fun M_16 => dc_lt (y2 + 1) (fun v17 => k149 y1 v17 M_16))))
def fX8_comes_149_s (k149 : Int32 → Int32 → ST → Option (Int32 × ST)) (y1 : Int32) (y2 : Int32) (M : ST) : Option (Int32 × ST) :=
  (if (M 1 4) ≤ y2 then some (y1, M) else (if (M 1 8) = 1 then dc_ck (10 + y2) 271 ((if (M 1 (Int32.toNatClampNeg (10 + y2))) < 0 then fX8_comes_202 k149 y1 y2 (10 + y2) M else dc_ck (10 + y2) 271 (dc_ck (10 + y2) 271 (dc_lt (sti M 1 (Int32.toNatClampNeg (10 + y2)) (M 1 (Int32.toNatClampNeg (10 + y2)))) (fun M_22 => dc_lt (y2 + 1) (fun v23 => k149 y1 v23 M_22)))))) else fX8_comes_202 k149 y1 y2 (10 + y2) M))
def fX8_comes_149 : Nat → Int32 → Int32 → ST → Option (Int32 × ST)
  | 0 => fun _ _ _ => none
  | n + 1 => fX8_comes_149_s (fX8_comes_149 n)
def fX8_comes_89 (y1 : Int32) (M : ST) : Option (Int32 × ST) :=
  dc_lt (sti M 1 1 y1) (fun M_2 => dc_lt (sti M_2 1 2 0) (fun M_3 => (if y1 < 0 then some (y1, M_3) else dc_ck ((14 + (6 * y1)) + 4) 271 (dc_ck ((14 + (6 * y1)) + 4) 271 (dc_lt (sti M_3 1 (Int32.toNatClampNeg ((14 + (6 * y1)) + 4)) ((M_3 1 (Int32.toNatClampNeg ((14 + (6 * y1)) + 4))) + 1)) (fun M_7 => (if (M_7 1 8) = 1 then fX8_comes_149 400 y1 0 M_7 else dc_lt ((M_7 1 4) - 1) (fun v9 => fX8_comes_149 400 y1 v9 M_7))))))))
def fX8_comes_42_s (k4 : Int32 → Int32 → ST → Option (Int32 × ST)) (k42 : Int32 → Int32 → Int32 → ST → Option (Int32 × ST)) (y1 : Int32) (y2 : Int32) (y3 : Int32) (M : ST) : Option (Int32 × ST) :=
  (if 4 ≤ (y3 + 1) then dc_lt (sti M 1 13 (-1)) (fun M_28 => dc_lt (y2 + 1) (fun v29 => k4 y1 v29 M_28)) else dc_ck ((10 + y3) + 1) 271 (dc_ck (10 + y3) 271 (dc_lt (sti M 1 (Int32.toNatClampNeg (10 + y3)) (M 1 (Int32.toNatClampNeg ((10 + y3) + 1)))) (fun M_32 => dc_lt (y3 + 1) (fun v33 => k42 y1 y2 v33 M_32)))))
def fX8_comes_42 (k4 : Int32 → Int32 → ST → Option (Int32 × ST)) : Nat → Int32 → Int32 → Int32 → ST → Option (Int32 × ST)
  | 0 => fun _ _ _ _ => none
  | n + 1 => fX8_comes_42_s k4 (fX8_comes_42 k4 n)
def fX8_comes_32 (k4 : Int32 → Int32 → ST → Option (Int32 × ST)) (y2 : Int32) (M : ST) : Option (Int32 × ST) :=
  dc_lt (M 1 10) (fun v26 => fX8_comes_42 k4 400 v26 y2 0 M)
def fX8_comes_4_s (k4 : Int32 → Int32 → ST → Option (Int32 × ST)) (y1 : Int32) (y2 : Int32) (M : ST) : Option (Int32 × ST) :=
  (if (M 1 4) ≤ y2 then fX8_comes_89 y1 M else (if 0 ≤ y1 then fX8_comes_89 y1 M else (if y2 = 0 then fX8_comes_32 k4 y2 M else (if (M 1 8) = 0 then fX8_comes_32 k4 y2 M else fX8_comes_89 y1 M))))
def fX8_comes_4 : Nat → Int32 → Int32 → ST → Option (Int32 × ST)
  | 0 => fun _ _ _ => none
  | n + 1 => fX8_comes_4_s (fX8_comes_4 n)
def fX8_comes (M : ST) : Option (Int32 × ST) :=
  fX8_comes_4 400 (-1) 0 M
abbrev rmX8_comes : Room := { frames := 11, cells := 0, slots := 0, locals := 269 }
set_option maxRecDepth 100000 in
set_option maxHeartbeats 4000000 in
theorem tX8_comes (l : Launch) (D : va_G) (cs : Nat → ClassId) (a : Nat → Nat) (nn : Nat → Nat) (M : ST) (r0 : Int32) (Mz : ST) (hf : fX8_comes M = some (r0, Mz)) : CG l yX8_comes (wsm yX8_comes cX8_comes 4 (some .int)) rmX8_comes D cs [.ref (a 0)] (some (.int r0)) (kX8 cs a (.ref (nn 0)) M) (kX8 cs a (.ref (nn 0)) Mz) := by
  refine CG.intro (by decide) (Nat.le_of_ble_eq_true rfl) ?_
  intro p e s m below meth c A Q hx hb hml hown hu hK hZ hP0 hD0 hS0 hA hri hrz hrl hrv hra ls0 hl0
  have h202 : ∀ (k149 : Int32 → Int32 → ST → Option (Int32 × ST)), (∀ (y1 : Int32) (y2 : Int32) (M : ST) (H : Heap) (locs : List Loc) (ls : Array Slot), va_P D vwCl (kX8 cs a (.ref (nn 0)) M) H → va_D A (kX8 cs a (.ref (nn 0)) M) → va_S A s.heap H locs → lv_has ls 4 [(0, .ref (a 0)), (1, .int y1), (2, .int y2)] → k149 y1 y2 M = some (r0, Mz) → W p l e rmX8_comes s m [.ref (a 0)].toArray below meth c H locs 0 0 Q (F0 m 149 ls [])) → ∀ (y1 : Int32) (y2 : Int32) (s0 : Int32) (M : ST) (H : Heap) (locs : List Loc) (ls : Array Slot), va_P D vwCl (kX8 cs a (.ref (nn 0)) M) H → va_D A (kX8 cs a (.ref (nn 0)) M) → va_S A s.heap H locs → lv_has ls 4 [(0, .ref (a 0)), (1, .int y1), (2, .int y2)] → fX8_comes_202 k149 y1 y2 s0 M = some (r0, Mz) → W p l e rmX8_comes s m [.ref (a 0)].toArray below meth c H locs 0 0 Q (F0 m 202 ls [.int s0, .ref (a 1)]) := by
    intro k149 hk149 y1 y2 s0 M H locs ls hP hD hS hl hf
    unfold fX8_comes_202 at hf
    refine lv_aload_n hx hb dX8_comes_202 rfl (lv_at hl 0 rfl) ?_
    refine lv_iload_n hx hb dX8_comes_203 rfl (lv_at hl 1 rfl) ?_
    obtain ⟨r12, M_13, hg14, hf⟩ := b2_el hf
    refine cc_V1 (w' := (kX8 cs a (.ref (nn 0)) M_13)) (st1 := [.int r12, .int s0, .ref (a 1)]) [.int y1] hx hb hml hown hu (tX8_would l D cs a nn y1 M r12 M_13 hg14) q1034 q62 q1031 q1033 q23 pdX8_would ⟨rfl, rfl, Nat.le_of_ble_eq_true rfl, Nat.le_of_ble_eq_true rfl⟩ hK hZ hP hD hS hA rfl rfl rfl rfl hl.1 rfl (Nat.le_of_ble_eq_true rfl) dX8_comes_204 rfl (fun H locs hP hD hS => ?_)
    obtain ⟨hi15, hf⟩ := ck_el hf
    obtain ⟨M_16, hM_16, hf⟩ := lt_el hf
    refine va_iast hx hb hK.1 hP hD hS 1 0 rfl rfl hi15 dX8_comes_207 (fun H locs hP hD hS => ?_)
    have hP : va_P D vwCl (kX8 cs a (.ref (nn 0)) M_16) H := by rw [hM_16]; exact hP
    have hD : va_D A (kX8 cs a (.ref (nn 0)) M_16) := by rw [hM_16]; exact hD
    obtain ⟨v17, hv17, hf⟩ := lt_el hf
    refine lv_iinc (v := v17) (lv' := [(2, .int v17), (0, .ref (a 0)), (1, .int y1)]) hx hb dX8_comes_208 hl (k := 2) rfl (by rw [hv17]; rfl) (by decide) rfl (fun ls hl => ?_)
    refine lv_goto (tgt := 149) hx hb dX8_comes_211 (by decide) ?_
    exact hk149 y1 v17 M_16 _ _ _ hP hD hS (lv_sub hl [1, 2, 0] rfl) hf
  have hs149 : ∀ (k149 : Int32 → Int32 → ST → Option (Int32 × ST)), (∀ (y1 : Int32) (y2 : Int32) (M : ST) (H : Heap) (locs : List Loc) (ls : Array Slot), va_P D vwCl (kX8 cs a (.ref (nn 0)) M) H → va_D A (kX8 cs a (.ref (nn 0)) M) → va_S A s.heap H locs → lv_has ls 4 [(0, .ref (a 0)), (1, .int y1), (2, .int y2)] → k149 y1 y2 M = some (r0, Mz) → W p l e rmX8_comes s m [.ref (a 0)].toArray below meth c H locs 0 0 Q (F0 m 149 ls [])) → ∀ (y1 : Int32) (y2 : Int32) (M : ST) (H : Heap) (locs : List Loc) (ls : Array Slot), va_P D vwCl (kX8 cs a (.ref (nn 0)) M) H → va_D A (kX8 cs a (.ref (nn 0)) M) → va_S A s.heap H locs → lv_has ls 4 [(0, .ref (a 0)), (1, .int y1), (2, .int y2)] → fX8_comes_149_s k149 y1 y2 M = some (r0, Mz) → W p l e rmX8_comes s m [.ref (a 0)].toArray below meth c H locs 0 0 Q (F0 m 149 ls []) := by
    intro k149 hk149 y1 y2 M H locs ls hP hD hS hl hf
    unfold fX8_comes_149_s at hf
    refine lv_iload_n hx hb dX8_comes_149 rfl (lv_at hl 2 rfl) ?_
    refine lv_aload_n hx hb dX8_comes_150 rfl (lv_at hl 0 rfl) ?_
    refine va_get (D := D) (ci := 8) (v := .ref (a 1)) (C := RX8) (T := TX8) (N := 26) hx hb hu inX8 hown hK.1 hP 0 rfl rfl 0 (by decide) (hu _ q917) (fun _ h9 => h9) rfl dX8_comes_151 ?_
    refine lv_iconst (v := 4) hx hb dX8_comes_154 (by decide) ?_
    refine ia_lit hx hb hK hP 1 4 rfl (by decide) dX8_comes_155 ?_
    refine lv_icmp_ge (tgt := 214) hx hb dX8_comes_156 (by decide) (fun hc10 => ?_) (fun hc10 => ?_)
    · have hf := ip_el hc10 hf
      refine lv_iload_n hx hb dX8_comes_214 rfl (lv_at hl 1 rfl) ?_
      have he := Option.some.inj hf
      obtain ⟨e0, e1⟩ := Prod.mk.inj he
      exact hri _ _ _ rfl (congrArg (fun z => some (Value.int z)) e0.symm) dX8_comes_215 _ _ _ (by rw [e1]) hP hD hS
    · have hf := in_el hc10 hf
      refine lv_aload_n hx hb dX8_comes_159 rfl (lv_at hl 0 rfl) ?_
      refine va_get (D := D) (ci := 8) (v := .ref (a 1)) (C := RX8) (T := TX8) (N := 26) hx hb hu inX8 hown hK.1 hP 0 rfl rfl 0 (by decide) (hu _ q917) (fun _ h9 => h9) rfl dX8_comes_160 ?_
      refine lv_bipush (v := 10) hx hb dX8_comes_163 (by decide) ?_
      refine lv_iload_n hx hb dX8_comes_165 rfl (lv_at hl 2 rfl) ?_
      refine lv_iadd hx hb dX8_comes_166 ?_
      refine lv_aload_n hx hb dX8_comes_167 rfl (lv_at hl 0 rfl) ?_
      refine va_get (D := D) (ci := 8) (v := .ref (a 1)) (C := RX8) (T := TX8) (N := 26) hx hb hu inX8 hown hK.1 hP 0 rfl rfl 0 (by decide) (hu _ q917) (fun _ h9 => h9) rfl dX8_comes_168 ?_
      refine lv_bipush (v := 8) hx hb dX8_comes_171 (by decide) ?_
      refine ia_lit hx hb hK hP 1 8 rfl (by decide) dX8_comes_173 ?_
      refine lv_iconst (v := 1) hx hb dX8_comes_174 (by decide) ?_
      refine lv_icmp_ne (tgt := 202) hx hb dX8_comes_175 (by decide) (fun hc11 => ?_) (fun hc11 => ?_)
      · have hf := in_el hc11 hf
        exact h202 k149 hk149 y1 y2 (10 + y2) M _ _ _ hP hD hS (lv_sub hl [0, 1, 2] rfl) hf
      · have hf := ip_el hc11 hf
        refine lv_aload_n hx hb dX8_comes_178 rfl (lv_at hl 0 rfl) ?_
        refine va_get (D := D) (ci := 8) (v := .ref (a 1)) (C := RX8) (T := TX8) (N := 26) hx hb hu inX8 hown hK.1 hP 0 rfl rfl 0 (by decide) (hu _ q917) (fun _ h9 => h9) rfl dX8_comes_179 ?_
        refine lv_bipush (v := 10) hx hb dX8_comes_182 (by decide) ?_
        refine lv_iload_n hx hb dX8_comes_184 rfl (lv_at hl 2 rfl) ?_
        refine lv_iadd hx hb dX8_comes_185 ?_
        obtain ⟨hi18, hf⟩ := ck_el hf
        refine va_iald hx hb hK.1 hP 1 0 rfl rfl hi18 dX8_comes_186 ?_
        refine lv_if_lt (tgt := 202) hx hb dX8_comes_187 (by decide) (fun hc19 => ?_) (fun hc19 => ?_)
        · have hf := ip_el hc19 hf
          exact h202 k149 hk149 y1 y2 (10 + y2) M _ _ _ hP hD hS (lv_sub hl [0, 1, 2] rfl) hf
        · have hf := in_el hc19 hf
          refine lv_aload_n hx hb dX8_comes_190 rfl (lv_at hl 0 rfl) ?_
          refine va_get (D := D) (ci := 8) (v := .ref (a 1)) (C := RX8) (T := TX8) (N := 26) hx hb hu inX8 hown hK.1 hP 0 rfl rfl 0 (by decide) (hu _ q917) (fun _ h9 => h9) rfl dX8_comes_191 ?_
          refine lv_bipush (v := 10) hx hb dX8_comes_194 (by decide) ?_
          refine lv_iload_n hx hb dX8_comes_196 rfl (lv_at hl 2 rfl) ?_
          refine lv_iadd hx hb dX8_comes_197 ?_
          obtain ⟨hi20, hf⟩ := ck_el hf
          refine va_iald hx hb hK.1 hP 1 0 rfl rfl hi20 dX8_comes_198 ?_
          refine lv_goto (tgt := 207) hx hb dX8_comes_199 (by decide) ?_
          obtain ⟨hi21, hf⟩ := ck_el hf
          obtain ⟨M_22, hM_22, hf⟩ := lt_el hf
          refine va_iast hx hb hK.1 hP hD hS 1 0 rfl rfl hi21 dX8_comes_207 (fun H locs hP hD hS => ?_)
          have hP : va_P D vwCl (kX8 cs a (.ref (nn 0)) M_22) H := by rw [hM_22]; exact hP
          have hD : va_D A (kX8 cs a (.ref (nn 0)) M_22) := by rw [hM_22]; exact hD
          obtain ⟨v23, hv23, hf⟩ := lt_el hf
          refine lv_iinc (v := v23) (lv' := [(2, .int v23), (0, .ref (a 0)), (1, .int y1)]) hx hb dX8_comes_208 hl (k := 2) rfl (by rw [hv23]; rfl) (by decide) rfl (fun ls hl => ?_)
          refine lv_goto (tgt := 149) hx hb dX8_comes_211 (by decide) ?_
          exact hk149 y1 v23 M_22 _ _ _ hP hD hS (lv_sub hl [1, 2, 0] rfl) hf
  have h149 : ∀ (n : Nat), ∀ (y1 : Int32) (y2 : Int32) (M : ST) (H : Heap) (locs : List Loc) (ls : Array Slot), va_P D vwCl (kX8 cs a (.ref (nn 0)) M) H → va_D A (kX8 cs a (.ref (nn 0)) M) → va_S A s.heap H locs → lv_has ls 4 [(0, .ref (a 0)), (1, .int y1), (2, .int y2)] → fX8_comes_149 n y1 y2 M = some (r0, Mz) → W p l e rmX8_comes s m [.ref (a 0)].toArray below meth c H locs 0 0 Q (F0 m 149 ls []) := by
    intro n
    induction n with
    | zero => intro y1 y2 M H locs ls hP hD hS hl hf; exact no_el hf
    | succ n ih => intro y1 y2 M H locs ls hP hD hS hl hf; exact hs149 _ ih y1 y2 M _ _ _ hP hD hS hl hf
  have h89 : ∀ (y1 : Int32) (M : ST) (H : Heap) (locs : List Loc) (ls : Array Slot), va_P D vwCl (kX8 cs a (.ref (nn 0)) M) H → va_D A (kX8 cs a (.ref (nn 0)) M) → va_S A s.heap H locs → lv_has ls 4 [(0, .ref (a 0)), (1, .int y1)] → fX8_comes_89 y1 M = some (r0, Mz) → W p l e rmX8_comes s m [.ref (a 0)].toArray below meth c H locs 0 0 Q (F0 m 89 ls []) := by
    intro y1 M H locs ls hP hD hS hl hf
    unfold fX8_comes_89 at hf
    refine lv_aload_n hx hb dX8_comes_89 rfl (lv_at hl 0 rfl) ?_
    refine va_get (D := D) (ci := 8) (v := .ref (a 1)) (C := RX8) (T := TX8) (N := 26) hx hb hu inX8 hown hK.1 hP 0 rfl rfl 0 (by decide) (hu _ q917) (fun _ h9 => h9) rfl dX8_comes_90 ?_
    refine lv_iconst (v := 1) hx hb dX8_comes_93 (by decide) ?_
    refine lv_iload_n hx hb dX8_comes_94 rfl (lv_at hl 1 rfl) ?_
    obtain ⟨M_2, hM_2, hf⟩ := lt_el hf
    refine is_lit hx hb hK hP hD hS 1 1 rfl (by decide) dX8_comes_95 (fun H locs hP hD hS => ?_)
    have hP : va_P D vwCl (kX8 cs a (.ref (nn 0)) M_2) H := by rw [hM_2]; exact hP
    have hD : va_D A (kX8 cs a (.ref (nn 0)) M_2) := by rw [hM_2]; exact hD
    refine lv_aload_n hx hb dX8_comes_96 rfl (lv_at hl 0 rfl) ?_
    refine va_get (D := D) (ci := 8) (v := .ref (a 1)) (C := RX8) (T := TX8) (N := 26) hx hb hu inX8 hown hK.1 hP 0 rfl rfl 0 (by decide) (hu _ q917) (fun _ h9 => h9) rfl dX8_comes_97 ?_
    refine lv_iconst (v := 2) hx hb dX8_comes_100 (by decide) ?_
    refine lv_iconst (v := 0) hx hb dX8_comes_101 (by decide) ?_
    obtain ⟨M_3, hM_3, hf⟩ := lt_el hf
    refine is_lit hx hb hK hP hD hS 1 2 rfl (by decide) dX8_comes_102 (fun H locs hP hD hS => ?_)
    have hP : va_P D vwCl (kX8 cs a (.ref (nn 0)) M_3) H := by rw [hM_3]; exact hP
    have hD : va_D A (kX8 cs a (.ref (nn 0)) M_3) := by rw [hM_3]; exact hD
    refine lv_iload_n hx hb dX8_comes_103 rfl (lv_at hl 1 rfl) ?_
    refine lv_if_lt (tgt := 214) hx hb dX8_comes_104 (by decide) (fun hc4 => ?_) (fun hc4 => ?_)
    · have hf := ip_el hc4 hf
      refine lv_iload_n hx hb dX8_comes_214 rfl (lv_at hl 1 rfl) ?_
      have he := Option.some.inj hf
      obtain ⟨e0, e1⟩ := Prod.mk.inj he
      exact hri _ _ _ rfl (congrArg (fun z => some (Value.int z)) e0.symm) dX8_comes_215 _ _ _ (by rw [e1]) hP hD hS
    · have hf := in_el hc4 hf
      refine lv_aload_n hx hb dX8_comes_107 rfl (lv_at hl 0 rfl) ?_
      refine va_get (D := D) (ci := 8) (v := .ref (a 1)) (C := RX8) (T := TX8) (N := 26) hx hb hu inX8 hown hK.1 hP 0 rfl rfl 0 (by decide) (hu _ q917) (fun _ h9 => h9) rfl dX8_comes_108 ?_
      refine lv_bipush (v := 14) hx hb dX8_comes_111 (by decide) ?_
      refine lv_bipush (v := 6) hx hb dX8_comes_113 (by decide) ?_
      refine lv_iload_n hx hb dX8_comes_115 rfl (lv_at hl 1 rfl) ?_
      refine lv_imul hx hb dX8_comes_116 ?_
      refine lv_iadd hx hb dX8_comes_117 ?_
      refine lv_iconst (v := 4) hx hb dX8_comes_118 (by decide) ?_
      refine lv_iadd hx hb dX8_comes_119 ?_
      refine lv_dup2_11 hx hb dX8_comes_120 rfl rfl ?_
      obtain ⟨hi5, hf⟩ := ck_el hf
      refine va_iald hx hb hK.1 hP 1 0 rfl rfl hi5 dX8_comes_121 ?_
      refine lv_iconst (v := 1) hx hb dX8_comes_122 (by decide) ?_
      refine lv_iadd hx hb dX8_comes_123 ?_
      obtain ⟨hi6, hf⟩ := ck_el hf
      obtain ⟨M_7, hM_7, hf⟩ := lt_el hf
      refine va_iast hx hb hK.1 hP hD hS 1 0 rfl rfl hi6 dX8_comes_124 (fun H locs hP hD hS => ?_)
      have hP : va_P D vwCl (kX8 cs a (.ref (nn 0)) M_7) H := by rw [hM_7]; exact hP
      have hD : va_D A (kX8 cs a (.ref (nn 0)) M_7) := by rw [hM_7]; exact hD
      refine lv_aload_n hx hb dX8_comes_125 rfl (lv_at hl 0 rfl) ?_
      refine va_get (D := D) (ci := 8) (v := .ref (a 1)) (C := RX8) (T := TX8) (N := 26) hx hb hu inX8 hown hK.1 hP 0 rfl rfl 0 (by decide) (hu _ q917) (fun _ h9 => h9) rfl dX8_comes_126 ?_
      refine lv_bipush (v := 8) hx hb dX8_comes_129 (by decide) ?_
      refine ia_lit hx hb hK hP 1 8 rfl (by decide) dX8_comes_131 ?_
      refine lv_iconst (v := 1) hx hb dX8_comes_132 (by decide) ?_
      refine lv_icmp_ne (tgt := 140) hx hb dX8_comes_133 (by decide) (fun hc8 => ?_) (fun hc8 => ?_)
      · have hf := in_el hc8 hf
        refine lv_aload_n hx hb dX8_comes_140 rfl (lv_at hl 0 rfl) ?_
        refine va_get (D := D) (ci := 8) (v := .ref (a 1)) (C := RX8) (T := TX8) (N := 26) hx hb hu inX8 hown hK.1 hP 0 rfl rfl 0 (by decide) (hu _ q917) (fun _ h9 => h9) rfl dX8_comes_141 ?_
        refine lv_iconst (v := 4) hx hb dX8_comes_144 (by decide) ?_
        refine ia_lit hx hb hK hP 1 4 rfl (by decide) dX8_comes_145 ?_
        refine lv_iconst (v := 1) hx hb dX8_comes_146 (by decide) ?_
        refine lv_isub hx hb dX8_comes_147 ?_
        obtain ⟨v9, hv9, hf⟩ := lt_el hf
        refine lv_tope hv9 ?_
        refine lv_istore_n (lv' := [(2, .int v9), (0, .ref (a 0)), (1, .int y1)]) hx hb dX8_comes_148 rfl hl (by decide) rfl (fun ls hl => ?_)
        exact h149 400 y1 v9 M_7 _ _ _ hP hD hS (lv_sub hl [1, 2, 0] rfl) hf
      · have hf := ip_el hc8 hf
        refine lv_iconst (v := 0) hx hb dX8_comes_136 (by decide) ?_
        refine lv_goto (tgt := 148) hx hb dX8_comes_137 (by decide) ?_
        refine lv_istore_n (lv' := [(2, .int 0), (0, .ref (a 0)), (1, .int y1)]) hx hb dX8_comes_148 rfl hl (by decide) rfl (fun ls hl => ?_)
        exact h149 400 y1 0 M_7 _ _ _ hP hD hS (lv_sub hl [1, 2, 0] rfl) hf
  have hs42 : ∀ (k4 : Int32 → Int32 → ST → Option (Int32 × ST)), (∀ (y1 : Int32) (y2 : Int32) (M : ST) (H : Heap) (locs : List Loc) (ls : Array Slot), va_P D vwCl (kX8 cs a (.ref (nn 0)) M) H → va_D A (kX8 cs a (.ref (nn 0)) M) → va_S A s.heap H locs → lv_has ls 4 [(0, .ref (a 0)), (1, .int y1), (2, .int y2)] → k4 y1 y2 M = some (r0, Mz) → W p l e rmX8_comes s m [.ref (a 0)].toArray below meth c H locs 0 0 Q (F0 m 4 ls [])) → ∀ (k42 : Int32 → Int32 → Int32 → ST → Option (Int32 × ST)), (∀ (y1 : Int32) (y2 : Int32) (y3 : Int32) (M : ST) (H : Heap) (locs : List Loc) (ls : Array Slot), va_P D vwCl (kX8 cs a (.ref (nn 0)) M) H → va_D A (kX8 cs a (.ref (nn 0)) M) → va_S A s.heap H locs → lv_has ls 4 [(0, .ref (a 0)), (1, .int y1), (2, .int y2), (3, .int y3)] → k42 y1 y2 y3 M = some (r0, Mz) → W p l e rmX8_comes s m [.ref (a 0)].toArray below meth c H locs 0 0 Q (F0 m 42 ls [])) → ∀ (y1 : Int32) (y2 : Int32) (y3 : Int32) (M : ST) (H : Heap) (locs : List Loc) (ls : Array Slot), va_P D vwCl (kX8 cs a (.ref (nn 0)) M) H → va_D A (kX8 cs a (.ref (nn 0)) M) → va_S A s.heap H locs → lv_has ls 4 [(0, .ref (a 0)), (1, .int y1), (2, .int y2), (3, .int y3)] → fX8_comes_42_s k4 k42 y1 y2 y3 M = some (r0, Mz) → W p l e rmX8_comes s m [.ref (a 0)].toArray below meth c H locs 0 0 Q (F0 m 42 ls []) := by
    intro k4 hk4 k42 hk42 y1 y2 y3 M H locs ls hP hD hS hl hf
    unfold fX8_comes_42_s at hf
    refine lv_iload_n hx hb dX8_comes_42 rfl (lv_at hl 3 rfl) ?_
    refine lv_iconst (v := 1) hx hb dX8_comes_43 (by decide) ?_
    refine lv_iadd hx hb dX8_comes_44 ?_
    refine lv_iconst (v := 4) hx hb dX8_comes_45 (by decide) ?_
    refine lv_icmp_ge (tgt := 75) hx hb dX8_comes_46 (by decide) (fun hc27 => ?_) (fun hc27 => ?_)
    · have hf := ip_el hc27 hf
      refine lv_aload_n hx hb dX8_comes_75 rfl (lv_at hl 0 rfl) ?_
      refine va_get (D := D) (ci := 8) (v := .ref (a 1)) (C := RX8) (T := TX8) (N := 26) hx hb hu inX8 hown hK.1 hP 0 rfl rfl 0 (by decide) (hu _ q917) (fun _ h9 => h9) rfl dX8_comes_76 ?_
      refine lv_bipush (v := 13) hx hb dX8_comes_79 (by decide) ?_
      refine lv_iconst (v := (-1)) hx hb dX8_comes_81 (by decide) ?_
      obtain ⟨M_28, hM_28, hf⟩ := lt_el hf
      refine is_lit hx hb hK hP hD hS 1 13 rfl (by decide) dX8_comes_82 (fun H locs hP hD hS => ?_)
      have hP : va_P D vwCl (kX8 cs a (.ref (nn 0)) M_28) H := by rw [hM_28]; exact hP
      have hD : va_D A (kX8 cs a (.ref (nn 0)) M_28) := by rw [hM_28]; exact hD
      obtain ⟨v29, hv29, hf⟩ := lt_el hf
      refine lv_iinc (v := v29) (lv' := [(2, .int v29), (0, .ref (a 0)), (1, .int y1), (3, .int y3)]) hx hb dX8_comes_83 hl (k := 2) rfl (by rw [hv29]; rfl) (by decide) rfl (fun ls hl => ?_)
      refine lv_goto (tgt := 4) hx hb dX8_comes_86 (by decide) ?_
      exact hk4 y1 v29 M_28 _ _ _ hP hD hS (lv_sub hl [1, 2, 0] rfl) hf
    · have hf := in_el hc27 hf
      refine lv_aload_n hx hb dX8_comes_49 rfl (lv_at hl 0 rfl) ?_
      refine va_get (D := D) (ci := 8) (v := .ref (a 1)) (C := RX8) (T := TX8) (N := 26) hx hb hu inX8 hown hK.1 hP 0 rfl rfl 0 (by decide) (hu _ q917) (fun _ h9 => h9) rfl dX8_comes_50 ?_
      refine lv_bipush (v := 10) hx hb dX8_comes_53 (by decide) ?_
      refine lv_iload_n hx hb dX8_comes_55 rfl (lv_at hl 3 rfl) ?_
      refine lv_iadd hx hb dX8_comes_56 ?_
      refine lv_aload_n hx hb dX8_comes_57 rfl (lv_at hl 0 rfl) ?_
      refine va_get (D := D) (ci := 8) (v := .ref (a 1)) (C := RX8) (T := TX8) (N := 26) hx hb hu inX8 hown hK.1 hP 0 rfl rfl 0 (by decide) (hu _ q917) (fun _ h9 => h9) rfl dX8_comes_58 ?_
      refine lv_bipush (v := 10) hx hb dX8_comes_61 (by decide) ?_
      refine lv_iload_n hx hb dX8_comes_63 rfl (lv_at hl 3 rfl) ?_
      refine lv_iadd hx hb dX8_comes_64 ?_
      refine lv_iconst (v := 1) hx hb dX8_comes_65 (by decide) ?_
      refine lv_iadd hx hb dX8_comes_66 ?_
      obtain ⟨hi30, hf⟩ := ck_el hf
      refine va_iald hx hb hK.1 hP 1 0 rfl rfl hi30 dX8_comes_67 ?_
      obtain ⟨hi31, hf⟩ := ck_el hf
      obtain ⟨M_32, hM_32, hf⟩ := lt_el hf
      refine va_iast hx hb hK.1 hP hD hS 1 0 rfl rfl hi31 dX8_comes_68 (fun H locs hP hD hS => ?_)
      have hP : va_P D vwCl (kX8 cs a (.ref (nn 0)) M_32) H := by rw [hM_32]; exact hP
      have hD : va_D A (kX8 cs a (.ref (nn 0)) M_32) := by rw [hM_32]; exact hD
      obtain ⟨v33, hv33, hf⟩ := lt_el hf
      refine lv_iinc (v := v33) (lv' := [(3, .int v33), (0, .ref (a 0)), (1, .int y1), (2, .int y2)]) hx hb dX8_comes_69 hl (k := 3) rfl (by rw [hv33]; rfl) (by decide) rfl (fun ls hl => ?_)
      refine lv_goto (tgt := 42) hx hb dX8_comes_72 (by decide) ?_
      exact hk42 y1 y2 v33 M_32 _ _ _ hP hD hS (lv_sub hl [1, 2, 3, 0] rfl) hf
  have h42 : ∀ (k4 : Int32 → Int32 → ST → Option (Int32 × ST)), (∀ (y1 : Int32) (y2 : Int32) (M : ST) (H : Heap) (locs : List Loc) (ls : Array Slot), va_P D vwCl (kX8 cs a (.ref (nn 0)) M) H → va_D A (kX8 cs a (.ref (nn 0)) M) → va_S A s.heap H locs → lv_has ls 4 [(0, .ref (a 0)), (1, .int y1), (2, .int y2)] → k4 y1 y2 M = some (r0, Mz) → W p l e rmX8_comes s m [.ref (a 0)].toArray below meth c H locs 0 0 Q (F0 m 4 ls [])) → ∀ (n : Nat), ∀ (y1 : Int32) (y2 : Int32) (y3 : Int32) (M : ST) (H : Heap) (locs : List Loc) (ls : Array Slot), va_P D vwCl (kX8 cs a (.ref (nn 0)) M) H → va_D A (kX8 cs a (.ref (nn 0)) M) → va_S A s.heap H locs → lv_has ls 4 [(0, .ref (a 0)), (1, .int y1), (2, .int y2), (3, .int y3)] → fX8_comes_42 k4 n y1 y2 y3 M = some (r0, Mz) → W p l e rmX8_comes s m [.ref (a 0)].toArray below meth c H locs 0 0 Q (F0 m 42 ls []) := by
    intro k4 hk4 n
    induction n with
    | zero => intro y1 y2 y3 M H locs ls hP hD hS hl hf; exact no_el hf
    | succ n ih => intro y1 y2 y3 M H locs ls hP hD hS hl hf; exact hs42 k4 hk4 _ ih y1 y2 y3 M _ _ _ hP hD hS hl hf
  have h32 : ∀ (k4 : Int32 → Int32 → ST → Option (Int32 × ST)), (∀ (y1 : Int32) (y2 : Int32) (M : ST) (H : Heap) (locs : List Loc) (ls : Array Slot), va_P D vwCl (kX8 cs a (.ref (nn 0)) M) H → va_D A (kX8 cs a (.ref (nn 0)) M) → va_S A s.heap H locs → lv_has ls 4 [(0, .ref (a 0)), (1, .int y1), (2, .int y2)] → k4 y1 y2 M = some (r0, Mz) → W p l e rmX8_comes s m [.ref (a 0)].toArray below meth c H locs 0 0 Q (F0 m 4 ls [])) → ∀ (y2 : Int32) (M : ST) (H : Heap) (locs : List Loc) (ls : Array Slot), va_P D vwCl (kX8 cs a (.ref (nn 0)) M) H → va_D A (kX8 cs a (.ref (nn 0)) M) → va_S A s.heap H locs → lv_has ls 4 [(0, .ref (a 0)), (2, .int y2)] → fX8_comes_32 k4 y2 M = some (r0, Mz) → W p l e rmX8_comes s m [.ref (a 0)].toArray below meth c H locs 0 0 Q (F0 m 32 ls []) := by
    intro k4 hk4 y2 M H locs ls hP hD hS hl hf
    unfold fX8_comes_32 at hf
    refine lv_aload_n hx hb dX8_comes_32 rfl (lv_at hl 0 rfl) ?_
    refine va_get (D := D) (ci := 8) (v := .ref (a 1)) (C := RX8) (T := TX8) (N := 26) hx hb hu inX8 hown hK.1 hP 0 rfl rfl 0 (by decide) (hu _ q917) (fun _ h9 => h9) rfl dX8_comes_33 ?_
    refine lv_bipush (v := 10) hx hb dX8_comes_36 (by decide) ?_
    refine ia_lit hx hb hK hP 1 10 rfl (by decide) dX8_comes_38 ?_
    obtain ⟨v26, hv26, hf⟩ := lt_el hf
    refine lv_tope hv26 ?_
    refine lv_istore_n (lv' := [(1, .int v26), (0, .ref (a 0)), (2, .int y2)]) hx hb dX8_comes_39 rfl hl (by decide) rfl (fun ls hl => ?_)
    refine lv_iconst (v := 0) hx hb dX8_comes_40 (by decide) ?_
    refine lv_istore_n (lv' := [(3, .int 0), (1, .int v26), (0, .ref (a 0)), (2, .int y2)]) hx hb dX8_comes_41 rfl hl (by decide) rfl (fun ls hl => ?_)
    exact h42 k4 hk4 400 v26 y2 0 M _ _ _ hP hD hS (lv_sub hl [2, 1, 3, 0] rfl) hf
  have hs4 : ∀ (k4 : Int32 → Int32 → ST → Option (Int32 × ST)), (∀ (y1 : Int32) (y2 : Int32) (M : ST) (H : Heap) (locs : List Loc) (ls : Array Slot), va_P D vwCl (kX8 cs a (.ref (nn 0)) M) H → va_D A (kX8 cs a (.ref (nn 0)) M) → va_S A s.heap H locs → lv_has ls 4 [(0, .ref (a 0)), (1, .int y1), (2, .int y2)] → k4 y1 y2 M = some (r0, Mz) → W p l e rmX8_comes s m [.ref (a 0)].toArray below meth c H locs 0 0 Q (F0 m 4 ls [])) → ∀ (y1 : Int32) (y2 : Int32) (M : ST) (H : Heap) (locs : List Loc) (ls : Array Slot), va_P D vwCl (kX8 cs a (.ref (nn 0)) M) H → va_D A (kX8 cs a (.ref (nn 0)) M) → va_S A s.heap H locs → lv_has ls 4 [(0, .ref (a 0)), (1, .int y1), (2, .int y2)] → fX8_comes_4_s k4 y1 y2 M = some (r0, Mz) → W p l e rmX8_comes s m [.ref (a 0)].toArray below meth c H locs 0 0 Q (F0 m 4 ls []) := by
    intro k4 hk4 y1 y2 M H locs ls hP hD hS hl hf
    unfold fX8_comes_4_s at hf
    refine lv_iload_n hx hb dX8_comes_4 rfl (lv_at hl 2 rfl) ?_
    refine lv_aload_n hx hb dX8_comes_5 rfl (lv_at hl 0 rfl) ?_
    refine va_get (D := D) (ci := 8) (v := .ref (a 1)) (C := RX8) (T := TX8) (N := 26) hx hb hu inX8 hown hK.1 hP 0 rfl rfl 0 (by decide) (hu _ q917) (fun _ h9 => h9) rfl dX8_comes_6 ?_
    refine lv_iconst (v := 4) hx hb dX8_comes_9 (by decide) ?_
    refine ia_lit hx hb hK hP 1 4 rfl (by decide) dX8_comes_10 ?_
    refine lv_icmp_ge (tgt := 89) hx hb dX8_comes_11 (by decide) (fun hc1 => ?_) (fun hc1 => ?_)
    · have hf := ip_el hc1 hf
      exact h89 y1 M _ _ _ hP hD hS (lv_sub hl [0, 1] rfl) hf
    · have hf := in_el hc1 hf
      refine lv_iload_n hx hb dX8_comes_14 rfl (lv_at hl 1 rfl) ?_
      refine lv_if_ge (tgt := 89) hx hb dX8_comes_15 (by decide) (fun hc24 => ?_) (fun hc24 => ?_)
      · have hf := ip_el hc24 hf
        exact h89 y1 M _ _ _ hP hD hS (lv_sub hl [0, 1] rfl) hf
      · have hf := in_el hc24 hf
        refine lv_iload_n hx hb dX8_comes_18 rfl (lv_at hl 2 rfl) ?_
        refine lv_if_eq (tgt := 32) hx hb dX8_comes_19 (by decide) (fun hc25 => ?_) (fun hc25 => ?_)
        · have hf := ip_el hc25 hf
          exact h32 k4 hk4 y2 M _ _ _ hP hD hS (lv_sub hl [0, 2] rfl) hf
        · have hf := in_el hc25 hf
          refine lv_aload_n hx hb dX8_comes_22 rfl (lv_at hl 0 rfl) ?_
          refine va_get (D := D) (ci := 8) (v := .ref (a 1)) (C := RX8) (T := TX8) (N := 26) hx hb hu inX8 hown hK.1 hP 0 rfl rfl 0 (by decide) (hu _ q917) (fun _ h9 => h9) rfl dX8_comes_23 ?_
          refine lv_bipush (v := 8) hx hb dX8_comes_26 (by decide) ?_
          refine ia_lit hx hb hK hP 1 8 rfl (by decide) dX8_comes_28 ?_
          refine lv_if_ne (tgt := 89) hx hb dX8_comes_29 (by decide) (fun hc34 => ?_) (fun hc34 => ?_)
          · have hf := in_el hc34 hf
            exact h89 y1 M _ _ _ hP hD hS (lv_sub hl [0, 1] rfl) hf
          · have hf := ip_el hc34 hf
            exact h32 k4 hk4 y2 M _ _ _ hP hD hS (lv_sub hl [0, 2] rfl) hf
  have h4 : ∀ (n : Nat), ∀ (y1 : Int32) (y2 : Int32) (M : ST) (H : Heap) (locs : List Loc) (ls : Array Slot), va_P D vwCl (kX8 cs a (.ref (nn 0)) M) H → va_D A (kX8 cs a (.ref (nn 0)) M) → va_S A s.heap H locs → lv_has ls 4 [(0, .ref (a 0)), (1, .int y1), (2, .int y2)] → fX8_comes_4 n y1 y2 M = some (r0, Mz) → W p l e rmX8_comes s m [.ref (a 0)].toArray below meth c H locs 0 0 Q (F0 m 4 ls []) := by
    intro n
    induction n with
    | zero => intro y1 y2 M H locs ls hP hD hS hl hf; exact no_el hf
    | succ n ih => intro y1 y2 M H locs ls hP hD hS hl hf; exact hs4 _ ih y1 y2 M _ _ _ hP hD hS hl hf
  have hl : lv_has ls0 4 [(0, .ref (a 0))] := hl0
  have hP := hP0
  have hD := hD0
  have hS := hS0
  unfold fX8_comes at hf
  refine lv_iconst (v := (-1)) hx hb dX8_comes_0 (by decide) ?_
  refine lv_istore_n (lv' := [(1, .int (-1)), (0, .ref (a 0))]) hx hb dX8_comes_1 rfl hl (by decide) rfl (fun ls hl => ?_)
  refine lv_iconst (v := 0) hx hb dX8_comes_2 (by decide) ?_
  refine lv_istore_n (lv' := [(2, .int 0), (1, .int (-1)), (0, .ref (a 0))]) hx hb dX8_comes_3 rfl hl (by decide) rfl (fun ls hl => ?_)
  exact h4 400 (-1) 0 M _ _ _ hP hD hS (lv_sub hl [2, 1, 0] rfl) hf

def fX8_of_20 (M : ST) : Option (Int32 × ST) :=
  dc_b2 (fX8_finds (-1000000001) M) (fun r4 M_5 => some (r4, M_5))
def fX8_of (x1 : Int32) (x2 : Int32) (M : ST) : Option (Int32 × ST) :=
  dc_b1 (fX8_isPerson x1 M) (fun r1 => (if r1 = 0 then fX8_of_20 M else dc_b1 (fX8_isIn (x2.toInt64) 0 7) (fun r7 => (if r7 = 0 then fX8_of_20 M else (if 6 ≤ x2 then (if x2 = 6 then dc_b1 (fX8_placeOf x1 M) (fun r15 => some (r15, M)) else dc_b2 (fX8_would x1 M) (fun r12 M_13 => some (r12, M_13))) else dc_b1 (fX8_has0 x1 x2 M) (fun r17 => some (r17, M)))))))
abbrev rmX8_of : Room := { frames := 11, cells := 0, slots := 0, locals := 269 }
set_option maxRecDepth 100000 in
set_option maxHeartbeats 4000000 in
theorem tX8_of (l : Launch) (D : va_G) (cs : Nat → ClassId) (a : Nat → Nat) (nn : Nat → Nat) (x1 : Int32) (x2 : Int32) (M : ST) (r0 : Int32) (Mz : ST) (hf : fX8_of x1 x2 M = some (r0, Mz)) : CG l yX8_of (wsm yX8_of cX8_of 3 (some .int)) rmX8_of D cs [.ref (a 0), .int x1, .int x2] (some (.int r0)) (kX8 cs a (.ref (nn 0)) M) (kX8 cs a (.ref (nn 0)) Mz) := by
  refine CG.intro (by decide) (Nat.le_of_ble_eq_true rfl) ?_
  intro p e s m below meth c A Q hx hb hml hown hu hK hZ hP0 hD0 hS0 hA hri hrz hrl hrv hra ls0 hl0
  have h20 : ∀ (M : ST) (H : Heap) (locs : List Loc) (ls : Array Slot), va_P D vwCl (kX8 cs a (.ref (nn 0)) M) H → va_D A (kX8 cs a (.ref (nn 0)) M) → va_S A s.heap H locs → lv_has ls 3 [(0, .ref (a 0))] → fX8_of_20 M = some (r0, Mz) → W p l e rmX8_of s m [.ref (a 0), .int x1, .int x2].toArray below meth c H locs 0 0 Q (F0 m 20 ls []) := by
    intro M H locs ls hP hD hS hl hf
    unfold fX8_of_20 at hf
    refine lv_aload_n hx hb dX8_of_20 rfl (lv_at hl 0 rfl) ?_
    refine lv_ldc (v := (-1000000001)) hx hb hown (hu _ q1008) dX8_of_21 ?_
    obtain ⟨r4, M_5, hg6, hf⟩ := b2_el hf
    refine cc_V1 (w' := (kX8 cs a (.ref (nn 0)) M_5)) (st1 := [.int r4]) [.int (-1000000001)] hx hb hml hown hu (tX8_finds l D cs a nn (-1000000001) M r4 M_5 hg6) q1012 q62 q1009 q1011 q19 pdX8_finds ⟨rfl, rfl, Nat.le_of_ble_eq_true rfl, Nat.le_of_ble_eq_true rfl⟩ hK hZ hP hD hS hA rfl rfl rfl rfl hl.1 rfl (Nat.le_of_ble_eq_true rfl) dX8_of_23 rfl (fun H locs hP hD hS => ?_)
    have he := Option.some.inj hf
    obtain ⟨e0, e1⟩ := Prod.mk.inj he
    exact hri _ _ _ rfl (congrArg (fun z => some (Value.int z)) e0.symm) dX8_of_26 _ _ _ (by rw [e1]) hP hD hS
  have hl : lv_has ls0 3 [(0, .ref (a 0)), (1, .int x1), (2, .int x2)] := hl0
  have hP := hP0
  have hD := hD0
  have hS := hS0
  unfold fX8_of at hf
  refine lv_aload_n hx hb dX8_of_0 rfl (lv_at hl 0 rfl) ?_
  refine lv_iload_n hx hb dX8_of_1 rfl (lv_at hl 1 rfl) ?_
  obtain ⟨r1, hg2, hf⟩ := b1_el hf
  refine cc_V1 (w' := (kX8 cs a (.ref (nn 0)) M)) (st1 := [.int r1]) [.int x1] hx hb hml hown hu (tX8_isPerson l D cs a nn x1 M r1 hg2) q1021 q62 q1018 q1020 q20 pdX8_isPerson ⟨rfl, rfl, Nat.le_of_ble_eq_true rfl, Nat.le_of_ble_eq_true rfl⟩ hK hZ hP hD hS hA rfl rfl rfl rfl hl.1 rfl (Nat.le_of_ble_eq_true rfl) dX8_of_2 rfl (fun H locs hP hD hS => ?_)
  refine lv_if_eq (tgt := 20) hx hb dX8_of_5 (by decide) (fun hc3 => ?_) (fun hc3 => ?_)
  · have hf := ip_el hc3 hf
    exact h20 M _ _ _ hP hD hS (lv_sub hl [0] rfl) hf
  · have hf := in_el hc3 hf
    refine lv_iload_n hx hb dX8_of_8 rfl (lv_at hl 2 rfl) ?_
    refine lv_i2l (v := (x2.toInt64)) hx hb dX8_of_9 rfl ?_
    refine lv_lconst (v := 0) hx hb dX8_of_10 (by decide) ?_
    refine lv_ldc2 (v := 7) hx hb hown (hu _ q1022) dX8_of_11 ?_
    obtain ⟨r7, hg8, hf⟩ := b1_el hf
    refine cc_S0 (st1 := [.int r7]) [.long (x2.toInt64), .long 0, .long 7] hx hb hml hown hu (tX8_isIn l D cs (x2.toInt64) 0 7 r7 hg8) q1004 q62 q1002 q1003 pdX8_isIn ⟨rfl, rfl, Nat.le_of_ble_eq_true rfl, Nat.le_of_ble_eq_true rfl⟩ hK hZ hP hD hS hA rfl hl.1 rfl (Nat.le_of_ble_eq_true rfl) dX8_of_14 rfl (fun H locs hP hD hS => ?_)
    refine lv_if_ne (tgt := 27) hx hb dX8_of_17 (by decide) (fun hc9 => ?_) (fun hc9 => ?_)
    · have hf := in_el hc9 hf
      refine lv_iload_n hx hb dX8_of_27 rfl (lv_at hl 2 rfl) ?_
      refine lv_bipush (v := 6) hx hb dX8_of_28 (by decide) ?_
      refine lv_icmp_ge (tgt := 42) hx hb dX8_of_30 (by decide) (fun hc10 => ?_) (fun hc10 => ?_)
      · have hf := ip_el hc10 hf
        refine lv_iload_n hx hb dX8_of_42 rfl (lv_at hl 2 rfl) ?_
        refine lv_bipush (v := 6) hx hb dX8_of_43 (by decide) ?_
        refine lv_icmp_ne (tgt := 56) hx hb dX8_of_45 (by decide) (fun hc11 => ?_) (fun hc11 => ?_)
        · have hf := in_el hc11 hf
          refine lv_aload_n hx hb dX8_of_56 rfl (lv_at hl 0 rfl) ?_
          refine lv_iload_n hx hb dX8_of_57 rfl (lv_at hl 1 rfl) ?_
          obtain ⟨r12, M_13, hg14, hf⟩ := b2_el hf
          refine cc_V1 (w' := (kX8 cs a (.ref (nn 0)) M_13)) (st1 := [.int r12]) [.int x1] hx hb hml hown hu (tX8_would l D cs a nn x1 M r12 M_13 hg14) q1034 q62 q1031 q1033 q23 pdX8_would ⟨rfl, rfl, Nat.le_of_ble_eq_true rfl, Nat.le_of_ble_eq_true rfl⟩ hK hZ hP hD hS hA rfl rfl rfl rfl hl.1 rfl (Nat.le_of_ble_eq_true rfl) dX8_of_58 rfl (fun H locs hP hD hS => ?_)
          have he := Option.some.inj hf
          obtain ⟨e0, e1⟩ := Prod.mk.inj he
          exact hri _ _ _ rfl (congrArg (fun z => some (Value.int z)) e0.symm) dX8_of_61 _ _ _ (by rw [e1]) hP hD hS
        · have hf := ip_el hc11 hf
          refine lv_aload_n hx hb dX8_of_48 rfl (lv_at hl 0 rfl) ?_
          refine lv_iload_n hx hb dX8_of_49 rfl (lv_at hl 1 rfl) ?_
          obtain ⟨r15, hg16, hf⟩ := b1_el hf
          refine cc_V1 (w' := (kX8 cs a (.ref (nn 0)) M)) (st1 := [.int r15]) [.int x1] hx hb hml hown hu (tX8_placeOf l D cs a nn x1 M r15 hg16) q1030 q62 q1027 q1029 q22 pdX8_placeOf ⟨rfl, rfl, Nat.le_of_ble_eq_true rfl, Nat.le_of_ble_eq_true rfl⟩ hK hZ hP hD hS hA rfl rfl rfl rfl hl.1 rfl (Nat.le_of_ble_eq_true rfl) dX8_of_50 rfl (fun H locs hP hD hS => ?_)
          refine lv_goto (tgt := 61) hx hb dX8_of_53 (by decide) ?_
          have he := Option.some.inj hf
          obtain ⟨e0, e1⟩ := Prod.mk.inj he
          exact hri _ _ _ rfl (congrArg (fun z => some (Value.int z)) e0.symm) dX8_of_61 _ _ _ (by rw [e1]) hP hD hS
      · have hf := in_el hc10 hf
        refine lv_aload_n hx hb dX8_of_33 rfl (lv_at hl 0 rfl) ?_
        refine lv_iload_n hx hb dX8_of_34 rfl (lv_at hl 1 rfl) ?_
        refine lv_iload_n hx hb dX8_of_35 rfl (lv_at hl 2 rfl) ?_
        obtain ⟨r17, hg18, hf⟩ := b1_el hf
        refine cc_V1 (w' := (kX8 cs a (.ref (nn 0)) M)) (st1 := [.int r17]) [.int x1, .int x2] hx hb hml hown hu (tX8_has0 l D cs a nn x1 x2 M r17 hg18) q1026 q62 q1023 q1025 q21 pdX8_has0 ⟨rfl, rfl, Nat.le_of_ble_eq_true rfl, Nat.le_of_ble_eq_true rfl⟩ hK hZ hP hD hS hA rfl rfl rfl rfl hl.1 rfl (Nat.le_of_ble_eq_true rfl) dX8_of_36 rfl (fun H locs hP hD hS => ?_)
        refine lv_goto (tgt := 61) hx hb dX8_of_39 (by decide) ?_
        have he := Option.some.inj hf
        obtain ⟨e0, e1⟩ := Prod.mk.inj he
        exact hri _ _ _ rfl (congrArg (fun z => some (Value.int z)) e0.symm) dX8_of_61 _ _ _ (by rw [e1]) hP hD hS
    · have hf := ip_el hc9 hf
      exact h20 M _ _ _ hP hD hS (lv_sub hl [0] rfl) hf

def fX8_follows_16 (M : ST) : Option (Int32 × ST) :=
  dc_b2 (fX8_finds (-1000000001) M) (fun r4 M_5 => some (r4, M_5))
def fX8_follows_49 (M : ST) : Option (Int32 × ST) :=
  dc_b2 (fX8_finds (-1000000005) M) (fun r13 M_14 => some (r13, M_14))
def fX8_follows (x1 : Int32) (x2 : Int32) (M : ST) : Option (Int32 × ST) :=
  dc_b1 (fX8_isPerson x1 M) (fun r1 => (if r1 = 0 then fX8_follows_16 M else dc_b1 (fX8_isPerson x2 M) (fun r7 => (if r7 = 0 then fX8_follows_16 M else dc_b1 (fX8_isAlive x1 M) (fun r10 => (if r10 = 0 then fX8_follows_49 M else dc_b1 (fX8_mayName x1 x2 M) (fun r16 => (if r16 = 0 then fX8_follows_49 M else dc_b2 (fX8_followsBy x1 x2 M) (fun r19 M_20 => some (r19, M_20))))))))))
abbrev rmX8_follows : Room := { frames := 8, cells := 0, slots := 0, locals := 194 }
set_option maxRecDepth 100000 in
set_option maxHeartbeats 4000000 in
theorem tX8_follows (l : Launch) (D : va_G) (cs : Nat → ClassId) (a : Nat → Nat) (nn : Nat → Nat) (x1 : Int32) (x2 : Int32) (M : ST) (r0 : Int32) (Mz : ST) (hf : fX8_follows x1 x2 M = some (r0, Mz)) : CG l yX8_follows (wsm yX8_follows cX8_follows 3 (some .int)) rmX8_follows D cs [.ref (a 0), .int x1, .int x2] (some (.int r0)) (kX8 cs a (.ref (nn 0)) M) (kX8 cs a (.ref (nn 0)) Mz) := by
  refine CG.intro (by decide) (Nat.le_of_ble_eq_true rfl) ?_
  intro p e s m below meth c A Q hx hb hml hown hu hK hZ hP0 hD0 hS0 hA hri hrz hrl hrv hra ls0 hl0
  have h16 : ∀ (M : ST) (H : Heap) (locs : List Loc) (ls : Array Slot), va_P D vwCl (kX8 cs a (.ref (nn 0)) M) H → va_D A (kX8 cs a (.ref (nn 0)) M) → va_S A s.heap H locs → lv_has ls 3 [(0, .ref (a 0))] → fX8_follows_16 M = some (r0, Mz) → W p l e rmX8_follows s m [.ref (a 0), .int x1, .int x2].toArray below meth c H locs 0 0 Q (F0 m 16 ls []) := by
    intro M H locs ls hP hD hS hl hf
    unfold fX8_follows_16 at hf
    refine lv_aload_n hx hb dX8_follows_16 rfl (lv_at hl 0 rfl) ?_
    refine lv_ldc (v := (-1000000001)) hx hb hown (hu _ q1008) dX8_follows_17 ?_
    obtain ⟨r4, M_5, hg6, hf⟩ := b2_el hf
    refine cc_V1 (w' := (kX8 cs a (.ref (nn 0)) M_5)) (st1 := [.int r4]) [.int (-1000000001)] hx hb hml hown hu (tX8_finds l D cs a nn (-1000000001) M r4 M_5 hg6) q1012 q62 q1009 q1011 q19 pdX8_finds ⟨rfl, rfl, Nat.le_of_ble_eq_true rfl, Nat.le_of_ble_eq_true rfl⟩ hK hZ hP hD hS hA rfl rfl rfl rfl hl.1 rfl (Nat.le_of_ble_eq_true rfl) dX8_follows_19 rfl (fun H locs hP hD hS => ?_)
    have he := Option.some.inj hf
    obtain ⟨e0, e1⟩ := Prod.mk.inj he
    exact hri _ _ _ rfl (congrArg (fun z => some (Value.int z)) e0.symm) dX8_follows_22 _ _ _ (by rw [e1]) hP hD hS
  have h49 : ∀ (M : ST) (H : Heap) (locs : List Loc) (ls : Array Slot), va_P D vwCl (kX8 cs a (.ref (nn 0)) M) H → va_D A (kX8 cs a (.ref (nn 0)) M) → va_S A s.heap H locs → lv_has ls 3 [(0, .ref (a 0))] → fX8_follows_49 M = some (r0, Mz) → W p l e rmX8_follows s m [.ref (a 0), .int x1, .int x2].toArray below meth c H locs 0 0 Q (F0 m 49 ls []) := by
    intro M H locs ls hP hD hS hl hf
    unfold fX8_follows_49 at hf
    refine lv_aload_n hx hb dX8_follows_49 rfl (lv_at hl 0 rfl) ?_
    refine lv_ldc (v := (-1000000005)) hx hb hown (hu _ q1128) dX8_follows_50 ?_
    obtain ⟨r13, M_14, hg15, hf⟩ := b2_el hf
    refine cc_V1 (w' := (kX8 cs a (.ref (nn 0)) M_14)) (st1 := [.int r13]) [.int (-1000000005)] hx hb hml hown hu (tX8_finds l D cs a nn (-1000000005) M r13 M_14 hg15) q1012 q62 q1009 q1011 q19 pdX8_finds ⟨rfl, rfl, Nat.le_of_ble_eq_true rfl, Nat.le_of_ble_eq_true rfl⟩ hK hZ hP hD hS hA rfl rfl rfl rfl hl.1 rfl (Nat.le_of_ble_eq_true rfl) dX8_follows_52 rfl (fun H locs hP hD hS => ?_)
    have he := Option.some.inj hf
    obtain ⟨e0, e1⟩ := Prod.mk.inj he
    exact hri _ _ _ rfl (congrArg (fun z => some (Value.int z)) e0.symm) dX8_follows_55 _ _ _ (by rw [e1]) hP hD hS
  have hl : lv_has ls0 3 [(0, .ref (a 0)), (1, .int x1), (2, .int x2)] := hl0
  have hP := hP0
  have hD := hD0
  have hS := hS0
  unfold fX8_follows at hf
  refine lv_aload_n hx hb dX8_follows_0 rfl (lv_at hl 0 rfl) ?_
  refine lv_iload_n hx hb dX8_follows_1 rfl (lv_at hl 1 rfl) ?_
  obtain ⟨r1, hg2, hf⟩ := b1_el hf
  refine cc_V1 (w' := (kX8 cs a (.ref (nn 0)) M)) (st1 := [.int r1]) [.int x1] hx hb hml hown hu (tX8_isPerson l D cs a nn x1 M r1 hg2) q1021 q62 q1018 q1020 q20 pdX8_isPerson ⟨rfl, rfl, Nat.le_of_ble_eq_true rfl, Nat.le_of_ble_eq_true rfl⟩ hK hZ hP hD hS hA rfl rfl rfl rfl hl.1 rfl (Nat.le_of_ble_eq_true rfl) dX8_follows_2 rfl (fun H locs hP hD hS => ?_)
  refine lv_if_eq (tgt := 16) hx hb dX8_follows_5 (by decide) (fun hc3 => ?_) (fun hc3 => ?_)
  · have hf := ip_el hc3 hf
    exact h16 M _ _ _ hP hD hS (lv_sub hl [0] rfl) hf
  · have hf := in_el hc3 hf
    refine lv_aload_n hx hb dX8_follows_8 rfl (lv_at hl 0 rfl) ?_
    refine lv_iload_n hx hb dX8_follows_9 rfl (lv_at hl 2 rfl) ?_
    obtain ⟨r7, hg8, hf⟩ := b1_el hf
    refine cc_V1 (w' := (kX8 cs a (.ref (nn 0)) M)) (st1 := [.int r7]) [.int x2] hx hb hml hown hu (tX8_isPerson l D cs a nn x2 M r7 hg8) q1021 q62 q1018 q1020 q20 pdX8_isPerson ⟨rfl, rfl, Nat.le_of_ble_eq_true rfl, Nat.le_of_ble_eq_true rfl⟩ hK hZ hP hD hS hA rfl rfl rfl rfl hl.1 rfl (Nat.le_of_ble_eq_true rfl) dX8_follows_10 rfl (fun H locs hP hD hS => ?_)
    refine lv_if_ne (tgt := 23) hx hb dX8_follows_13 (by decide) (fun hc9 => ?_) (fun hc9 => ?_)
    · have hf := in_el hc9 hf
      refine lv_aload_n hx hb dX8_follows_23 rfl (lv_at hl 0 rfl) ?_
      refine lv_iload_n hx hb dX8_follows_24 rfl (lv_at hl 1 rfl) ?_
      obtain ⟨r10, hg11, hf⟩ := b1_el hf
      refine cc_V1 (w' := (kX8 cs a (.ref (nn 0)) M)) (st1 := [.int r10]) [.int x1] hx hb hml hown hu (tX8_isAlive l D cs a nn x1 M r10 hg11) q1042 q62 q1039 q1041 q25 pdX8_isAlive ⟨rfl, rfl, Nat.le_of_ble_eq_true rfl, Nat.le_of_ble_eq_true rfl⟩ hK hZ hP hD hS hA rfl rfl rfl rfl hl.1 rfl (Nat.le_of_ble_eq_true rfl) dX8_follows_25 rfl (fun H locs hP hD hS => ?_)
      refine lv_if_eq (tgt := 49) hx hb dX8_follows_28 (by decide) (fun hc12 => ?_) (fun hc12 => ?_)
      · have hf := ip_el hc12 hf
        exact h49 M _ _ _ hP hD hS (lv_sub hl [0] rfl) hf
      · have hf := in_el hc12 hf
        refine lv_aload_n hx hb dX8_follows_31 rfl (lv_at hl 0 rfl) ?_
        refine lv_iload_n hx hb dX8_follows_32 rfl (lv_at hl 1 rfl) ?_
        refine lv_iload_n hx hb dX8_follows_33 rfl (lv_at hl 2 rfl) ?_
        obtain ⟨r16, hg17, hf⟩ := b1_el hf
        refine cc_V1 (w' := (kX8 cs a (.ref (nn 0)) M)) (st1 := [.int r16]) [.int x1, .int x2] hx hb hml hown hu (tX8_mayName l D cs a nn x1 x2 M r16 hg17) q1038 q62 q1035 q1037 q24 pdX8_mayName ⟨rfl, rfl, Nat.le_of_ble_eq_true rfl, Nat.le_of_ble_eq_true rfl⟩ hK hZ hP hD hS hA rfl rfl rfl rfl hl.1 rfl (Nat.le_of_ble_eq_true rfl) dX8_follows_34 rfl (fun H locs hP hD hS => ?_)
        refine lv_if_eq (tgt := 49) hx hb dX8_follows_37 (by decide) (fun hc18 => ?_) (fun hc18 => ?_)
        · have hf := ip_el hc18 hf
          exact h49 M _ _ _ hP hD hS (lv_sub hl [0] rfl) hf
        · have hf := in_el hc18 hf
          refine lv_aload_n hx hb dX8_follows_40 rfl (lv_at hl 0 rfl) ?_
          refine lv_iload_n hx hb dX8_follows_41 rfl (lv_at hl 1 rfl) ?_
          refine lv_iload_n hx hb dX8_follows_42 rfl (lv_at hl 2 rfl) ?_
          obtain ⟨r19, M_20, hg21, hf⟩ := b2_el hf
          refine cc_V1 (w' := (kX8 cs a (.ref (nn 0)) M_20)) (st1 := [.int r19]) [.int x1, .int x2] hx hb hml hown hu (tX8_followsBy l D cs a nn x1 x2 M r19 M_20 hg21) q1077 q62 q1074 q1076 q33 pdX8_followsBy ⟨rfl, rfl, Nat.le_of_ble_eq_true rfl, Nat.le_of_ble_eq_true rfl⟩ hK hZ hP hD hS hA rfl rfl rfl rfl hl.1 rfl (Nat.le_of_ble_eq_true rfl) dX8_follows_43 rfl (fun H locs hP hD hS => ?_)
          refine lv_goto (tgt := 55) hx hb dX8_follows_46 (by decide) ?_
          have he := Option.some.inj hf
          obtain ⟨e0, e1⟩ := Prod.mk.inj he
          exact hri _ _ _ rfl (congrArg (fun z => some (Value.int z)) e0.symm) dX8_follows_55 _ _ _ (by rw [e1]) hP hD hS
    · have hf := ip_el hc9 hf
      exact h16 M _ _ _ hP hD hS (lv_sub hl [0] rfl) hf

def fX8_come (M : ST) : Option (Int32 × ST) :=
  dc_b2 (fX8_comes M) (fun r1 M_2 => some (r1, M_2))
abbrev rmX8_come : Room := { frames := 12, cells := 0, slots := 0, locals := 292 }
set_option maxRecDepth 100000 in
set_option maxHeartbeats 4000000 in
theorem tX8_come (l : Launch) (D : va_G) (cs : Nat → ClassId) (a : Nat → Nat) (nn : Nat → Nat) (M : ST) (r0 : Int32) (Mz : ST) (hf : fX8_come M = some (r0, Mz)) : CG l yX8_come (wsm yX8_come cX8_come 1 (some .int)) rmX8_come D cs [.ref (a 0)] (some (.int r0)) (kX8 cs a (.ref (nn 0)) M) (kX8 cs a (.ref (nn 0)) Mz) := by
  refine CG.intro (by decide) (Nat.le_of_ble_eq_true rfl) ?_
  intro p e s m below meth c A Q hx hb hml hown hu hK hZ hP0 hD0 hS0 hA hri hrz hrl hrv hra ls0 hl0
  have hl : lv_has ls0 1 [(0, .ref (a 0))] := hl0
  have hP := hP0
  have hD := hD0
  have hS := hS0
  unfold fX8_come at hf
  refine lv_aload_n hx hb dX8_come_0 rfl (lv_at hl 0 rfl) ?_
  obtain ⟨r1, M_2, hg3, hf⟩ := b2_el hf
  refine cc_V1 (w' := (kX8 cs a (.ref (nn 0)) M_2)) (st1 := [.int r1]) [] hx hb hml hown hu (tX8_comes l D cs a nn M r1 M_2 hg3) q1081 q62 q1078 q1080 q34 pdX8_comes ⟨rfl, rfl, Nat.le_of_ble_eq_true rfl, Nat.le_of_ble_eq_true rfl⟩ hK hZ hP hD hS hA rfl rfl rfl rfl hl.1 rfl (Nat.le_of_ble_eq_true rfl) dX8_come_1 rfl (fun H locs hP hD hS => ?_)
  have he := Option.some.inj hf
  obtain ⟨e0, e1⟩ := Prod.mk.inj he
  exact hri _ _ _ rfl (congrArg (fun z => some (Value.int z)) e0.symm) dX8_come_4 _ _ _ (by rw [e1]) hP hD hS

def fX8_year_197 (M : ST) : Option (Int32 × ST) :=
  dc_b2 (fX8_comes M) (fun r6 M_7 => (if r6 < 0 then some (0, M_7) else some (1, M_7)))
def fX8_year_86_s (k86 : Int32 → ST → Option (Int32 × ST)) (y1 : Int32) (M : ST) : Option (Int32 × ST) :=
  (if (M 1 0) ≤ y1 then (if (M 1 1) < 0 then fX8_year_197 M else (if (M 1 2) < (M 1 5) then some (0, M) else fX8_year_197 M)) else dc_b1 (fX8_isAlive y1 M) (fun r11 => (if r11 = 0 then dc_lt (y1 + 1) (fun v14 => k86 v14 M) else dc_lt (sti M 1 3 (((M 1 3) * 1103515245) + 12345)) (fun M_15 => dc_b1 (fX8_has0 y1 1 M_15) (fun r16 => dc_lt (r16 - 40) (fun v18 => (if v18 ≤ 0 then dc_lt (y1 + 1) (fun v20 => k86 v20 M_15) else (if ((M_15 1 9) * v18) ≤ ((dc_ushr (M_15 1 3) 8) - (dc_ushr (M_15 1 3) 8) / 1000 * 1000) then dc_lt (y1 + 1) (fun v22 => k86 v22 M_15) else dc_b1 (fX8_dies y1 M_15) (fun M_23 => dc_lt (y1 + 1) (fun v25 => k86 v25 M_23))))))))))
def fX8_year_86 : Nat → Int32 → ST → Option (Int32 × ST)
  | 0 => fun _ _ => none
  | n + 1 => fX8_year_86_s (fX8_year_86 n)
def fX8_year_2_s (k2 : Int32 → ST → Option (Int32 × ST)) (y1 : Int32) (M : ST) : Option (Int32 × ST) :=
  (if (M 1 0) ≤ y1 then (if (M 1 1) < 0 then dc_lt (sti M 1 2 ((M 1 2) + 0)) (fun M_3 => fX8_year_86 400 0 M_3) else dc_lt (sti M 1 2 ((M 1 2) + 1)) (fun M_26 => fX8_year_86 400 0 M_26)) else dc_lt ((14 + (6 * y1)) + 1) (fun v27 => dc_ck v27 271 (dc_b1 (fX8_isAlive y1 M) (fun r29 => (if r29 = 0 then dc_ck v27 271 (dc_lt (sti M 1 (Int32.toNatClampNeg v27) ((M 1 (Int32.toNatClampNeg v27)) + 0)) (fun M_33 => dc_lt (y1 + 1) (fun v34 => k2 v34 M_33))) else dc_ck v27 271 ((if 99 ≤ (M 1 (Int32.toNatClampNeg v27)) then dc_ck v27 271 (dc_lt (sti M 1 (Int32.toNatClampNeg v27) ((M 1 (Int32.toNatClampNeg v27)) + 0)) (fun M_38 => dc_lt (y1 + 1) (fun v39 => k2 v39 M_38))) else dc_ck v27 271 (dc_lt (sti M 1 (Int32.toNatClampNeg v27) ((M 1 (Int32.toNatClampNeg v27)) + 1)) (fun M_41 => dc_lt (y1 + 1) (fun v42 => k2 v42 M_41))))))))))
def fX8_year_2 : Nat → Int32 → ST → Option (Int32 × ST)
  | 0 => fun _ _ => none
  | n + 1 => fX8_year_2_s (fX8_year_2 n)
def fX8_year (M : ST) : Option (Int32 × ST) :=
  fX8_year_2 400 0 M
abbrev rmX8_year : Room := { frames := 12, cells := 0, slots := 0, locals := 292 }
set_option maxRecDepth 100000 in
set_option maxHeartbeats 4000000 in
theorem tX8_year (l : Launch) (D : va_G) (cs : Nat → ClassId) (a : Nat → Nat) (nn : Nat → Nat) (M : ST) (r0 : Int32) (Mz : ST) (hf : fX8_year M = some (r0, Mz)) : CG l yX8_year (wsm yX8_year cX8_year 3 (some .boolean)) rmX8_year D cs [.ref (a 0)] (some (.int r0)) (kX8 cs a (.ref (nn 0)) M) (kX8 cs a (.ref (nn 0)) Mz) := by
  refine CG.intro (by decide) (Nat.le_of_ble_eq_true rfl) ?_
  intro p e s m below meth c A Q hx hb hml hown hu hK hZ hP0 hD0 hS0 hA hri hrz hrl hrv hra ls0 hl0
  have h197 : ∀ (M : ST) (H : Heap) (locs : List Loc) (ls : Array Slot), va_P D vwCl (kX8 cs a (.ref (nn 0)) M) H → va_D A (kX8 cs a (.ref (nn 0)) M) → va_S A s.heap H locs → lv_has ls 3 [(0, .ref (a 0))] → fX8_year_197 M = some (r0, Mz) → W p l e rmX8_year s m [.ref (a 0)].toArray below meth c H locs 0 0 Q (F0 m 197 ls []) := by
    intro M H locs ls hP hD hS hl hf
    unfold fX8_year_197 at hf
    refine lv_aload_n hx hb dX8_year_197 rfl (lv_at hl 0 rfl) ?_
    obtain ⟨r6, M_7, hg8, hf⟩ := b2_el hf
    refine cc_V1 (w' := (kX8 cs a (.ref (nn 0)) M_7)) (st1 := [.int r6]) [] hx hb hml hown hu (tX8_comes l D cs a nn M r6 M_7 hg8) q1081 q62 q1078 q1080 q34 pdX8_comes ⟨rfl, rfl, Nat.le_of_ble_eq_true rfl, Nat.le_of_ble_eq_true rfl⟩ hK hZ hP hD hS hA rfl rfl rfl rfl hl.1 rfl (Nat.le_of_ble_eq_true rfl) dX8_year_198 rfl (fun H locs hP hD hS => ?_)
    refine lv_if_lt (tgt := 208) hx hb dX8_year_201 (by decide) (fun hc9 => ?_) (fun hc9 => ?_)
    · have hf := ip_el hc9 hf
      refine lv_iconst (v := 0) hx hb dX8_year_208 (by decide) ?_
      have he := Option.some.inj hf
      obtain ⟨e0, e1⟩ := Prod.mk.inj he
      exact hrz _ _ _ .boolean rfl rfl (congrArg (fun z => some (Value.int z)) e0.symm) dX8_year_209 _ _ _ (by rw [e1]) hP hD hS
    · have hf := in_el hc9 hf
      refine lv_iconst (v := 1) hx hb dX8_year_204 (by decide) ?_
      refine lv_goto (tgt := 209) hx hb dX8_year_205 (by decide) ?_
      have he := Option.some.inj hf
      obtain ⟨e0, e1⟩ := Prod.mk.inj he
      exact hrz _ _ _ .boolean rfl rfl (congrArg (fun z => some (Value.int z)) e0.symm) dX8_year_209 _ _ _ (by rw [e1]) hP hD hS
  have hs86 : ∀ (k86 : Int32 → ST → Option (Int32 × ST)), (∀ (y1 : Int32) (M : ST) (H : Heap) (locs : List Loc) (ls : Array Slot), va_P D vwCl (kX8 cs a (.ref (nn 0)) M) H → va_D A (kX8 cs a (.ref (nn 0)) M) → va_S A s.heap H locs → lv_has ls 3 [(0, .ref (a 0)), (1, .int y1)] → k86 y1 M = some (r0, Mz) → W p l e rmX8_year s m [.ref (a 0)].toArray below meth c H locs 0 0 Q (F0 m 86 ls [])) → ∀ (y1 : Int32) (M : ST) (H : Heap) (locs : List Loc) (ls : Array Slot), va_P D vwCl (kX8 cs a (.ref (nn 0)) M) H → va_D A (kX8 cs a (.ref (nn 0)) M) → va_S A s.heap H locs → lv_has ls 3 [(0, .ref (a 0)), (1, .int y1)] → fX8_year_86_s k86 y1 M = some (r0, Mz) → W p l e rmX8_year s m [.ref (a 0)].toArray below meth c H locs 0 0 Q (F0 m 86 ls []) := by
    intro k86 hk86 y1 M H locs ls hP hD hS hl hf
    unfold fX8_year_86_s at hf
    refine lv_iload_n hx hb dX8_year_86 rfl (lv_at hl 1 rfl) ?_
    refine lv_aload_n hx hb dX8_year_87 rfl (lv_at hl 0 rfl) ?_
    refine va_get (D := D) (ci := 8) (v := .ref (a 1)) (C := RX8) (T := TX8) (N := 26) hx hb hu inX8 hown hK.1 hP 0 rfl rfl 0 (by decide) (hu _ q917) (fun _ h9 => h9) rfl dX8_year_88 ?_
    refine lv_iconst (v := 0) hx hb dX8_year_91 (by decide) ?_
    refine ia_lit hx hb hK hP 1 0 rfl (by decide) dX8_year_92 ?_
    refine lv_icmp_ge (tgt := 173) hx hb dX8_year_93 (by decide) (fun hc4 => ?_) (fun hc4 => ?_)
    · have hf := ip_el hc4 hf
      refine lv_aload_n hx hb dX8_year_173 rfl (lv_at hl 0 rfl) ?_
      refine va_get (D := D) (ci := 8) (v := .ref (a 1)) (C := RX8) (T := TX8) (N := 26) hx hb hu inX8 hown hK.1 hP 0 rfl rfl 0 (by decide) (hu _ q917) (fun _ h9 => h9) rfl dX8_year_174 ?_
      refine lv_iconst (v := 1) hx hb dX8_year_177 (by decide) ?_
      refine ia_lit hx hb hK hP 1 1 rfl (by decide) dX8_year_178 ?_
      refine lv_if_lt (tgt := 197) hx hb dX8_year_179 (by decide) (fun hc5 => ?_) (fun hc5 => ?_)
      · have hf := ip_el hc5 hf
        exact h197 M _ _ _ hP hD hS (lv_sub hl [0] rfl) hf
      · have hf := in_el hc5 hf
        refine lv_aload_n hx hb dX8_year_182 rfl (lv_at hl 0 rfl) ?_
        refine va_get (D := D) (ci := 8) (v := .ref (a 1)) (C := RX8) (T := TX8) (N := 26) hx hb hu inX8 hown hK.1 hP 0 rfl rfl 0 (by decide) (hu _ q917) (fun _ h9 => h9) rfl dX8_year_183 ?_
        refine lv_iconst (v := 2) hx hb dX8_year_186 (by decide) ?_
        refine ia_lit hx hb hK hP 1 2 rfl (by decide) dX8_year_187 ?_
        refine lv_aload_n hx hb dX8_year_188 rfl (lv_at hl 0 rfl) ?_
        refine va_get (D := D) (ci := 8) (v := .ref (a 1)) (C := RX8) (T := TX8) (N := 26) hx hb hu inX8 hown hK.1 hP 0 rfl rfl 0 (by decide) (hu _ q917) (fun _ h9 => h9) rfl dX8_year_189 ?_
        refine lv_iconst (v := 5) hx hb dX8_year_192 (by decide) ?_
        refine ia_lit hx hb hK hP 1 5 rfl (by decide) dX8_year_193 ?_
        refine lv_icmp_lt (tgt := 208) hx hb dX8_year_194 (by decide) (fun hc10 => ?_) (fun hc10 => ?_)
        · have hf := ip_el hc10 hf
          refine lv_iconst (v := 0) hx hb dX8_year_208 (by decide) ?_
          have he := Option.some.inj hf
          obtain ⟨e0, e1⟩ := Prod.mk.inj he
          exact hrz _ _ _ .boolean rfl rfl (congrArg (fun z => some (Value.int z)) e0.symm) dX8_year_209 _ _ _ (by rw [e1]) hP hD hS
        · have hf := in_el hc10 hf
          exact h197 M _ _ _ hP hD hS (lv_sub hl [0] rfl) hf
    · have hf := in_el hc4 hf
      refine lv_aload_n hx hb dX8_year_96 rfl (lv_at hl 0 rfl) ?_
      refine lv_iload_n hx hb dX8_year_97 rfl (lv_at hl 1 rfl) ?_
      obtain ⟨r11, hg12, hf⟩ := b1_el hf
      refine cc_V1 (w' := (kX8 cs a (.ref (nn 0)) M)) (st1 := [.int r11]) [.int y1] hx hb hml hown hu (tX8_isAlive l D cs a nn y1 M r11 hg12) q1042 q62 q1039 q1041 q25 pdX8_isAlive ⟨rfl, rfl, Nat.le_of_ble_eq_true rfl, Nat.le_of_ble_eq_true rfl⟩ hK hZ hP hD hS hA rfl rfl rfl rfl hl.1 rfl (Nat.le_of_ble_eq_true rfl) dX8_year_98 rfl (fun H locs hP hD hS => ?_)
      refine lv_if_eq (tgt := 167) hx hb dX8_year_101 (by decide) (fun hc13 => ?_) (fun hc13 => ?_)
      · have hf := ip_el hc13 hf
        obtain ⟨v14, hv14, hf⟩ := lt_el hf
        refine lv_iinc (v := v14) (lv' := [(1, .int v14), (0, .ref (a 0))]) hx hb dX8_year_167 hl (k := 1) rfl (by rw [hv14]; rfl) (by decide) rfl (fun ls hl => ?_)
        refine lv_goto (tgt := 86) hx hb dX8_year_170 (by decide) ?_
        exact hk86 v14 M _ _ _ hP hD hS (lv_sub hl [1, 0] rfl) hf
      · have hf := in_el hc13 hf
        refine lv_aload_n hx hb dX8_year_104 rfl (lv_at hl 0 rfl) ?_
        refine va_get (D := D) (ci := 8) (v := .ref (a 1)) (C := RX8) (T := TX8) (N := 26) hx hb hu inX8 hown hK.1 hP 0 rfl rfl 0 (by decide) (hu _ q917) (fun _ h9 => h9) rfl dX8_year_105 ?_
        refine lv_iconst (v := 3) hx hb dX8_year_108 (by decide) ?_
        refine lv_aload_n hx hb dX8_year_109 rfl (lv_at hl 0 rfl) ?_
        refine va_get (D := D) (ci := 8) (v := .ref (a 1)) (C := RX8) (T := TX8) (N := 26) hx hb hu inX8 hown hK.1 hP 0 rfl rfl 0 (by decide) (hu _ q917) (fun _ h9 => h9) rfl dX8_year_110 ?_
        refine lv_iconst (v := 3) hx hb dX8_year_113 (by decide) ?_
        refine ia_lit hx hb hK hP 1 3 rfl (by decide) dX8_year_114 ?_
        refine lv_ldc (v := 1103515245) hx hb hown (hu _ q1154) dX8_year_115 ?_
        refine lv_imul hx hb dX8_year_117 ?_
        refine lv_sipush (v := 12345) hx hb dX8_year_118 (by decide) ?_
        refine lv_iadd hx hb dX8_year_121 ?_
        obtain ⟨M_15, hM_15, hf⟩ := lt_el hf
        refine is_lit hx hb hK hP hD hS 1 3 rfl (by decide) dX8_year_122 (fun H locs hP hD hS => ?_)
        have hP : va_P D vwCl (kX8 cs a (.ref (nn 0)) M_15) H := by rw [hM_15]; exact hP
        have hD : va_D A (kX8 cs a (.ref (nn 0)) M_15) := by rw [hM_15]; exact hD
        refine lv_aload_n hx hb dX8_year_123 rfl (lv_at hl 0 rfl) ?_
        refine lv_iload_n hx hb dX8_year_124 rfl (lv_at hl 1 rfl) ?_
        refine lv_iconst (v := 1) hx hb dX8_year_125 (by decide) ?_
        obtain ⟨r16, hg17, hf⟩ := b1_el hf
        refine cc_V1 (w' := (kX8 cs a (.ref (nn 0)) M_15)) (st1 := [.int r16]) [.int y1, .int 1] hx hb hml hown hu (tX8_has0 l D cs a nn y1 1 M_15 r16 hg17) q1026 q62 q1023 q1025 q21 pdX8_has0 ⟨rfl, rfl, Nat.le_of_ble_eq_true rfl, Nat.le_of_ble_eq_true rfl⟩ hK hZ hP hD hS hA rfl rfl rfl rfl hl.1 rfl (Nat.le_of_ble_eq_true rfl) dX8_year_126 rfl (fun H locs hP hD hS => ?_)
        refine lv_bipush (v := 40) hx hb dX8_year_129 (by decide) ?_
        refine lv_isub hx hb dX8_year_131 ?_
        obtain ⟨v18, hv18, hf⟩ := lt_el hf
        refine lv_tope hv18 ?_
        refine lv_istore_n (lv' := [(2, .int v18), (0, .ref (a 0)), (1, .int y1)]) hx hb dX8_year_132 rfl hl (by decide) rfl (fun ls hl => ?_)
        refine lv_iload_n hx hb dX8_year_133 rfl (lv_at hl 0 rfl) ?_
        refine lv_if_le (tgt := 167) hx hb dX8_year_134 (by decide) (fun hc19 => ?_) (fun hc19 => ?_)
        · have hf := ip_el hc19 hf
          obtain ⟨v20, hv20, hf⟩ := lt_el hf
          refine lv_iinc (v := v20) (lv' := [(1, .int v20), (2, .int v18), (0, .ref (a 0))]) hx hb dX8_year_167 hl (k := 2) rfl (by rw [hv20]; rfl) (by decide) rfl (fun ls hl => ?_)
          refine lv_goto (tgt := 86) hx hb dX8_year_170 (by decide) ?_
          exact hk86 v20 M_15 _ _ _ hP hD hS (lv_sub hl [2, 0] rfl) hf
        · have hf := in_el hc19 hf
          refine lv_aload_n hx hb dX8_year_137 rfl (lv_at hl 1 rfl) ?_
          refine va_get (D := D) (ci := 8) (v := .ref (a 1)) (C := RX8) (T := TX8) (N := 26) hx hb hu inX8 hown hK.1 hP 0 rfl rfl 0 (by decide) (hu _ q917) (fun _ h9 => h9) rfl dX8_year_138 ?_
          refine lv_iconst (v := 3) hx hb dX8_year_141 (by decide) ?_
          refine ia_lit hx hb hK hP 1 3 rfl (by decide) dX8_year_142 ?_
          refine lv_bipush (v := 8) hx hb dX8_year_143 (by decide) ?_
          refine lv_iushr (v := (dc_ushr (M_15 1 3) 8)) hx hb dX8_year_145 rfl ?_
          refine lv_sipush (v := 1000) hx hb dX8_year_146 (by decide) ?_
          refine lv_irem hx hb dX8_year_149 (by decide) ?_
          refine lv_aload_n hx hb dX8_year_150 rfl (lv_at hl 1 rfl) ?_
          refine va_get (D := D) (ci := 8) (v := .ref (a 1)) (C := RX8) (T := TX8) (N := 26) hx hb hu inX8 hown hK.1 hP 0 rfl rfl 0 (by decide) (hu _ q917) (fun _ h9 => h9) rfl dX8_year_151 ?_
          refine lv_bipush (v := 9) hx hb dX8_year_154 (by decide) ?_
          refine ia_lit hx hb hK hP 1 9 rfl (by decide) dX8_year_156 ?_
          refine lv_iload_n hx hb dX8_year_157 rfl (lv_at hl 0 rfl) ?_
          refine lv_imul hx hb dX8_year_158 ?_
          refine lv_icmp_ge (tgt := 167) hx hb dX8_year_159 (by decide) (fun hc21 => ?_) (fun hc21 => ?_)
          · have hf := ip_el hc21 hf
            obtain ⟨v22, hv22, hf⟩ := lt_el hf
            refine lv_iinc (v := v22) (lv' := [(1, .int v22), (2, .int v18), (0, .ref (a 0))]) hx hb dX8_year_167 hl (k := 2) rfl (by rw [hv22]; rfl) (by decide) rfl (fun ls hl => ?_)
            refine lv_goto (tgt := 86) hx hb dX8_year_170 (by decide) ?_
            exact hk86 v22 M_15 _ _ _ hP hD hS (lv_sub hl [2, 0] rfl) hf
          · have hf := in_el hc21 hf
            refine lv_aload_n hx hb dX8_year_162 rfl (lv_at hl 1 rfl) ?_
            refine lv_iload_n hx hb dX8_year_163 rfl (lv_at hl 2 rfl) ?_
            obtain ⟨M_23, hg24, hf⟩ := b1_el hf
            refine cc_V1 (w' := (kX8 cs a (.ref (nn 0)) M_23)) (st1 := []) [.int y1] hx hb hml hown hu (tX8_dies l D cs a nn y1 M_15 M_23 hg24) q1158 q62 q1155 q1157 q38 pdX8_dies ⟨rfl, rfl, Nat.le_of_ble_eq_true rfl, Nat.le_of_ble_eq_true rfl⟩ hK hZ hP hD hS hA rfl rfl rfl rfl hl.1 rfl (Nat.le_of_ble_eq_true rfl) dX8_year_164 rfl (fun H locs hP hD hS => ?_)
            obtain ⟨v25, hv25, hf⟩ := lt_el hf
            refine lv_iinc (v := v25) (lv' := [(1, .int v25), (2, .int v18), (0, .ref (a 0))]) hx hb dX8_year_167 hl (k := 2) rfl (by rw [hv25]; rfl) (by decide) rfl (fun ls hl => ?_)
            refine lv_goto (tgt := 86) hx hb dX8_year_170 (by decide) ?_
            exact hk86 v25 M_23 _ _ _ hP hD hS (lv_sub hl [2, 0] rfl) hf
  have h86 : ∀ (n : Nat), ∀ (y1 : Int32) (M : ST) (H : Heap) (locs : List Loc) (ls : Array Slot), va_P D vwCl (kX8 cs a (.ref (nn 0)) M) H → va_D A (kX8 cs a (.ref (nn 0)) M) → va_S A s.heap H locs → lv_has ls 3 [(0, .ref (a 0)), (1, .int y1)] → fX8_year_86 n y1 M = some (r0, Mz) → W p l e rmX8_year s m [.ref (a 0)].toArray below meth c H locs 0 0 Q (F0 m 86 ls []) := by
    intro n
    induction n with
    | zero => intro y1 M H locs ls hP hD hS hl hf; exact no_el hf
    | succ n ih => intro y1 M H locs ls hP hD hS hl hf; exact hs86 _ ih y1 M _ _ _ hP hD hS hl hf
  have hs2 : ∀ (k2 : Int32 → ST → Option (Int32 × ST)), (∀ (y1 : Int32) (M : ST) (H : Heap) (locs : List Loc) (ls : Array Slot), va_P D vwCl (kX8 cs a (.ref (nn 0)) M) H → va_D A (kX8 cs a (.ref (nn 0)) M) → va_S A s.heap H locs → lv_has ls 3 [(0, .ref (a 0)), (1, .int y1)] → k2 y1 M = some (r0, Mz) → W p l e rmX8_year s m [.ref (a 0)].toArray below meth c H locs 0 0 Q (F0 m 2 ls [])) → ∀ (y1 : Int32) (M : ST) (H : Heap) (locs : List Loc) (ls : Array Slot), va_P D vwCl (kX8 cs a (.ref (nn 0)) M) H → va_D A (kX8 cs a (.ref (nn 0)) M) → va_S A s.heap H locs → lv_has ls 3 [(0, .ref (a 0)), (1, .int y1)] → fX8_year_2_s k2 y1 M = some (r0, Mz) → W p l e rmX8_year s m [.ref (a 0)].toArray below meth c H locs 0 0 Q (F0 m 2 ls []) := by
    intro k2 hk2 y1 M H locs ls hP hD hS hl hf
    unfold fX8_year_2_s at hf
    refine lv_iload_n hx hb dX8_year_2 rfl (lv_at hl 1 rfl) ?_
    refine lv_aload_n hx hb dX8_year_3 rfl (lv_at hl 0 rfl) ?_
    refine va_get (D := D) (ci := 8) (v := .ref (a 1)) (C := RX8) (T := TX8) (N := 26) hx hb hu inX8 hown hK.1 hP 0 rfl rfl 0 (by decide) (hu _ q917) (fun _ h9 => h9) rfl dX8_year_4 ?_
    refine lv_iconst (v := 0) hx hb dX8_year_7 (by decide) ?_
    refine ia_lit hx hb hK hP 1 0 rfl (by decide) dX8_year_8 ?_
    refine lv_icmp_ge (tgt := 61) hx hb dX8_year_9 (by decide) (fun hc1 => ?_) (fun hc1 => ?_)
    · have hf := ip_el hc1 hf
      refine lv_aload_n hx hb dX8_year_61 rfl (lv_at hl 0 rfl) ?_
      refine va_get (D := D) (ci := 8) (v := .ref (a 1)) (C := RX8) (T := TX8) (N := 26) hx hb hu inX8 hown hK.1 hP 0 rfl rfl 0 (by decide) (hu _ q917) (fun _ h9 => h9) rfl dX8_year_62 ?_
      refine lv_iconst (v := 2) hx hb dX8_year_65 (by decide) ?_
      refine lv_dup2_11 hx hb dX8_year_66 rfl rfl ?_
      refine ia_lit hx hb hK hP 1 2 rfl (by decide) dX8_year_67 ?_
      refine lv_aload_n hx hb dX8_year_68 rfl (lv_at hl 0 rfl) ?_
      refine va_get (D := D) (ci := 8) (v := .ref (a 1)) (C := RX8) (T := TX8) (N := 26) hx hb hu inX8 hown hK.1 hP 0 rfl rfl 0 (by decide) (hu _ q917) (fun _ h9 => h9) rfl dX8_year_69 ?_
      refine lv_iconst (v := 1) hx hb dX8_year_72 (by decide) ?_
      refine ia_lit hx hb hK hP 1 1 rfl (by decide) dX8_year_73 ?_
      refine lv_if_lt (tgt := 81) hx hb dX8_year_74 (by decide) (fun hc2 => ?_) (fun hc2 => ?_)
      · have hf := ip_el hc2 hf
        refine lv_iconst (v := 0) hx hb dX8_year_81 (by decide) ?_
        refine lv_iadd hx hb dX8_year_82 ?_
        obtain ⟨M_3, hM_3, hf⟩ := lt_el hf
        refine is_lit hx hb hK hP hD hS 1 2 rfl (by decide) dX8_year_83 (fun H locs hP hD hS => ?_)
        have hP : va_P D vwCl (kX8 cs a (.ref (nn 0)) M_3) H := by rw [hM_3]; exact hP
        have hD : va_D A (kX8 cs a (.ref (nn 0)) M_3) := by rw [hM_3]; exact hD
        refine lv_iconst (v := 0) hx hb dX8_year_84 (by decide) ?_
        refine lv_istore_n (lv' := [(1, .int 0), (0, .ref (a 0))]) hx hb dX8_year_85 rfl hl (by decide) rfl (fun ls hl => ?_)
        exact h86 400 0 M_3 _ _ _ hP hD hS (lv_sub hl [1, 0] rfl) hf
      · have hf := in_el hc2 hf
        refine lv_iconst (v := 1) hx hb dX8_year_77 (by decide) ?_
        refine lv_goto (tgt := 82) hx hb dX8_year_78 (by decide) ?_
        refine lv_iadd hx hb dX8_year_82 ?_
        obtain ⟨M_26, hM_26, hf⟩ := lt_el hf
        refine is_lit hx hb hK hP hD hS 1 2 rfl (by decide) dX8_year_83 (fun H locs hP hD hS => ?_)
        have hP : va_P D vwCl (kX8 cs a (.ref (nn 0)) M_26) H := by rw [hM_26]; exact hP
        have hD : va_D A (kX8 cs a (.ref (nn 0)) M_26) := by rw [hM_26]; exact hD
        refine lv_iconst (v := 0) hx hb dX8_year_84 (by decide) ?_
        refine lv_istore_n (lv' := [(1, .int 0), (0, .ref (a 0))]) hx hb dX8_year_85 rfl hl (by decide) rfl (fun ls hl => ?_)
        exact h86 400 0 M_26 _ _ _ hP hD hS (lv_sub hl [1, 0] rfl) hf
    · have hf := in_el hc1 hf
      refine lv_bipush (v := 14) hx hb dX8_year_12 (by decide) ?_
      refine lv_bipush (v := 6) hx hb dX8_year_14 (by decide) ?_
      refine lv_iload_n hx hb dX8_year_16 rfl (lv_at hl 1 rfl) ?_
      refine lv_imul hx hb dX8_year_17 ?_
      refine lv_iadd hx hb dX8_year_18 ?_
      refine lv_iconst (v := 1) hx hb dX8_year_19 (by decide) ?_
      refine lv_iadd hx hb dX8_year_20 ?_
      obtain ⟨v27, hv27, hf⟩ := lt_el hf
      refine lv_tope hv27 ?_
      refine lv_istore_n (lv' := [(2, .int v27), (0, .ref (a 0)), (1, .int y1)]) hx hb dX8_year_21 rfl hl (by decide) rfl (fun ls hl => ?_)
      refine lv_aload_n hx hb dX8_year_22 rfl (lv_at hl 1 rfl) ?_
      refine va_get (D := D) (ci := 8) (v := .ref (a 1)) (C := RX8) (T := TX8) (N := 26) hx hb hu inX8 hown hK.1 hP 0 rfl rfl 0 (by decide) (hu _ q917) (fun _ h9 => h9) rfl dX8_year_23 ?_
      refine lv_iload_n hx hb dX8_year_26 rfl (lv_at hl 0 rfl) ?_
      refine lv_dup2_11 hx hb dX8_year_27 rfl rfl ?_
      obtain ⟨hi28, hf⟩ := ck_el hf
      refine va_iald hx hb hK.1 hP 1 0 rfl rfl hi28 dX8_year_28 ?_
      refine lv_aload_n hx hb dX8_year_29 rfl (lv_at hl 1 rfl) ?_
      refine lv_iload_n hx hb dX8_year_30 rfl (lv_at hl 2 rfl) ?_
      obtain ⟨r29, hg30, hf⟩ := b1_el hf
      refine cc_V1 (w' := (kX8 cs a (.ref (nn 0)) M)) (st1 := [.int r29, .int (M 1 (Int32.toNatClampNeg v27)), .int v27, .ref (a 1)]) [.int y1] hx hb hml hown hu (tX8_isAlive l D cs a nn y1 M r29 hg30) q1042 q62 q1039 q1041 q25 pdX8_isAlive ⟨rfl, rfl, Nat.le_of_ble_eq_true rfl, Nat.le_of_ble_eq_true rfl⟩ hK hZ hP hD hS hA rfl rfl rfl rfl hl.1 rfl (Nat.le_of_ble_eq_true rfl) dX8_year_31 rfl (fun H locs hP hD hS => ?_)
      refine lv_if_eq (tgt := 52) hx hb dX8_year_34 (by decide) (fun hc31 => ?_) (fun hc31 => ?_)
      · have hf := ip_el hc31 hf
        refine lv_iconst (v := 0) hx hb dX8_year_52 (by decide) ?_
        refine lv_iadd hx hb dX8_year_53 ?_
        obtain ⟨hi32, hf⟩ := ck_el hf
        obtain ⟨M_33, hM_33, hf⟩ := lt_el hf
        refine va_iast hx hb hK.1 hP hD hS 1 0 rfl rfl hi32 dX8_year_54 (fun H locs hP hD hS => ?_)
        have hP : va_P D vwCl (kX8 cs a (.ref (nn 0)) M_33) H := by rw [hM_33]; exact hP
        have hD : va_D A (kX8 cs a (.ref (nn 0)) M_33) := by rw [hM_33]; exact hD
        obtain ⟨v34, hv34, hf⟩ := lt_el hf
        refine lv_iinc (v := v34) (lv' := [(1, .int v34), (2, .int v27), (0, .ref (a 0))]) hx hb dX8_year_55 hl (k := 2) rfl (by rw [hv34]; rfl) (by decide) rfl (fun ls hl => ?_)
        refine lv_goto (tgt := 2) hx hb dX8_year_58 (by decide) ?_
        exact hk2 v34 M_33 _ _ _ hP hD hS (lv_sub hl [2, 0] rfl) hf
      · have hf := in_el hc31 hf
        refine lv_aload_n hx hb dX8_year_37 rfl (lv_at hl 1 rfl) ?_
        refine va_get (D := D) (ci := 8) (v := .ref (a 1)) (C := RX8) (T := TX8) (N := 26) hx hb hu inX8 hown hK.1 hP 0 rfl rfl 0 (by decide) (hu _ q917) (fun _ h9 => h9) rfl dX8_year_38 ?_
        refine lv_iload_n hx hb dX8_year_41 rfl (lv_at hl 0 rfl) ?_
        obtain ⟨hi35, hf⟩ := ck_el hf
        refine va_iald hx hb hK.1 hP 1 0 rfl rfl hi35 dX8_year_42 ?_
        refine lv_bipush (v := 99) hx hb dX8_year_43 (by decide) ?_
        refine lv_icmp_ge (tgt := 52) hx hb dX8_year_45 (by decide) (fun hc36 => ?_) (fun hc36 => ?_)
        · have hf := ip_el hc36 hf
          refine lv_iconst (v := 0) hx hb dX8_year_52 (by decide) ?_
          refine lv_iadd hx hb dX8_year_53 ?_
          obtain ⟨hi37, hf⟩ := ck_el hf
          obtain ⟨M_38, hM_38, hf⟩ := lt_el hf
          refine va_iast hx hb hK.1 hP hD hS 1 0 rfl rfl hi37 dX8_year_54 (fun H locs hP hD hS => ?_)
          have hP : va_P D vwCl (kX8 cs a (.ref (nn 0)) M_38) H := by rw [hM_38]; exact hP
          have hD : va_D A (kX8 cs a (.ref (nn 0)) M_38) := by rw [hM_38]; exact hD
          obtain ⟨v39, hv39, hf⟩ := lt_el hf
          refine lv_iinc (v := v39) (lv' := [(1, .int v39), (2, .int v27), (0, .ref (a 0))]) hx hb dX8_year_55 hl (k := 2) rfl (by rw [hv39]; rfl) (by decide) rfl (fun ls hl => ?_)
          refine lv_goto (tgt := 2) hx hb dX8_year_58 (by decide) ?_
          exact hk2 v39 M_38 _ _ _ hP hD hS (lv_sub hl [2, 0] rfl) hf
        · have hf := in_el hc36 hf
          refine lv_iconst (v := 1) hx hb dX8_year_48 (by decide) ?_
          refine lv_goto (tgt := 53) hx hb dX8_year_49 (by decide) ?_
          refine lv_iadd hx hb dX8_year_53 ?_
          obtain ⟨hi40, hf⟩ := ck_el hf
          obtain ⟨M_41, hM_41, hf⟩ := lt_el hf
          refine va_iast hx hb hK.1 hP hD hS 1 0 rfl rfl hi40 dX8_year_54 (fun H locs hP hD hS => ?_)
          have hP : va_P D vwCl (kX8 cs a (.ref (nn 0)) M_41) H := by rw [hM_41]; exact hP
          have hD : va_D A (kX8 cs a (.ref (nn 0)) M_41) := by rw [hM_41]; exact hD
          obtain ⟨v42, hv42, hf⟩ := lt_el hf
          refine lv_iinc (v := v42) (lv' := [(1, .int v42), (2, .int v27), (0, .ref (a 0))]) hx hb dX8_year_55 hl (k := 2) rfl (by rw [hv42]; rfl) (by decide) rfl (fun ls hl => ?_)
          refine lv_goto (tgt := 2) hx hb dX8_year_58 (by decide) ?_
          exact hk2 v42 M_41 _ _ _ hP hD hS (lv_sub hl [2, 0] rfl) hf
  have h2 : ∀ (n : Nat), ∀ (y1 : Int32) (M : ST) (H : Heap) (locs : List Loc) (ls : Array Slot), va_P D vwCl (kX8 cs a (.ref (nn 0)) M) H → va_D A (kX8 cs a (.ref (nn 0)) M) → va_S A s.heap H locs → lv_has ls 3 [(0, .ref (a 0)), (1, .int y1)] → fX8_year_2 n y1 M = some (r0, Mz) → W p l e rmX8_year s m [.ref (a 0)].toArray below meth c H locs 0 0 Q (F0 m 2 ls []) := by
    intro n
    induction n with
    | zero => intro y1 M H locs ls hP hD hS hl hf; exact no_el hf
    | succ n ih => intro y1 M H locs ls hP hD hS hl hf; exact hs2 _ ih y1 M _ _ _ hP hD hS hl hf
  have hl : lv_has ls0 3 [(0, .ref (a 0))] := hl0
  have hP := hP0
  have hD := hD0
  have hS := hS0
  unfold fX8_year at hf
  refine lv_iconst (v := 0) hx hb dX8_year_0 (by decide) ?_
  refine lv_istore_n (lv' := [(1, .int 0), (0, .ref (a 0))]) hx hb dX8_year_1 rfl hl (by decide) rfl (fun ls hl => ?_)
  exact h2 400 0 M _ _ _ hP hD hS (lv_sub hl [1, 0] rfl) hf

def fX8_years_23_s (k23 : Int32 → Int32 → Int32 → ST → Option (Int32 × ST)) (y1 : Int32) (y2 : Int32) (y3 : Int32) (M : ST) : Option (Int32 × ST) :=
  (if y1 ≤ y3 then some (y2, M) else dc_b2 (fX8_year M) (fun r5 M_6 => (if r5 = 0 then dc_lt (y2 + 0) (fun v9 => dc_lt (y3 + 1) (fun v10 => k23 y1 v9 v10 M_6)) else dc_lt (y2 + 1) (fun v11 => dc_lt (y3 + 1) (fun v12 => k23 y1 v11 v12 M_6)))))
def fX8_years_23 : Nat → Int32 → Int32 → Int32 → ST → Option (Int32 × ST)
  | 0 => fun _ _ _ _ => none
  | n + 1 => fX8_years_23_s (fX8_years_23 n)
def fX8_years (x1 : Int32) (M : ST) : Option (Int32 × ST) :=
  dc_b1 (fX8_isIn (x1.toInt64) 1 50) (fun r1 => (if r1 = 0 then dc_b2 (fX8_finds (-1000000001) M) (fun r13 M_14 => some (r13, M_14)) else fX8_years_23 400 x1 0 0 M))
abbrev rmX8_years : Room := { frames := 13, cells := 0, slots := 0, locals := 314 }
set_option maxRecDepth 100000 in
set_option maxHeartbeats 4000000 in
theorem tX8_years (l : Launch) (D : va_G) (cs : Nat → ClassId) (a : Nat → Nat) (nn : Nat → Nat) (x1 : Int32) (M : ST) (r0 : Int32) (Mz : ST) (hf : fX8_years x1 M = some (r0, Mz)) : CG l yX8_years (wsm yX8_years cX8_years 4 (some .int)) rmX8_years D cs [.ref (a 0), .int x1] (some (.int r0)) (kX8 cs a (.ref (nn 0)) M) (kX8 cs a (.ref (nn 0)) Mz) := by
  refine CG.intro (by decide) (Nat.le_of_ble_eq_true rfl) ?_
  intro p e s m below meth c A Q hx hb hml hown hu hK hZ hP0 hD0 hS0 hA hri hrz hrl hrv hra ls0 hl0
  have hs23 : ∀ (k23 : Int32 → Int32 → Int32 → ST → Option (Int32 × ST)), (∀ (y1 : Int32) (y2 : Int32) (y3 : Int32) (M : ST) (H : Heap) (locs : List Loc) (ls : Array Slot), va_P D vwCl (kX8 cs a (.ref (nn 0)) M) H → va_D A (kX8 cs a (.ref (nn 0)) M) → va_S A s.heap H locs → lv_has ls 4 [(0, .ref (a 0)), (1, .int y1), (2, .int y2), (3, .int y3)] → k23 y1 y2 y3 M = some (r0, Mz) → W p l e rmX8_years s m [.ref (a 0), .int x1].toArray below meth c H locs 0 0 Q (F0 m 23 ls [])) → ∀ (y1 : Int32) (y2 : Int32) (y3 : Int32) (M : ST) (H : Heap) (locs : List Loc) (ls : Array Slot), va_P D vwCl (kX8 cs a (.ref (nn 0)) M) H → va_D A (kX8 cs a (.ref (nn 0)) M) → va_S A s.heap H locs → lv_has ls 4 [(0, .ref (a 0)), (1, .int y1), (2, .int y2), (3, .int y3)] → fX8_years_23_s k23 y1 y2 y3 M = some (r0, Mz) → W p l e rmX8_years s m [.ref (a 0), .int x1].toArray below meth c H locs 0 0 Q (F0 m 23 ls []) := by
    intro k23 hk23 y1 y2 y3 M H locs ls hP hD hS hl hf
    unfold fX8_years_23_s at hf
    refine lv_iload_n hx hb dX8_years_23 rfl (lv_at hl 3 rfl) ?_
    refine lv_iload_n hx hb dX8_years_24 rfl (lv_at hl 1 rfl) ?_
    refine lv_icmp_ge (tgt := 49) hx hb dX8_years_25 (by decide) (fun hc4 => ?_) (fun hc4 => ?_)
    · have hf := ip_el hc4 hf
      refine lv_iload_n hx hb dX8_years_49 rfl (lv_at hl 2 rfl) ?_
      have he := Option.some.inj hf
      obtain ⟨e0, e1⟩ := Prod.mk.inj he
      exact hri _ _ _ rfl (congrArg (fun z => some (Value.int z)) e0.symm) dX8_years_50 _ _ _ (by rw [e1]) hP hD hS
    · have hf := in_el hc4 hf
      refine lv_iload_n hx hb dX8_years_28 rfl (lv_at hl 2 rfl) ?_
      refine lv_aload_n hx hb dX8_years_29 rfl (lv_at hl 0 rfl) ?_
      obtain ⟨r5, M_6, hg7, hf⟩ := b2_el hf
      refine cc_V1 (w' := (kX8 cs a (.ref (nn 0)) M_6)) (st1 := [.int r5, .int y2]) [] hx hb hml hown hu (tX8_year l D cs a nn M r5 M_6 hg7) q1153 q62 q1150 q1152 q37 pdX8_year ⟨rfl, rfl, Nat.le_of_ble_eq_true rfl, Nat.le_of_ble_eq_true rfl⟩ hK hZ hP hD hS hA rfl rfl rfl rfl hl.1 rfl (Nat.le_of_ble_eq_true rfl) dX8_years_30 rfl (fun H locs hP hD hS => ?_)
      refine lv_if_eq (tgt := 40) hx hb dX8_years_33 (by decide) (fun hc8 => ?_) (fun hc8 => ?_)
      · have hf := ip_el hc8 hf
        refine lv_iconst (v := 0) hx hb dX8_years_40 (by decide) ?_
        refine lv_iadd hx hb dX8_years_41 ?_
        obtain ⟨v9, hv9, hf⟩ := lt_el hf
        refine lv_tope hv9 ?_
        refine lv_istore_n (lv' := [(2, .int v9), (0, .ref (a 0)), (1, .int y1), (3, .int y3)]) hx hb dX8_years_42 rfl hl (by decide) rfl (fun ls hl => ?_)
        obtain ⟨v10, hv10, hf⟩ := lt_el hf
        refine lv_iinc (v := v10) (lv' := [(3, .int v10), (2, .int v9), (0, .ref (a 0)), (1, .int y1)]) hx hb dX8_years_43 hl (k := 3) rfl (by rw [hv10]; rfl) (by decide) rfl (fun ls hl => ?_)
        refine lv_goto (tgt := 23) hx hb dX8_years_46 (by decide) ?_
        exact hk23 y1 v9 v10 M_6 _ _ _ hP hD hS (lv_sub hl [2, 3, 1, 0] rfl) hf
      · have hf := in_el hc8 hf
        refine lv_iconst (v := 1) hx hb dX8_years_36 (by decide) ?_
        refine lv_goto (tgt := 41) hx hb dX8_years_37 (by decide) ?_
        refine lv_iadd hx hb dX8_years_41 ?_
        obtain ⟨v11, hv11, hf⟩ := lt_el hf
        refine lv_tope hv11 ?_
        refine lv_istore_n (lv' := [(2, .int v11), (0, .ref (a 0)), (1, .int y1), (3, .int y3)]) hx hb dX8_years_42 rfl hl (by decide) rfl (fun ls hl => ?_)
        obtain ⟨v12, hv12, hf⟩ := lt_el hf
        refine lv_iinc (v := v12) (lv' := [(3, .int v12), (2, .int v11), (0, .ref (a 0)), (1, .int y1)]) hx hb dX8_years_43 hl (k := 3) rfl (by rw [hv12]; rfl) (by decide) rfl (fun ls hl => ?_)
        refine lv_goto (tgt := 23) hx hb dX8_years_46 (by decide) ?_
        exact hk23 y1 v11 v12 M_6 _ _ _ hP hD hS (lv_sub hl [2, 3, 1, 0] rfl) hf
  have h23 : ∀ (n : Nat), ∀ (y1 : Int32) (y2 : Int32) (y3 : Int32) (M : ST) (H : Heap) (locs : List Loc) (ls : Array Slot), va_P D vwCl (kX8 cs a (.ref (nn 0)) M) H → va_D A (kX8 cs a (.ref (nn 0)) M) → va_S A s.heap H locs → lv_has ls 4 [(0, .ref (a 0)), (1, .int y1), (2, .int y2), (3, .int y3)] → fX8_years_23 n y1 y2 y3 M = some (r0, Mz) → W p l e rmX8_years s m [.ref (a 0), .int x1].toArray below meth c H locs 0 0 Q (F0 m 23 ls []) := by
    intro n
    induction n with
    | zero => intro y1 y2 y3 M H locs ls hP hD hS hl hf; exact no_el hf
    | succ n ih => intro y1 y2 y3 M H locs ls hP hD hS hl hf; exact hs23 _ ih y1 y2 y3 M _ _ _ hP hD hS hl hf
  have hl : lv_has ls0 4 [(0, .ref (a 0)), (1, .int x1)] := hl0
  have hP := hP0
  have hD := hD0
  have hS := hS0
  unfold fX8_years at hf
  refine lv_iload_n hx hb dX8_years_0 rfl (lv_at hl 1 rfl) ?_
  refine lv_i2l (v := (x1.toInt64)) hx hb dX8_years_1 rfl ?_
  refine lv_lconst (v := 1) hx hb dX8_years_2 (by decide) ?_
  refine lv_ldc2 (v := 50) hx hb hown (hu _ q1149) dX8_years_3 ?_
  obtain ⟨r1, hg2, hf⟩ := b1_el hf
  refine cc_S0 (st1 := [.int r1]) [.long (x1.toInt64), .long 1, .long 50] hx hb hml hown hu (tX8_isIn l D cs (x1.toInt64) 1 50 r1 hg2) q1004 q62 q1002 q1003 pdX8_isIn ⟨rfl, rfl, Nat.le_of_ble_eq_true rfl, Nat.le_of_ble_eq_true rfl⟩ hK hZ hP hD hS hA rfl hl.1 rfl (Nat.le_of_ble_eq_true rfl) dX8_years_6 rfl (fun H locs hP hD hS => ?_)
  refine lv_if_ne (tgt := 19) hx hb dX8_years_9 (by decide) (fun hc3 => ?_) (fun hc3 => ?_)
  · have hf := in_el hc3 hf
    refine lv_iconst (v := 0) hx hb dX8_years_19 (by decide) ?_
    refine lv_istore_n (lv' := [(2, .int 0), (0, .ref (a 0)), (1, .int x1)]) hx hb dX8_years_20 rfl hl (by decide) rfl (fun ls hl => ?_)
    refine lv_iconst (v := 0) hx hb dX8_years_21 (by decide) ?_
    refine lv_istore_n (lv' := [(3, .int 0), (2, .int 0), (0, .ref (a 0)), (1, .int x1)]) hx hb dX8_years_22 rfl hl (by decide) rfl (fun ls hl => ?_)
    exact h23 400 x1 0 0 M _ _ _ hP hD hS (lv_sub hl [2, 3, 1, 0] rfl) hf
  · have hf := ip_el hc3 hf
    refine lv_aload_n hx hb dX8_years_12 rfl (lv_at hl 0 rfl) ?_
    refine lv_ldc (v := (-1000000001)) hx hb hown (hu _ q1008) dX8_years_13 ?_
    obtain ⟨r13, M_14, hg15, hf⟩ := b2_el hf
    refine cc_V1 (w' := (kX8 cs a (.ref (nn 0)) M_14)) (st1 := [.int r13]) [.int (-1000000001)] hx hb hml hown hu (tX8_finds l D cs a nn (-1000000001) M r13 M_14 hg15) q1012 q62 q1009 q1011 q19 pdX8_finds ⟨rfl, rfl, Nat.le_of_ble_eq_true rfl, Nat.le_of_ble_eq_true rfl⟩ hK hZ hP hD hS hA rfl rfl rfl rfl hl.1 rfl (Nat.le_of_ble_eq_true rfl) dX8_years_15 rfl (fun H locs hP hD hS => ?_)
    have he := Option.some.inj hf
    obtain ⟨e0, e1⟩ := Prod.mk.inj he
    exact hri _ _ _ rfl (congrArg (fun z => some (Value.int z)) e0.symm) dX8_years_18 _ _ _ (by rw [e1]) hP hD hS

def fX8_ahead_22_s (k22 : Int32 → Int32 → Int32 → ST → Option (Int32 × ST)) (y1 : Int32) (y2 : Int32) (y3 : Int32) (M : ST) : Option (Int32 × ST) :=
  (if y1 ≤ y3 then dc_b1 (fX8_laysBack M) (fun M_7 => some (y2, M_7)) else dc_b2 (fX8_comes M) (fun r9 M_10 => dc_lt (y3 + 1) (fun v12 => k22 y1 r9 v12 M_10)))
def fX8_ahead_22 : Nat → Int32 → Int32 → Int32 → ST → Option (Int32 × ST)
  | 0 => fun _ _ _ _ => none
  | n + 1 => fX8_ahead_22_s (fX8_ahead_22 n)
def fX8_ahead (x1 : Int32) (M : ST) : Option (Int32 × ST) :=
  dc_b1 (fX8_isChairs x1) (fun r1 => (if r1 = 0 then dc_b2 (fX8_finds (-1000000001) M) (fun r13 M_14 => some (r13, M_14)) else dc_b1 (fX8_laysBy M) (fun M_4 => fX8_ahead_22 400 x1 (-1) 0 M_4)))
abbrev rmX8_ahead : Room := { frames := 12, cells := 0, slots := 0, locals := 292 }
set_option maxRecDepth 100000 in
set_option maxHeartbeats 4000000 in
theorem tX8_ahead (l : Launch) (D : va_G) (cs : Nat → ClassId) (a : Nat → Nat) (nn : Nat → Nat) (x1 : Int32) (M : ST) (r0 : Int32) (Mz : ST) (hf : fX8_ahead x1 M = some (r0, Mz)) : CG l yX8_ahead (wsm yX8_ahead cX8_ahead 4 (some .int)) rmX8_ahead D cs [.ref (a 0), .int x1] (some (.int r0)) (kX8 cs a (.ref (nn 0)) M) (kX8 cs a (.ref (nn 0)) Mz) := by
  refine CG.intro (by decide) (Nat.le_of_ble_eq_true rfl) ?_
  intro p e s m below meth c A Q hx hb hml hown hu hK hZ hP0 hD0 hS0 hA hri hrz hrl hrv hra ls0 hl0
  have hs22 : ∀ (k22 : Int32 → Int32 → Int32 → ST → Option (Int32 × ST)), (∀ (y1 : Int32) (y2 : Int32) (y3 : Int32) (M : ST) (H : Heap) (locs : List Loc) (ls : Array Slot), va_P D vwCl (kX8 cs a (.ref (nn 0)) M) H → va_D A (kX8 cs a (.ref (nn 0)) M) → va_S A s.heap H locs → lv_has ls 4 [(0, .ref (a 0)), (1, .int y1), (2, .int y2), (3, .int y3)] → k22 y1 y2 y3 M = some (r0, Mz) → W p l e rmX8_ahead s m [.ref (a 0), .int x1].toArray below meth c H locs 0 0 Q (F0 m 22 ls [])) → ∀ (y1 : Int32) (y2 : Int32) (y3 : Int32) (M : ST) (H : Heap) (locs : List Loc) (ls : Array Slot), va_P D vwCl (kX8 cs a (.ref (nn 0)) M) H → va_D A (kX8 cs a (.ref (nn 0)) M) → va_S A s.heap H locs → lv_has ls 4 [(0, .ref (a 0)), (1, .int y1), (2, .int y2), (3, .int y3)] → fX8_ahead_22_s k22 y1 y2 y3 M = some (r0, Mz) → W p l e rmX8_ahead s m [.ref (a 0), .int x1].toArray below meth c H locs 0 0 Q (F0 m 22 ls []) := by
    intro k22 hk22 y1 y2 y3 M H locs ls hP hD hS hl hf
    unfold fX8_ahead_22_s at hf
    refine lv_iload_n hx hb dX8_ahead_22 rfl (lv_at hl 3 rfl) ?_
    refine lv_iload_n hx hb dX8_ahead_23 rfl (lv_at hl 1 rfl) ?_
    refine lv_icmp_ge (tgt := 38) hx hb dX8_ahead_24 (by decide) (fun hc6 => ?_) (fun hc6 => ?_)
    · have hf := ip_el hc6 hf
      refine lv_aload_n hx hb dX8_ahead_38 rfl (lv_at hl 0 rfl) ?_
      obtain ⟨M_7, hg8, hf⟩ := b1_el hf
      refine cc_V1 (w' := (kX8 cs a (.ref (nn 0)) M_7)) (st1 := []) [] hx hb hml hown hu (tX8_laysBack l D cs a nn M M_7 hg8) q1182 q62 q1179 q1181 q40 pdX8_laysBack ⟨rfl, rfl, Nat.le_of_ble_eq_true rfl, Nat.le_of_ble_eq_true rfl⟩ hK hZ hP hD hS hA rfl rfl rfl rfl hl.1 rfl (Nat.le_of_ble_eq_true rfl) dX8_ahead_39 rfl (fun H locs hP hD hS => ?_)
      refine lv_iload_n hx hb dX8_ahead_42 rfl (lv_at hl 2 rfl) ?_
      have he := Option.some.inj hf
      obtain ⟨e0, e1⟩ := Prod.mk.inj he
      exact hri _ _ _ rfl (congrArg (fun z => some (Value.int z)) e0.symm) dX8_ahead_43 _ _ _ (by rw [e1]) hP hD hS
    · have hf := in_el hc6 hf
      refine lv_aload_n hx hb dX8_ahead_27 rfl (lv_at hl 0 rfl) ?_
      obtain ⟨r9, M_10, hg11, hf⟩ := b2_el hf
      refine cc_V1 (w' := (kX8 cs a (.ref (nn 0)) M_10)) (st1 := [.int r9]) [] hx hb hml hown hu (tX8_comes l D cs a nn M r9 M_10 hg11) q1081 q62 q1078 q1080 q34 pdX8_comes ⟨rfl, rfl, Nat.le_of_ble_eq_true rfl, Nat.le_of_ble_eq_true rfl⟩ hK hZ hP hD hS hA rfl rfl rfl rfl hl.1 rfl (Nat.le_of_ble_eq_true rfl) dX8_ahead_28 rfl (fun H locs hP hD hS => ?_)
      refine lv_istore_n (lv' := [(2, .int r9), (0, .ref (a 0)), (1, .int y1), (3, .int y3)]) hx hb dX8_ahead_31 rfl hl (by decide) rfl (fun ls hl => ?_)
      obtain ⟨v12, hv12, hf⟩ := lt_el hf
      refine lv_iinc (v := v12) (lv' := [(3, .int v12), (2, .int r9), (0, .ref (a 0)), (1, .int y1)]) hx hb dX8_ahead_32 hl (k := 3) rfl (by rw [hv12]; rfl) (by decide) rfl (fun ls hl => ?_)
      refine lv_goto (tgt := 22) hx hb dX8_ahead_35 (by decide) ?_
      exact hk22 y1 r9 v12 M_10 _ _ _ hP hD hS (lv_sub hl [2, 3, 1, 0] rfl) hf
  have h22 : ∀ (n : Nat), ∀ (y1 : Int32) (y2 : Int32) (y3 : Int32) (M : ST) (H : Heap) (locs : List Loc) (ls : Array Slot), va_P D vwCl (kX8 cs a (.ref (nn 0)) M) H → va_D A (kX8 cs a (.ref (nn 0)) M) → va_S A s.heap H locs → lv_has ls 4 [(0, .ref (a 0)), (1, .int y1), (2, .int y2), (3, .int y3)] → fX8_ahead_22 n y1 y2 y3 M = some (r0, Mz) → W p l e rmX8_ahead s m [.ref (a 0), .int x1].toArray below meth c H locs 0 0 Q (F0 m 22 ls []) := by
    intro n
    induction n with
    | zero => intro y1 y2 y3 M H locs ls hP hD hS hl hf; exact no_el hf
    | succ n ih => intro y1 y2 y3 M H locs ls hP hD hS hl hf; exact hs22 _ ih y1 y2 y3 M _ _ _ hP hD hS hl hf
  have hl : lv_has ls0 4 [(0, .ref (a 0)), (1, .int x1)] := hl0
  have hP := hP0
  have hD := hD0
  have hS := hS0
  unfold fX8_ahead at hf
  refine lv_iload_n hx hb dX8_ahead_0 rfl (lv_at hl 1 rfl) ?_
  obtain ⟨r1, hg2, hf⟩ := b1_el hf
  refine cc_S0 (st1 := [.int r1]) [.int x1] hx hb hml hown hu (tX8_isChairs l D cs x1 r1 hg2) q1173 q62 q1171 q1172 pdX8_isChairs ⟨rfl, rfl, Nat.le_of_ble_eq_true rfl, Nat.le_of_ble_eq_true rfl⟩ hK hZ hP hD hS hA rfl hl.1 rfl (Nat.le_of_ble_eq_true rfl) dX8_ahead_1 rfl (fun H locs hP hD hS => ?_)
  refine lv_if_ne (tgt := 14) hx hb dX8_ahead_4 (by decide) (fun hc3 => ?_) (fun hc3 => ?_)
  · have hf := in_el hc3 hf
    refine lv_aload_n hx hb dX8_ahead_14 rfl (lv_at hl 0 rfl) ?_
    obtain ⟨M_4, hg5, hf⟩ := b1_el hf
    refine cc_V1 (w' := (kX8 cs a (.ref (nn 0)) M_4)) (st1 := []) [] hx hb hml hown hu (tX8_laysBy l D cs a nn M M_4 hg5) q1178 q62 q1175 q1177 q39 pdX8_laysBy ⟨rfl, rfl, Nat.le_of_ble_eq_true rfl, Nat.le_of_ble_eq_true rfl⟩ hK hZ hP hD hS hA rfl rfl rfl rfl hl.1 rfl (Nat.le_of_ble_eq_true rfl) dX8_ahead_15 rfl (fun H locs hP hD hS => ?_)
    refine lv_iconst (v := (-1)) hx hb dX8_ahead_18 (by decide) ?_
    refine lv_istore_n (lv' := [(2, .int (-1)), (0, .ref (a 0)), (1, .int x1)]) hx hb dX8_ahead_19 rfl hl (by decide) rfl (fun ls hl => ?_)
    refine lv_iconst (v := 0) hx hb dX8_ahead_20 (by decide) ?_
    refine lv_istore_n (lv' := [(3, .int 0), (2, .int (-1)), (0, .ref (a 0)), (1, .int x1)]) hx hb dX8_ahead_21 rfl hl (by decide) rfl (fun ls hl => ?_)
    exact h22 400 x1 (-1) 0 M_4 _ _ _ hP hD hS (lv_sub hl [2, 3, 1, 0] rfl) hf
  · have hf := ip_el hc3 hf
    refine lv_aload_n hx hb dX8_ahead_7 rfl (lv_at hl 0 rfl) ?_
    refine lv_ldc (v := (-1000000001)) hx hb hown (hu _ q1008) dX8_ahead_8 ?_
    obtain ⟨r13, M_14, hg15, hf⟩ := b2_el hf
    refine cc_V1 (w' := (kX8 cs a (.ref (nn 0)) M_14)) (st1 := [.int r13]) [.int (-1000000001)] hx hb hml hown hu (tX8_finds l D cs a nn (-1000000001) M r13 M_14 hg15) q1012 q62 q1009 q1011 q19 pdX8_finds ⟨rfl, rfl, Nat.le_of_ble_eq_true rfl, Nat.le_of_ble_eq_true rfl⟩ hK hZ hP hD hS hA rfl rfl rfl rfl hl.1 rfl (Nat.le_of_ble_eq_true rfl) dX8_ahead_10 rfl (fun H locs hP hD hS => ?_)
    have he := Option.some.inj hf
    obtain ⟨e0, e1⟩ := Prod.mk.inj he
    exact hri _ _ _ rfl (congrArg (fun z => some (Value.int z)) e0.symm) dX8_ahead_13 _ _ _ (by rw [e1]) hP hD hS

def fX8_findEver_110 (M : ST) : Option (Int32 × ST) :=
  dc_b1 (fX8_laysBack M) (fun M_8 => (if (M_8 0 16) < 0 then some (0, M_8) else some (1, M_8)))
def fX8_findEver_57_s (k21 : Int32 → ST → Option (Int32 × ST)) (k57 : Int32 → Int32 → ST → Option (Int32 × ST)) (y1 : Int32) (y2 : Int32) (M : ST) : Option (Int32 × ST) :=
  (if y1 ≤ y2 then dc_lt (sti M 0 17 y1) (fun M_22 => dc_lt (y1 + 1) (fun v23 => k21 v23 M_22)) else (if 0 ≤ (M 0 16) then dc_lt (sti M 0 17 y1) (fun M_25 => dc_lt (y1 + 1) (fun v26 => k21 v26 M_25)) else dc_ck y2 301 (dc_ck y1 301 ((if (M 15 (Int32.toNatClampNeg y2)) = (M 15 (Int32.toNatClampNeg y1)) then dc_lt (sti M 0 16 y2) (fun M_32 => dc_lt (y2 + 1) (fun v33 => k57 y1 v33 M_32)) else dc_lt (sti M 0 16 (-1)) (fun M_30 => dc_lt (y2 + 1) (fun v31 => k57 y1 v31 M_30)))))))
def fX8_findEver_57 (k21 : Int32 → ST → Option (Int32 × ST)) : Nat → Int32 → Int32 → ST → Option (Int32 × ST)
  | 0 => fun _ _ _ => none
  | n + 1 => fX8_findEver_57_s k21 (fX8_findEver_57 k21 n)
def fX8_findEver_21_s (k21 : Int32 → ST → Option (Int32 × ST)) (y1 : Int32) (M : ST) : Option (Int32 × ST) :=
  (if 300 < y1 then fX8_findEver_110 M else (if 0 ≤ (M 0 16) then fX8_findEver_110 M else dc_b2 (fX8_comes M) (fun r12 M_13 => dc_ck y1 301 (dc_lt (sti M_13 16 (Int32.toNatClampNeg y1) r12) (fun M_16 => dc_b1 (fX8_asOne M_16) (fun r17 => dc_ck y1 301 (dc_lt (sti M_16 15 (Int32.toNatClampNeg y1) r17) (fun M_20 => fX8_findEver_57 k21 400 y1 0 M_20))))))))
def fX8_findEver_21 : Nat → Int32 → ST → Option (Int32 × ST)
  | 0 => fun _ _ => none
  | n + 1 => fX8_findEver_21_s (fX8_findEver_21 n)
def fX8_findEver (M : ST) : Option (Int32 × ST) :=
  dc_b1 (fX8_laysBy M) (fun M_1 => dc_b1 (fX8_asOne M_1) (fun r3 => dc_lt (sti M_1 15 0 r3) (fun M_5 => dc_lt (sti M_5 0 16 (-1)) (fun M_6 => fX8_findEver_21 400 1 M_6))))
abbrev rmX8_findEver : Room := { frames := 12, cells := 0, slots := 0, locals := 292 }
set_option maxRecDepth 100000 in
set_option maxHeartbeats 4000000 in
theorem tX8_findEver (l : Launch) (D : va_G) (cs : Nat → ClassId) (a : Nat → Nat) (nn : Nat → Nat) (M : ST) (r0 : Int32) (Mz : ST) (hf : fX8_findEver M = some (r0, Mz)) : CG l yX8_findEver (wsm yX8_findEver cX8_findEver 3 (some .boolean)) rmX8_findEver D cs [.ref (a 0)] (some (.int r0)) (kX8 cs a (.ref (nn 0)) M) (kX8 cs a (.ref (nn 0)) Mz) := by
  refine CG.intro (by decide) (Nat.le_of_ble_eq_true rfl) ?_
  intro p e s m below meth c A Q hx hb hml hown hu hK hZ hP0 hD0 hS0 hA hri hrz hrl hrv hra ls0 hl0
  have h110 : ∀ (M : ST) (H : Heap) (locs : List Loc) (ls : Array Slot), va_P D vwCl (kX8 cs a (.ref (nn 0)) M) H → va_D A (kX8 cs a (.ref (nn 0)) M) → va_S A s.heap H locs → lv_has ls 3 [(0, .ref (a 0))] → fX8_findEver_110 M = some (r0, Mz) → W p l e rmX8_findEver s m [.ref (a 0)].toArray below meth c H locs 0 0 Q (F0 m 110 ls []) := by
    intro M H locs ls hP hD hS hl hf
    unfold fX8_findEver_110 at hf
    refine lv_aload_n hx hb dX8_findEver_110 rfl (lv_at hl 0 rfl) ?_
    obtain ⟨M_8, hg9, hf⟩ := b1_el hf
    refine cc_V1 (w' := (kX8 cs a (.ref (nn 0)) M_8)) (st1 := []) [] hx hb hml hown hu (tX8_laysBack l D cs a nn M M_8 hg9) q1182 q62 q1179 q1181 q40 pdX8_laysBack ⟨rfl, rfl, Nat.le_of_ble_eq_true rfl, Nat.le_of_ble_eq_true rfl⟩ hK hZ hP hD hS hA rfl rfl rfl rfl hl.1 rfl (Nat.le_of_ble_eq_true rfl) dX8_findEver_111 rfl (fun H locs hP hD hS => ?_)
    refine lv_aload_n hx hb dX8_findEver_114 rfl (lv_at hl 0 rfl) ?_
    refine va_get (D := D) (ci := 8) (v := .int (M_8 0 16)) (C := RX8) (T := TX8) (N := 26) hx hb hu inX8 hown hK.1 hP 0 rfl rfl 16 (by decide) (hu _ q933) (fun _ h9 => h9) rfl dX8_findEver_115 ?_
    refine lv_if_lt (tgt := 125) hx hb dX8_findEver_118 (by decide) (fun hc10 => ?_) (fun hc10 => ?_)
    · have hf := ip_el hc10 hf
      refine lv_iconst (v := 0) hx hb dX8_findEver_125 (by decide) ?_
      have he := Option.some.inj hf
      obtain ⟨e0, e1⟩ := Prod.mk.inj he
      exact hrz _ _ _ .boolean rfl rfl (congrArg (fun z => some (Value.int z)) e0.symm) dX8_findEver_126 _ _ _ (by rw [e1]) hP hD hS
    · have hf := in_el hc10 hf
      refine lv_iconst (v := 1) hx hb dX8_findEver_121 (by decide) ?_
      refine lv_goto (tgt := 126) hx hb dX8_findEver_122 (by decide) ?_
      have he := Option.some.inj hf
      obtain ⟨e0, e1⟩ := Prod.mk.inj he
      exact hrz _ _ _ .boolean rfl rfl (congrArg (fun z => some (Value.int z)) e0.symm) dX8_findEver_126 _ _ _ (by rw [e1]) hP hD hS
  have hs57 : ∀ (k21 : Int32 → ST → Option (Int32 × ST)), (∀ (y1 : Int32) (M : ST) (H : Heap) (locs : List Loc) (ls : Array Slot), va_P D vwCl (kX8 cs a (.ref (nn 0)) M) H → va_D A (kX8 cs a (.ref (nn 0)) M) → va_S A s.heap H locs → lv_has ls 3 [(0, .ref (a 0)), (1, .int y1)] → k21 y1 M = some (r0, Mz) → W p l e rmX8_findEver s m [.ref (a 0)].toArray below meth c H locs 0 0 Q (F0 m 21 ls [])) → ∀ (k57 : Int32 → Int32 → ST → Option (Int32 × ST)), (∀ (y1 : Int32) (y2 : Int32) (M : ST) (H : Heap) (locs : List Loc) (ls : Array Slot), va_P D vwCl (kX8 cs a (.ref (nn 0)) M) H → va_D A (kX8 cs a (.ref (nn 0)) M) → va_S A s.heap H locs → lv_has ls 3 [(0, .ref (a 0)), (1, .int y1), (2, .int y2)] → k57 y1 y2 M = some (r0, Mz) → W p l e rmX8_findEver s m [.ref (a 0)].toArray below meth c H locs 0 0 Q (F0 m 57 ls [])) → ∀ (y1 : Int32) (y2 : Int32) (M : ST) (H : Heap) (locs : List Loc) (ls : Array Slot), va_P D vwCl (kX8 cs a (.ref (nn 0)) M) H → va_D A (kX8 cs a (.ref (nn 0)) M) → va_S A s.heap H locs → lv_has ls 3 [(0, .ref (a 0)), (1, .int y1), (2, .int y2)] → fX8_findEver_57_s k21 k57 y1 y2 M = some (r0, Mz) → W p l e rmX8_findEver s m [.ref (a 0)].toArray below meth c H locs 0 0 Q (F0 m 57 ls []) := by
    intro k21 hk21 k57 hk57 y1 y2 M H locs ls hP hD hS hl hf
    unfold fX8_findEver_57_s at hf
    refine lv_iload_n hx hb dX8_findEver_57 rfl (lv_at hl 2 rfl) ?_
    refine lv_iload_n hx hb dX8_findEver_58 rfl (lv_at hl 1 rfl) ?_
    refine lv_icmp_ge (tgt := 99) hx hb dX8_findEver_59 (by decide) (fun hc21 => ?_) (fun hc21 => ?_)
    · have hf := ip_el hc21 hf
      refine lv_aload_n hx hb dX8_findEver_99 rfl (lv_at hl 0 rfl) ?_
      refine lv_iload_n hx hb dX8_findEver_100 rfl (lv_at hl 1 rfl) ?_
      obtain ⟨M_22, hM_22, hf⟩ := lt_el hf
      refine va_put (D := D) (ci := 8) (v := .int y1) (ty := .int) (C := RX8) (T := TX8) (N := 26) hx hb hu inX8 tyX8 tyX8_ok nmX8 hown hK.1 hP hD hS 0 rfl rfl 17 (by decide) (hu _ q934) (fun _ h9 => h9) rfl (by decide +kernel) rfl rfl (Nat.le_of_ble_eq_true rfl) dX8_findEver_101 (fun H locs hP hD hS => ?_)
      have hP : va_P D vwCl (kX8 cs a (.ref (nn 0)) M_22) H := by rw [hM_22]; exact hP
      have hD : va_D A (kX8 cs a (.ref (nn 0)) M_22) := by rw [hM_22]; exact hD
      obtain ⟨v23, hv23, hf⟩ := lt_el hf
      refine lv_iinc (v := v23) (lv' := [(1, .int v23), (0, .ref (a 0)), (2, .int y2)]) hx hb dX8_findEver_104 hl (k := 1) rfl (by rw [hv23]; rfl) (by decide) rfl (fun ls hl => ?_)
      refine lv_goto (tgt := 21) hx hb dX8_findEver_107 (by decide) ?_
      exact hk21 v23 M_22 _ _ _ hP hD hS (lv_sub hl [1, 0] rfl) hf
    · have hf := in_el hc21 hf
      refine lv_aload_n hx hb dX8_findEver_62 rfl (lv_at hl 0 rfl) ?_
      refine va_get (D := D) (ci := 8) (v := .int (M 0 16)) (C := RX8) (T := TX8) (N := 26) hx hb hu inX8 hown hK.1 hP 0 rfl rfl 16 (by decide) (hu _ q933) (fun _ h9 => h9) rfl dX8_findEver_63 ?_
      refine lv_if_ge (tgt := 99) hx hb dX8_findEver_66 (by decide) (fun hc24 => ?_) (fun hc24 => ?_)
      · have hf := ip_el hc24 hf
        refine lv_aload_n hx hb dX8_findEver_99 rfl (lv_at hl 0 rfl) ?_
        refine lv_iload_n hx hb dX8_findEver_100 rfl (lv_at hl 1 rfl) ?_
        obtain ⟨M_25, hM_25, hf⟩ := lt_el hf
        refine va_put (D := D) (ci := 8) (v := .int y1) (ty := .int) (C := RX8) (T := TX8) (N := 26) hx hb hu inX8 tyX8 tyX8_ok nmX8 hown hK.1 hP hD hS 0 rfl rfl 17 (by decide) (hu _ q934) (fun _ h9 => h9) rfl (by decide +kernel) rfl rfl (Nat.le_of_ble_eq_true rfl) dX8_findEver_101 (fun H locs hP hD hS => ?_)
        have hP : va_P D vwCl (kX8 cs a (.ref (nn 0)) M_25) H := by rw [hM_25]; exact hP
        have hD : va_D A (kX8 cs a (.ref (nn 0)) M_25) := by rw [hM_25]; exact hD
        obtain ⟨v26, hv26, hf⟩ := lt_el hf
        refine lv_iinc (v := v26) (lv' := [(1, .int v26), (0, .ref (a 0)), (2, .int y2)]) hx hb dX8_findEver_104 hl (k := 1) rfl (by rw [hv26]; rfl) (by decide) rfl (fun ls hl => ?_)
        refine lv_goto (tgt := 21) hx hb dX8_findEver_107 (by decide) ?_
        exact hk21 v26 M_25 _ _ _ hP hD hS (lv_sub hl [1, 0] rfl) hf
      · have hf := in_el hc24 hf
        refine lv_aload_n hx hb dX8_findEver_69 rfl (lv_at hl 0 rfl) ?_
        refine lv_aload_n hx hb dX8_findEver_70 rfl (lv_at hl 0 rfl) ?_
        refine va_get (D := D) (ci := 8) (v := .ref (a 15)) (C := RX8) (T := TX8) (N := 26) hx hb hu inX8 hown hK.1 hP 0 rfl rfl 14 (by decide) (hu _ q931) (fun _ h9 => h9) rfl dX8_findEver_71 ?_
        refine lv_iload_n hx hb dX8_findEver_74 rfl (lv_at hl 2 rfl) ?_
        obtain ⟨hi27, hf⟩ := ck_el hf
        refine va_iald hx hb hK.1 hP 9 0 rfl rfl hi27 dX8_findEver_75 ?_
        refine lv_aload_n hx hb dX8_findEver_76 rfl (lv_at hl 0 rfl) ?_
        refine va_get (D := D) (ci := 8) (v := .ref (a 15)) (C := RX8) (T := TX8) (N := 26) hx hb hu inX8 hown hK.1 hP 0 rfl rfl 14 (by decide) (hu _ q931) (fun _ h9 => h9) rfl dX8_findEver_77 ?_
        refine lv_iload_n hx hb dX8_findEver_80 rfl (lv_at hl 1 rfl) ?_
        obtain ⟨hi28, hf⟩ := ck_el hf
        refine va_iald hx hb hK.1 hP 9 0 rfl rfl hi28 dX8_findEver_81 ?_
        refine lv_icmp_ne (tgt := 89) hx hb dX8_findEver_82 (by decide) (fun hc29 => ?_) (fun hc29 => ?_)
        · have hf := in_el hc29 hf
          refine lv_iconst (v := (-1)) hx hb dX8_findEver_89 (by decide) ?_
          obtain ⟨M_30, hM_30, hf⟩ := lt_el hf
          refine va_put (D := D) (ci := 8) (v := .int (-1)) (ty := .int) (C := RX8) (T := TX8) (N := 26) hx hb hu inX8 tyX8 tyX8_ok nmX8 hown hK.1 hP hD hS 0 rfl rfl 16 (by decide) (hu _ q933) (fun _ h9 => h9) rfl (by decide +kernel) rfl rfl (Nat.le_of_ble_eq_true rfl) dX8_findEver_90 (fun H locs hP hD hS => ?_)
          have hP : va_P D vwCl (kX8 cs a (.ref (nn 0)) M_30) H := by rw [hM_30]; exact hP
          have hD : va_D A (kX8 cs a (.ref (nn 0)) M_30) := by rw [hM_30]; exact hD
          obtain ⟨v31, hv31, hf⟩ := lt_el hf
          refine lv_iinc (v := v31) (lv' := [(2, .int v31), (0, .ref (a 0)), (1, .int y1)]) hx hb dX8_findEver_93 hl (k := 2) rfl (by rw [hv31]; rfl) (by decide) rfl (fun ls hl => ?_)
          refine lv_goto (tgt := 57) hx hb dX8_findEver_96 (by decide) ?_
          exact hk57 y1 v31 M_30 _ _ _ hP hD hS (lv_sub hl [1, 2, 0] rfl) hf
        · have hf := ip_el hc29 hf
          refine lv_iload_n hx hb dX8_findEver_85 rfl (lv_at hl 2 rfl) ?_
          refine lv_goto (tgt := 90) hx hb dX8_findEver_86 (by decide) ?_
          obtain ⟨M_32, hM_32, hf⟩ := lt_el hf
          refine va_put (D := D) (ci := 8) (v := .int y2) (ty := .int) (C := RX8) (T := TX8) (N := 26) hx hb hu inX8 tyX8 tyX8_ok nmX8 hown hK.1 hP hD hS 0 rfl rfl 16 (by decide) (hu _ q933) (fun _ h9 => h9) rfl (by decide +kernel) rfl rfl (Nat.le_of_ble_eq_true rfl) dX8_findEver_90 (fun H locs hP hD hS => ?_)
          have hP : va_P D vwCl (kX8 cs a (.ref (nn 0)) M_32) H := by rw [hM_32]; exact hP
          have hD : va_D A (kX8 cs a (.ref (nn 0)) M_32) := by rw [hM_32]; exact hD
          obtain ⟨v33, hv33, hf⟩ := lt_el hf
          refine lv_iinc (v := v33) (lv' := [(2, .int v33), (0, .ref (a 0)), (1, .int y1)]) hx hb dX8_findEver_93 hl (k := 2) rfl (by rw [hv33]; rfl) (by decide) rfl (fun ls hl => ?_)
          refine lv_goto (tgt := 57) hx hb dX8_findEver_96 (by decide) ?_
          exact hk57 y1 v33 M_32 _ _ _ hP hD hS (lv_sub hl [1, 2, 0] rfl) hf
  have h57 : ∀ (k21 : Int32 → ST → Option (Int32 × ST)), (∀ (y1 : Int32) (M : ST) (H : Heap) (locs : List Loc) (ls : Array Slot), va_P D vwCl (kX8 cs a (.ref (nn 0)) M) H → va_D A (kX8 cs a (.ref (nn 0)) M) → va_S A s.heap H locs → lv_has ls 3 [(0, .ref (a 0)), (1, .int y1)] → k21 y1 M = some (r0, Mz) → W p l e rmX8_findEver s m [.ref (a 0)].toArray below meth c H locs 0 0 Q (F0 m 21 ls [])) → ∀ (n : Nat), ∀ (y1 : Int32) (y2 : Int32) (M : ST) (H : Heap) (locs : List Loc) (ls : Array Slot), va_P D vwCl (kX8 cs a (.ref (nn 0)) M) H → va_D A (kX8 cs a (.ref (nn 0)) M) → va_S A s.heap H locs → lv_has ls 3 [(0, .ref (a 0)), (1, .int y1), (2, .int y2)] → fX8_findEver_57 k21 n y1 y2 M = some (r0, Mz) → W p l e rmX8_findEver s m [.ref (a 0)].toArray below meth c H locs 0 0 Q (F0 m 57 ls []) := by
    intro k21 hk21 n
    induction n with
    | zero => intro y1 y2 M H locs ls hP hD hS hl hf; exact no_el hf
    | succ n ih => intro y1 y2 M H locs ls hP hD hS hl hf; exact hs57 k21 hk21 _ ih y1 y2 M _ _ _ hP hD hS hl hf
  have hs21 : ∀ (k21 : Int32 → ST → Option (Int32 × ST)), (∀ (y1 : Int32) (M : ST) (H : Heap) (locs : List Loc) (ls : Array Slot), va_P D vwCl (kX8 cs a (.ref (nn 0)) M) H → va_D A (kX8 cs a (.ref (nn 0)) M) → va_S A s.heap H locs → lv_has ls 3 [(0, .ref (a 0)), (1, .int y1)] → k21 y1 M = some (r0, Mz) → W p l e rmX8_findEver s m [.ref (a 0)].toArray below meth c H locs 0 0 Q (F0 m 21 ls [])) → ∀ (y1 : Int32) (M : ST) (H : Heap) (locs : List Loc) (ls : Array Slot), va_P D vwCl (kX8 cs a (.ref (nn 0)) M) H → va_D A (kX8 cs a (.ref (nn 0)) M) → va_S A s.heap H locs → lv_has ls 3 [(0, .ref (a 0)), (1, .int y1)] → fX8_findEver_21_s k21 y1 M = some (r0, Mz) → W p l e rmX8_findEver s m [.ref (a 0)].toArray below meth c H locs 0 0 Q (F0 m 21 ls []) := by
    intro k21 hk21 y1 M H locs ls hP hD hS hl hf
    unfold fX8_findEver_21_s at hf
    refine lv_iload_n hx hb dX8_findEver_21 rfl (lv_at hl 1 rfl) ?_
    refine lv_sipush (v := 300) hx hb dX8_findEver_22 (by decide) ?_
    refine lv_icmp_gt (tgt := 110) hx hb dX8_findEver_25 (by decide) (fun hc7 => ?_) (fun hc7 => ?_)
    · have hf := ip_el hc7 hf
      exact h110 M _ _ _ hP hD hS (lv_sub hl [0] rfl) hf
    · have hf := in_el hc7 hf
      refine lv_aload_n hx hb dX8_findEver_28 rfl (lv_at hl 0 rfl) ?_
      refine va_get (D := D) (ci := 8) (v := .int (M 0 16)) (C := RX8) (T := TX8) (N := 26) hx hb hu inX8 hown hK.1 hP 0 rfl rfl 16 (by decide) (hu _ q933) (fun _ h9 => h9) rfl dX8_findEver_29 ?_
      refine lv_if_ge (tgt := 110) hx hb dX8_findEver_32 (by decide) (fun hc11 => ?_) (fun hc11 => ?_)
      · have hf := ip_el hc11 hf
        exact h110 M _ _ _ hP hD hS (lv_sub hl [0] rfl) hf
      · have hf := in_el hc11 hf
        refine lv_aload_n hx hb dX8_findEver_35 rfl (lv_at hl 0 rfl) ?_
        refine va_get (D := D) (ci := 8) (v := .ref (a 16)) (C := RX8) (T := TX8) (N := 26) hx hb hu inX8 hown hK.1 hP 0 rfl rfl 15 (by decide) (hu _ q932) (fun _ h9 => h9) rfl dX8_findEver_36 ?_
        refine lv_iload_n hx hb dX8_findEver_39 rfl (lv_at hl 1 rfl) ?_
        refine lv_aload_n hx hb dX8_findEver_40 rfl (lv_at hl 0 rfl) ?_
        obtain ⟨r12, M_13, hg14, hf⟩ := b2_el hf
        refine cc_V1 (w' := (kX8 cs a (.ref (nn 0)) M_13)) (st1 := [.int r12, .int y1, .ref (a 16)]) [] hx hb hml hown hu (tX8_comes l D cs a nn M r12 M_13 hg14) q1081 q62 q1078 q1080 q34 pdX8_comes ⟨rfl, rfl, Nat.le_of_ble_eq_true rfl, Nat.le_of_ble_eq_true rfl⟩ hK hZ hP hD hS hA rfl rfl rfl rfl hl.1 rfl (Nat.le_of_ble_eq_true rfl) dX8_findEver_41 rfl (fun H locs hP hD hS => ?_)
        obtain ⟨hi15, hf⟩ := ck_el hf
        obtain ⟨M_16, hM_16, hf⟩ := lt_el hf
        refine va_iast hx hb hK.1 hP hD hS 10 0 rfl rfl hi15 dX8_findEver_44 (fun H locs hP hD hS => ?_)
        have hP : va_P D vwCl (kX8 cs a (.ref (nn 0)) M_16) H := by rw [hM_16]; exact hP
        have hD : va_D A (kX8 cs a (.ref (nn 0)) M_16) := by rw [hM_16]; exact hD
        refine lv_aload_n hx hb dX8_findEver_45 rfl (lv_at hl 0 rfl) ?_
        refine va_get (D := D) (ci := 8) (v := .ref (a 15)) (C := RX8) (T := TX8) (N := 26) hx hb hu inX8 hown hK.1 hP 0 rfl rfl 14 (by decide) (hu _ q931) (fun _ h9 => h9) rfl dX8_findEver_46 ?_
        refine lv_iload_n hx hb dX8_findEver_49 rfl (lv_at hl 1 rfl) ?_
        refine lv_aload_n hx hb dX8_findEver_50 rfl (lv_at hl 0 rfl) ?_
        obtain ⟨r17, hg18, hf⟩ := b1_el hf
        refine cc_V1 (w' := (kX8 cs a (.ref (nn 0)) M_16)) (st1 := [.int r17, .int y1, .ref (a 15)]) [] hx hb hml hown hu (tX8_asOne l D cs a nn M_16 r17 hg18) q1194 q62 q1191 q1193 q42 pdX8_asOne ⟨rfl, rfl, Nat.le_of_ble_eq_true rfl, Nat.le_of_ble_eq_true rfl⟩ hK hZ hP hD hS hA rfl rfl rfl rfl hl.1 rfl (Nat.le_of_ble_eq_true rfl) dX8_findEver_51 rfl (fun H locs hP hD hS => ?_)
        obtain ⟨hi19, hf⟩ := ck_el hf
        obtain ⟨M_20, hM_20, hf⟩ := lt_el hf
        refine va_iast hx hb hK.1 hP hD hS 9 0 rfl rfl hi19 dX8_findEver_54 (fun H locs hP hD hS => ?_)
        have hP : va_P D vwCl (kX8 cs a (.ref (nn 0)) M_20) H := by rw [hM_20]; exact hP
        have hD : va_D A (kX8 cs a (.ref (nn 0)) M_20) := by rw [hM_20]; exact hD
        refine lv_iconst (v := 0) hx hb dX8_findEver_55 (by decide) ?_
        refine lv_istore_n (lv' := [(2, .int 0), (0, .ref (a 0)), (1, .int y1)]) hx hb dX8_findEver_56 rfl hl (by decide) rfl (fun ls hl => ?_)
        exact h57 k21 hk21 400 y1 0 M_20 _ _ _ hP hD hS (lv_sub hl [1, 2, 0] rfl) hf
  have h21 : ∀ (n : Nat), ∀ (y1 : Int32) (M : ST) (H : Heap) (locs : List Loc) (ls : Array Slot), va_P D vwCl (kX8 cs a (.ref (nn 0)) M) H → va_D A (kX8 cs a (.ref (nn 0)) M) → va_S A s.heap H locs → lv_has ls 3 [(0, .ref (a 0)), (1, .int y1)] → fX8_findEver_21 n y1 M = some (r0, Mz) → W p l e rmX8_findEver s m [.ref (a 0)].toArray below meth c H locs 0 0 Q (F0 m 21 ls []) := by
    intro n
    induction n with
    | zero => intro y1 M H locs ls hP hD hS hl hf; exact no_el hf
    | succ n ih => intro y1 M H locs ls hP hD hS hl hf; exact hs21 _ ih y1 M _ _ _ hP hD hS hl hf
  have hl : lv_has ls0 3 [(0, .ref (a 0))] := hl0
  have hP := hP0
  have hD := hD0
  have hS := hS0
  unfold fX8_findEver at hf
  refine lv_aload_n hx hb dX8_findEver_0 rfl (lv_at hl 0 rfl) ?_
  obtain ⟨M_1, hg2, hf⟩ := b1_el hf
  refine cc_V1 (w' := (kX8 cs a (.ref (nn 0)) M_1)) (st1 := []) [] hx hb hml hown hu (tX8_laysBy l D cs a nn M M_1 hg2) q1178 q62 q1175 q1177 q39 pdX8_laysBy ⟨rfl, rfl, Nat.le_of_ble_eq_true rfl, Nat.le_of_ble_eq_true rfl⟩ hK hZ hP hD hS hA rfl rfl rfl rfl hl.1 rfl (Nat.le_of_ble_eq_true rfl) dX8_findEver_1 rfl (fun H locs hP hD hS => ?_)
  refine lv_aload_n hx hb dX8_findEver_4 rfl (lv_at hl 0 rfl) ?_
  refine va_get (D := D) (ci := 8) (v := .ref (a 15)) (C := RX8) (T := TX8) (N := 26) hx hb hu inX8 hown hK.1 hP 0 rfl rfl 14 (by decide) (hu _ q931) (fun _ h9 => h9) rfl dX8_findEver_5 ?_
  refine lv_iconst (v := 0) hx hb dX8_findEver_8 (by decide) ?_
  refine lv_aload_n hx hb dX8_findEver_9 rfl (lv_at hl 0 rfl) ?_
  obtain ⟨r3, hg4, hf⟩ := b1_el hf
  refine cc_V1 (w' := (kX8 cs a (.ref (nn 0)) M_1)) (st1 := [.int r3, .int 0, .ref (a 15)]) [] hx hb hml hown hu (tX8_asOne l D cs a nn M_1 r3 hg4) q1194 q62 q1191 q1193 q42 pdX8_asOne ⟨rfl, rfl, Nat.le_of_ble_eq_true rfl, Nat.le_of_ble_eq_true rfl⟩ hK hZ hP hD hS hA rfl rfl rfl rfl hl.1 rfl (Nat.le_of_ble_eq_true rfl) dX8_findEver_10 rfl (fun H locs hP hD hS => ?_)
  obtain ⟨M_5, hM_5, hf⟩ := lt_el hf
  refine is_lit hx hb hK hP hD hS 9 0 rfl (by decide) dX8_findEver_13 (fun H locs hP hD hS => ?_)
  have hP : va_P D vwCl (kX8 cs a (.ref (nn 0)) M_5) H := by rw [hM_5]; exact hP
  have hD : va_D A (kX8 cs a (.ref (nn 0)) M_5) := by rw [hM_5]; exact hD
  refine lv_aload_n hx hb dX8_findEver_14 rfl (lv_at hl 0 rfl) ?_
  refine lv_iconst (v := (-1)) hx hb dX8_findEver_15 (by decide) ?_
  obtain ⟨M_6, hM_6, hf⟩ := lt_el hf
  refine va_put (D := D) (ci := 8) (v := .int (-1)) (ty := .int) (C := RX8) (T := TX8) (N := 26) hx hb hu inX8 tyX8 tyX8_ok nmX8 hown hK.1 hP hD hS 0 rfl rfl 16 (by decide) (hu _ q933) (fun _ h9 => h9) rfl (by decide +kernel) rfl rfl (Nat.le_of_ble_eq_true rfl) dX8_findEver_16 (fun H locs hP hD hS => ?_)
  have hP : va_P D vwCl (kX8 cs a (.ref (nn 0)) M_6) H := by rw [hM_6]; exact hP
  have hD : va_D A (kX8 cs a (.ref (nn 0)) M_6) := by rw [hM_6]; exact hD
  refine lv_iconst (v := 1) hx hb dX8_findEver_19 (by decide) ?_
  refine lv_istore_n (lv' := [(1, .int 1), (0, .ref (a 0))]) hx hb dX8_findEver_20 rfl hl (by decide) rfl (fun ls hl => ?_)
  exact h21 400 1 M_6 _ _ _ hP hD hS (lv_sub hl [1, 0] rfl) hf

def fX8_ever_23_s (k23 : Int32 → Int32 → ST → Option (Int32 × ST)) (y1 : Int32) (y2 : Int32) (M : ST) : Option (Int32 × ST) :=
  (if (M 0 17) < y2 then some (y1, M) else dc_ck y2 301 ((if 0 ≤ (M 16 (Int32.toNatClampNeg y2)) then dc_ck y2 301 (dc_lt (y1 ||| ((1 : Int32) <<< ((M 16 (Int32.toNatClampNeg y2)) &&& 31))) (fun v10 => dc_lt (y2 + 1) (fun v11 => k23 v10 v11 M))) else dc_lt (y1 ||| 0) (fun v12 => dc_lt (y2 + 1) (fun v13 => k23 v12 v13 M)))))
def fX8_ever_23 : Nat → Int32 → Int32 → ST → Option (Int32 × ST)
  | 0 => fun _ _ _ => none
  | n + 1 => fX8_ever_23_s (fX8_ever_23 n)
def fX8_ever (M : ST) : Option (Int32 × ST) :=
  dc_b2 (fX8_findEver M) (fun r1 M_2 => (if r1 = 0 then dc_b2 (fX8_finds (-1000000004) M_2) (fun r14 M_15 => some (r14, M_15)) else dc_lt ((M_2 0 16) + 1) (fun v5 => fX8_ever_23 400 0 v5 M_2)))
abbrev rmX8_ever : Room := { frames := 13, cells := 0, slots := 0, locals := 314 }
set_option maxRecDepth 100000 in
set_option maxHeartbeats 4000000 in
theorem tX8_ever (l : Launch) (D : va_G) (cs : Nat → ClassId) (a : Nat → Nat) (nn : Nat → Nat) (M : ST) (r0 : Int32) (Mz : ST) (hf : fX8_ever M = some (r0, Mz)) : CG l yX8_ever (wsm yX8_ever cX8_ever 3 (some .int)) rmX8_ever D cs [.ref (a 0)] (some (.int r0)) (kX8 cs a (.ref (nn 0)) M) (kX8 cs a (.ref (nn 0)) Mz) := by
  refine CG.intro (by decide) (Nat.le_of_ble_eq_true rfl) ?_
  intro p e s m below meth c A Q hx hb hml hown hu hK hZ hP0 hD0 hS0 hA hri hrz hrl hrv hra ls0 hl0
  have hs23 : ∀ (k23 : Int32 → Int32 → ST → Option (Int32 × ST)), (∀ (y1 : Int32) (y2 : Int32) (M : ST) (H : Heap) (locs : List Loc) (ls : Array Slot), va_P D vwCl (kX8 cs a (.ref (nn 0)) M) H → va_D A (kX8 cs a (.ref (nn 0)) M) → va_S A s.heap H locs → lv_has ls 3 [(0, .ref (a 0)), (1, .int y1), (2, .int y2)] → k23 y1 y2 M = some (r0, Mz) → W p l e rmX8_ever s m [.ref (a 0)].toArray below meth c H locs 0 0 Q (F0 m 23 ls [])) → ∀ (y1 : Int32) (y2 : Int32) (M : ST) (H : Heap) (locs : List Loc) (ls : Array Slot), va_P D vwCl (kX8 cs a (.ref (nn 0)) M) H → va_D A (kX8 cs a (.ref (nn 0)) M) → va_S A s.heap H locs → lv_has ls 3 [(0, .ref (a 0)), (1, .int y1), (2, .int y2)] → fX8_ever_23_s k23 y1 y2 M = some (r0, Mz) → W p l e rmX8_ever s m [.ref (a 0)].toArray below meth c H locs 0 0 Q (F0 m 23 ls []) := by
    intro k23 hk23 y1 y2 M H locs ls hP hD hS hl hf
    unfold fX8_ever_23_s at hf
    refine lv_iload_n hx hb dX8_ever_23 rfl (lv_at hl 2 rfl) ?_
    refine lv_aload_n hx hb dX8_ever_24 rfl (lv_at hl 0 rfl) ?_
    refine va_get (D := D) (ci := 8) (v := .int (M 0 17)) (C := RX8) (T := TX8) (N := 26) hx hb hu inX8 hown hK.1 hP 0 rfl rfl 17 (by decide) (hu _ q934) (fun _ h9 => h9) rfl dX8_ever_25 ?_
    refine lv_icmp_gt (tgt := 61) hx hb dX8_ever_28 (by decide) (fun hc6 => ?_) (fun hc6 => ?_)
    · have hf := ip_el hc6 hf
      refine lv_iload_n hx hb dX8_ever_61 rfl (lv_at hl 1 rfl) ?_
      have he := Option.some.inj hf
      obtain ⟨e0, e1⟩ := Prod.mk.inj he
      exact hri _ _ _ rfl (congrArg (fun z => some (Value.int z)) e0.symm) dX8_ever_62 _ _ _ (by rw [e1]) hP hD hS
    · have hf := in_el hc6 hf
      refine lv_iload_n hx hb dX8_ever_31 rfl (lv_at hl 1 rfl) ?_
      refine lv_aload_n hx hb dX8_ever_32 rfl (lv_at hl 0 rfl) ?_
      refine va_get (D := D) (ci := 8) (v := .ref (a 16)) (C := RX8) (T := TX8) (N := 26) hx hb hu inX8 hown hK.1 hP 0 rfl rfl 15 (by decide) (hu _ q932) (fun _ h9 => h9) rfl dX8_ever_33 ?_
      refine lv_iload_n hx hb dX8_ever_36 rfl (lv_at hl 2 rfl) ?_
      obtain ⟨hi7, hf⟩ := ck_el hf
      refine va_iald hx hb hK.1 hP 10 0 rfl rfl hi7 dX8_ever_37 ?_
      refine lv_if_ge (tgt := 45) hx hb dX8_ever_38 (by decide) (fun hc8 => ?_) (fun hc8 => ?_)
      · have hf := ip_el hc8 hf
        refine lv_iconst (v := 1) hx hb dX8_ever_45 (by decide) ?_
        refine lv_aload_n hx hb dX8_ever_46 rfl (lv_at hl 0 rfl) ?_
        refine va_get (D := D) (ci := 8) (v := .ref (a 16)) (C := RX8) (T := TX8) (N := 26) hx hb hu inX8 hown hK.1 hP 0 rfl rfl 15 (by decide) (hu _ q932) (fun _ h9 => h9) rfl dX8_ever_47 ?_
        refine lv_iload_n hx hb dX8_ever_50 rfl (lv_at hl 2 rfl) ?_
        obtain ⟨hi9, hf⟩ := ck_el hf
        refine va_iald hx hb hK.1 hP 10 0 rfl rfl hi9 dX8_ever_51 ?_
        refine lv_ishl hx hb dX8_ever_52 ?_
        refine lv_ior hx hb dX8_ever_53 ?_
        obtain ⟨v10, hv10, hf⟩ := lt_el hf
        refine lv_tope hv10 ?_
        refine lv_istore_n (lv' := [(1, .int v10), (0, .ref (a 0)), (2, .int y2)]) hx hb dX8_ever_54 rfl hl (by decide) rfl (fun ls hl => ?_)
        obtain ⟨v11, hv11, hf⟩ := lt_el hf
        refine lv_iinc (v := v11) (lv' := [(2, .int v11), (1, .int v10), (0, .ref (a 0))]) hx hb dX8_ever_55 hl (k := 2) rfl (by rw [hv11]; rfl) (by decide) rfl (fun ls hl => ?_)
        refine lv_goto (tgt := 23) hx hb dX8_ever_58 (by decide) ?_
        exact hk23 v10 v11 M _ _ _ hP hD hS (lv_sub hl [2, 1, 0] rfl) hf
      · have hf := in_el hc8 hf
        refine lv_iconst (v := 0) hx hb dX8_ever_41 (by decide) ?_
        refine lv_goto (tgt := 53) hx hb dX8_ever_42 (by decide) ?_
        refine lv_ior hx hb dX8_ever_53 ?_
        obtain ⟨v12, hv12, hf⟩ := lt_el hf
        refine lv_tope hv12 ?_
        refine lv_istore_n (lv' := [(1, .int v12), (0, .ref (a 0)), (2, .int y2)]) hx hb dX8_ever_54 rfl hl (by decide) rfl (fun ls hl => ?_)
        obtain ⟨v13, hv13, hf⟩ := lt_el hf
        refine lv_iinc (v := v13) (lv' := [(2, .int v13), (1, .int v12), (0, .ref (a 0))]) hx hb dX8_ever_55 hl (k := 2) rfl (by rw [hv13]; rfl) (by decide) rfl (fun ls hl => ?_)
        refine lv_goto (tgt := 23) hx hb dX8_ever_58 (by decide) ?_
        exact hk23 v12 v13 M _ _ _ hP hD hS (lv_sub hl [2, 1, 0] rfl) hf
  have h23 : ∀ (n : Nat), ∀ (y1 : Int32) (y2 : Int32) (M : ST) (H : Heap) (locs : List Loc) (ls : Array Slot), va_P D vwCl (kX8 cs a (.ref (nn 0)) M) H → va_D A (kX8 cs a (.ref (nn 0)) M) → va_S A s.heap H locs → lv_has ls 3 [(0, .ref (a 0)), (1, .int y1), (2, .int y2)] → fX8_ever_23 n y1 y2 M = some (r0, Mz) → W p l e rmX8_ever s m [.ref (a 0)].toArray below meth c H locs 0 0 Q (F0 m 23 ls []) := by
    intro n
    induction n with
    | zero => intro y1 y2 M H locs ls hP hD hS hl hf; exact no_el hf
    | succ n ih => intro y1 y2 M H locs ls hP hD hS hl hf; exact hs23 _ ih y1 y2 M _ _ _ hP hD hS hl hf
  have hl : lv_has ls0 3 [(0, .ref (a 0))] := hl0
  have hP := hP0
  have hD := hD0
  have hS := hS0
  unfold fX8_ever at hf
  refine lv_aload_n hx hb dX8_ever_0 rfl (lv_at hl 0 rfl) ?_
  obtain ⟨r1, M_2, hg3, hf⟩ := b2_el hf
  refine cc_V1 (w' := (kX8 cs a (.ref (nn 0)) M_2)) (st1 := [.int r1]) [] hx hb hml hown hu (tX8_findEver l D cs a nn M r1 M_2 hg3) q1190 q62 q1187 q1189 q41 pdX8_findEver ⟨rfl, rfl, Nat.le_of_ble_eq_true rfl, Nat.le_of_ble_eq_true rfl⟩ hK hZ hP hD hS hA rfl rfl rfl rfl hl.1 rfl (Nat.le_of_ble_eq_true rfl) dX8_ever_1 rfl (fun H locs hP hD hS => ?_)
  refine lv_if_ne (tgt := 14) hx hb dX8_ever_4 (by decide) (fun hc4 => ?_) (fun hc4 => ?_)
  · have hf := in_el hc4 hf
    refine lv_iconst (v := 0) hx hb dX8_ever_14 (by decide) ?_
    refine lv_istore_n (lv' := [(1, .int 0), (0, .ref (a 0))]) hx hb dX8_ever_15 rfl hl (by decide) rfl (fun ls hl => ?_)
    refine lv_aload_n hx hb dX8_ever_16 rfl (lv_at hl 1 rfl) ?_
    refine va_get (D := D) (ci := 8) (v := .int (M_2 0 16)) (C := RX8) (T := TX8) (N := 26) hx hb hu inX8 hown hK.1 hP 0 rfl rfl 16 (by decide) (hu _ q933) (fun _ h9 => h9) rfl dX8_ever_17 ?_
    refine lv_iconst (v := 1) hx hb dX8_ever_20 (by decide) ?_
    refine lv_iadd hx hb dX8_ever_21 ?_
    obtain ⟨v5, hv5, hf⟩ := lt_el hf
    refine lv_tope hv5 ?_
    refine lv_istore_n (lv' := [(2, .int v5), (1, .int 0), (0, .ref (a 0))]) hx hb dX8_ever_22 rfl hl (by decide) rfl (fun ls hl => ?_)
    exact h23 400 0 v5 M_2 _ _ _ hP hD hS (lv_sub hl [2, 1, 0] rfl) hf
  · have hf := ip_el hc4 hf
    refine lv_aload_n hx hb dX8_ever_7 rfl (lv_at hl 0 rfl) ?_
    refine lv_ldc (v := (-1000000004)) hx hb hown (hu _ q1195) dX8_ever_8 ?_
    obtain ⟨r14, M_15, hg16, hf⟩ := b2_el hf
    refine cc_V1 (w' := (kX8 cs a (.ref (nn 0)) M_15)) (st1 := [.int r14]) [.int (-1000000004)] hx hb hml hown hu (tX8_finds l D cs a nn (-1000000004) M_2 r14 M_15 hg16) q1012 q62 q1009 q1011 q19 pdX8_finds ⟨rfl, rfl, Nat.le_of_ble_eq_true rfl, Nat.le_of_ble_eq_true rfl⟩ hK hZ hP hD hS hA rfl rfl rfl rfl hl.1 rfl (Nat.le_of_ble_eq_true rfl) dX8_ever_10 rfl (fun H locs hP hD hS => ?_)
    have he := Option.some.inj hf
    obtain ⟨e0, e1⟩ := Prod.mk.inj he
    exact hri _ _ _ rfl (congrArg (fun z => some (Value.int z)) e0.symm) dX8_ever_13 _ _ _ (by rw [e1]) hP hD hS

def fX8_turns (x1 : Int32) (M : ST) : Option (Int32 × ST) :=
  dc_b1 (fX8_isIn (x1.toInt64) 0 1) (fun r1 => (if r1 = 0 then dc_b2 (fX8_finds (-1000000001) M) (fun r12 M_13 => some (r12, M_13)) else dc_b2 (fX8_findEver M) (fun r4 M_5 => (if r4 = 0 then dc_b2 (fX8_finds (-1000000004) M_5) (fun r9 M_10 => some (r9, M_10)) else (if x1 = 0 then some ((M_5 0 16), M_5) else some (((M_5 0 17) - (M_5 0 16)), M_5))))))
abbrev rmX8_turns : Room := { frames := 13, cells := 0, slots := 0, locals := 314 }
set_option maxRecDepth 100000 in
set_option maxHeartbeats 4000000 in
theorem tX8_turns (l : Launch) (D : va_G) (cs : Nat → ClassId) (a : Nat → Nat) (nn : Nat → Nat) (x1 : Int32) (M : ST) (r0 : Int32) (Mz : ST) (hf : fX8_turns x1 M = some (r0, Mz)) : CG l yX8_turns (wsm yX8_turns cX8_turns 2 (some .int)) rmX8_turns D cs [.ref (a 0), .int x1] (some (.int r0)) (kX8 cs a (.ref (nn 0)) M) (kX8 cs a (.ref (nn 0)) Mz) := by
  refine CG.intro (by decide) (Nat.le_of_ble_eq_true rfl) ?_
  intro p e s m below meth c A Q hx hb hml hown hu hK hZ hP0 hD0 hS0 hA hri hrz hrl hrv hra ls0 hl0
  have hl : lv_has ls0 2 [(0, .ref (a 0)), (1, .int x1)] := hl0
  have hP := hP0
  have hD := hD0
  have hS := hS0
  unfold fX8_turns at hf
  refine lv_iload_n hx hb dX8_turns_0 rfl (lv_at hl 1 rfl) ?_
  refine lv_i2l (v := (x1.toInt64)) hx hb dX8_turns_1 rfl ?_
  refine lv_lconst (v := 0) hx hb dX8_turns_2 (by decide) ?_
  refine lv_lconst (v := 1) hx hb dX8_turns_3 (by decide) ?_
  obtain ⟨r1, hg2, hf⟩ := b1_el hf
  refine cc_S0 (st1 := [.int r1]) [.long (x1.toInt64), .long 0, .long 1] hx hb hml hown hu (tX8_isIn l D cs (x1.toInt64) 0 1 r1 hg2) q1004 q62 q1002 q1003 pdX8_isIn ⟨rfl, rfl, Nat.le_of_ble_eq_true rfl, Nat.le_of_ble_eq_true rfl⟩ hK hZ hP hD hS hA rfl hl.1 rfl (Nat.le_of_ble_eq_true rfl) dX8_turns_4 rfl (fun H locs hP hD hS => ?_)
  refine lv_if_ne (tgt := 17) hx hb dX8_turns_7 (by decide) (fun hc3 => ?_) (fun hc3 => ?_)
  · have hf := in_el hc3 hf
    refine lv_aload_n hx hb dX8_turns_17 rfl (lv_at hl 0 rfl) ?_
    obtain ⟨r4, M_5, hg6, hf⟩ := b2_el hf
    refine cc_V1 (w' := (kX8 cs a (.ref (nn 0)) M_5)) (st1 := [.int r4]) [] hx hb hml hown hu (tX8_findEver l D cs a nn M r4 M_5 hg6) q1190 q62 q1187 q1189 q41 pdX8_findEver ⟨rfl, rfl, Nat.le_of_ble_eq_true rfl, Nat.le_of_ble_eq_true rfl⟩ hK hZ hP hD hS hA rfl rfl rfl rfl hl.1 rfl (Nat.le_of_ble_eq_true rfl) dX8_turns_18 rfl (fun H locs hP hD hS => ?_)
    refine lv_if_ne (tgt := 31) hx hb dX8_turns_21 (by decide) (fun hc7 => ?_) (fun hc7 => ?_)
    · have hf := in_el hc7 hf
      refine lv_iload_n hx hb dX8_turns_31 rfl (lv_at hl 1 rfl) ?_
      refine lv_if_ne (tgt := 42) hx hb dX8_turns_32 (by decide) (fun hc8 => ?_) (fun hc8 => ?_)
      · have hf := in_el hc8 hf
        refine lv_aload_n hx hb dX8_turns_42 rfl (lv_at hl 0 rfl) ?_
        refine va_get (D := D) (ci := 8) (v := .int (M_5 0 17)) (C := RX8) (T := TX8) (N := 26) hx hb hu inX8 hown hK.1 hP 0 rfl rfl 17 (by decide) (hu _ q934) (fun _ h9 => h9) rfl dX8_turns_43 ?_
        refine lv_aload_n hx hb dX8_turns_46 rfl (lv_at hl 0 rfl) ?_
        refine va_get (D := D) (ci := 8) (v := .int (M_5 0 16)) (C := RX8) (T := TX8) (N := 26) hx hb hu inX8 hown hK.1 hP 0 rfl rfl 16 (by decide) (hu _ q933) (fun _ h9 => h9) rfl dX8_turns_47 ?_
        refine lv_isub hx hb dX8_turns_50 ?_
        have he := Option.some.inj hf
        obtain ⟨e0, e1⟩ := Prod.mk.inj he
        exact hri _ _ _ rfl (congrArg (fun z => some (Value.int z)) e0.symm) dX8_turns_51 _ _ _ (by rw [e1]) hP hD hS
      · have hf := ip_el hc8 hf
        refine lv_aload_n hx hb dX8_turns_35 rfl (lv_at hl 0 rfl) ?_
        refine va_get (D := D) (ci := 8) (v := .int (M_5 0 16)) (C := RX8) (T := TX8) (N := 26) hx hb hu inX8 hown hK.1 hP 0 rfl rfl 16 (by decide) (hu _ q933) (fun _ h9 => h9) rfl dX8_turns_36 ?_
        refine lv_goto (tgt := 51) hx hb dX8_turns_39 (by decide) ?_
        have he := Option.some.inj hf
        obtain ⟨e0, e1⟩ := Prod.mk.inj he
        exact hri _ _ _ rfl (congrArg (fun z => some (Value.int z)) e0.symm) dX8_turns_51 _ _ _ (by rw [e1]) hP hD hS
    · have hf := ip_el hc7 hf
      refine lv_aload_n hx hb dX8_turns_24 rfl (lv_at hl 0 rfl) ?_
      refine lv_ldc (v := (-1000000004)) hx hb hown (hu _ q1195) dX8_turns_25 ?_
      obtain ⟨r9, M_10, hg11, hf⟩ := b2_el hf
      refine cc_V1 (w' := (kX8 cs a (.ref (nn 0)) M_10)) (st1 := [.int r9]) [.int (-1000000004)] hx hb hml hown hu (tX8_finds l D cs a nn (-1000000004) M_5 r9 M_10 hg11) q1012 q62 q1009 q1011 q19 pdX8_finds ⟨rfl, rfl, Nat.le_of_ble_eq_true rfl, Nat.le_of_ble_eq_true rfl⟩ hK hZ hP hD hS hA rfl rfl rfl rfl hl.1 rfl (Nat.le_of_ble_eq_true rfl) dX8_turns_27 rfl (fun H locs hP hD hS => ?_)
      have he := Option.some.inj hf
      obtain ⟨e0, e1⟩ := Prod.mk.inj he
      exact hri _ _ _ rfl (congrArg (fun z => some (Value.int z)) e0.symm) dX8_turns_30 _ _ _ (by rw [e1]) hP hD hS
  · have hf := ip_el hc3 hf
    refine lv_aload_n hx hb dX8_turns_10 rfl (lv_at hl 0 rfl) ?_
    refine lv_ldc (v := (-1000000001)) hx hb hown (hu _ q1008) dX8_turns_11 ?_
    obtain ⟨r12, M_13, hg14, hf⟩ := b2_el hf
    refine cc_V1 (w' := (kX8 cs a (.ref (nn 0)) M_13)) (st1 := [.int r12]) [.int (-1000000001)] hx hb hml hown hu (tX8_finds l D cs a nn (-1000000001) M r12 M_13 hg14) q1012 q62 q1009 q1011 q19 pdX8_finds ⟨rfl, rfl, Nat.le_of_ble_eq_true rfl, Nat.le_of_ble_eq_true rfl⟩ hK hZ hP hD hS hA rfl rfl rfl rfl hl.1 rfl (Nat.le_of_ble_eq_true rfl) dX8_turns_13 rfl (fun H locs hP hD hS => ?_)
    have he := Option.some.inj hf
    obtain ⟨e0, e1⟩ := Prod.mk.inj he
    exact hri _ _ _ rfl (congrArg (fun z => some (Value.int z)) e0.symm) dX8_turns_16 _ _ _ (by rw [e1]) hP hD hS

def fX8_share_19 (M : ST) : Option (Int32 × ST) :=
  dc_b2 (fX8_finds (-1000000001) M) (fun r4 M_5 => some (r4, M_5))
def fX8_share_35_s (k35 : Int32 → Int32 → Int32 → Int32 → ST → Option (Int32 × ST)) (y1 : Int32) (y2 : Int32) (y3 : Int32) (y4 : Int32) (M : ST) : Option (Int32 × ST) :=
  (if y2 ≤ y4 then dc_b1 (fX8_laysBack M) (fun M_13 => some (y3, M_13)) else dc_b2 (fX8_comes M) (fun r15 M_16 => (if r15 < 0 then dc_lt (y3 + 0) (fun v19 => dc_lt (y4 + 1) (fun v20 => k35 y1 y2 v19 v20 M_16)) else dc_b1 (fX8_has0 r15 2 M_16) (fun r21 => (if r21 = y1 then dc_lt (y3 + 1) (fun v26 => dc_lt (y4 + 1) (fun v27 => k35 y1 y2 v26 v27 M_16)) else dc_lt (y3 + 0) (fun v24 => dc_lt (y4 + 1) (fun v25 => k35 y1 y2 v24 v25 M_16)))))))
def fX8_share_35 : Nat → Int32 → Int32 → Int32 → Int32 → ST → Option (Int32 × ST)
  | 0 => fun _ _ _ _ _ => none
  | n + 1 => fX8_share_35_s (fX8_share_35 n)
def fX8_share (x1 : Int32) (x2 : Int32) (M : ST) : Option (Int32 × ST) :=
  dc_b1 (fX8_isIn (x1.toInt64) 0 3) (fun r1 => (if r1 = 0 then fX8_share_19 M else dc_b1 (fX8_isChairs x2) (fun r7 => (if r7 = 0 then fX8_share_19 M else dc_b1 (fX8_laysBy M) (fun M_10 => fX8_share_35 400 x1 x2 0 0 M_10)))))
abbrev rmX8_share : Room := { frames := 12, cells := 0, slots := 0, locals := 292 }
set_option maxRecDepth 100000 in
set_option maxHeartbeats 4000000 in
theorem tX8_share (l : Launch) (D : va_G) (cs : Nat → ClassId) (a : Nat → Nat) (nn : Nat → Nat) (x1 : Int32) (x2 : Int32) (M : ST) (r0 : Int32) (Mz : ST) (hf : fX8_share x1 x2 M = some (r0, Mz)) : CG l yX8_share (wsm yX8_share cX8_share 6 (some .int)) rmX8_share D cs [.ref (a 0), .int x1, .int x2] (some (.int r0)) (kX8 cs a (.ref (nn 0)) M) (kX8 cs a (.ref (nn 0)) Mz) := by
  refine CG.intro (by decide) (Nat.le_of_ble_eq_true rfl) ?_
  intro p e s m below meth c A Q hx hb hml hown hu hK hZ hP0 hD0 hS0 hA hri hrz hrl hrv hra ls0 hl0
  have h19 : ∀ (M : ST) (H : Heap) (locs : List Loc) (ls : Array Slot), va_P D vwCl (kX8 cs a (.ref (nn 0)) M) H → va_D A (kX8 cs a (.ref (nn 0)) M) → va_S A s.heap H locs → lv_has ls 6 [(0, .ref (a 0))] → fX8_share_19 M = some (r0, Mz) → W p l e rmX8_share s m [.ref (a 0), .int x1, .int x2].toArray below meth c H locs 0 0 Q (F0 m 19 ls []) := by
    intro M H locs ls hP hD hS hl hf
    unfold fX8_share_19 at hf
    refine lv_aload_n hx hb dX8_share_19 rfl (lv_at hl 0 rfl) ?_
    refine lv_ldc (v := (-1000000001)) hx hb hown (hu _ q1008) dX8_share_20 ?_
    obtain ⟨r4, M_5, hg6, hf⟩ := b2_el hf
    refine cc_V1 (w' := (kX8 cs a (.ref (nn 0)) M_5)) (st1 := [.int r4]) [.int (-1000000001)] hx hb hml hown hu (tX8_finds l D cs a nn (-1000000001) M r4 M_5 hg6) q1012 q62 q1009 q1011 q19 pdX8_finds ⟨rfl, rfl, Nat.le_of_ble_eq_true rfl, Nat.le_of_ble_eq_true rfl⟩ hK hZ hP hD hS hA rfl rfl rfl rfl hl.1 rfl (Nat.le_of_ble_eq_true rfl) dX8_share_22 rfl (fun H locs hP hD hS => ?_)
    have he := Option.some.inj hf
    obtain ⟨e0, e1⟩ := Prod.mk.inj he
    exact hri _ _ _ rfl (congrArg (fun z => some (Value.int z)) e0.symm) dX8_share_25 _ _ _ (by rw [e1]) hP hD hS
  have hs35 : ∀ (k35 : Int32 → Int32 → Int32 → Int32 → ST → Option (Int32 × ST)), (∀ (y1 : Int32) (y2 : Int32) (y3 : Int32) (y4 : Int32) (M : ST) (H : Heap) (locs : List Loc) (ls : Array Slot), va_P D vwCl (kX8 cs a (.ref (nn 0)) M) H → va_D A (kX8 cs a (.ref (nn 0)) M) → va_S A s.heap H locs → lv_has ls 6 [(0, .ref (a 0)), (1, .int y1), (2, .int y2), (3, .int y3), (4, .int y4)] → k35 y1 y2 y3 y4 M = some (r0, Mz) → W p l e rmX8_share s m [.ref (a 0), .int x1, .int x2].toArray below meth c H locs 0 0 Q (F0 m 35 ls [])) → ∀ (y1 : Int32) (y2 : Int32) (y3 : Int32) (y4 : Int32) (M : ST) (H : Heap) (locs : List Loc) (ls : Array Slot), va_P D vwCl (kX8 cs a (.ref (nn 0)) M) H → va_D A (kX8 cs a (.ref (nn 0)) M) → va_S A s.heap H locs → lv_has ls 6 [(0, .ref (a 0)), (1, .int y1), (2, .int y2), (3, .int y3), (4, .int y4)] → fX8_share_35_s k35 y1 y2 y3 y4 M = some (r0, Mz) → W p l e rmX8_share s m [.ref (a 0), .int x1, .int x2].toArray below meth c H locs 0 0 Q (F0 m 35 ls []) := by
    intro k35 hk35 y1 y2 y3 y4 M H locs ls hP hD hS hl hf
    unfold fX8_share_35_s at hf
    refine lv_iload hx hb dX8_share_35 (lv_at hl 4 rfl) ?_
    refine lv_iload_n hx hb dX8_share_37 rfl (lv_at hl 2 rfl) ?_
    refine lv_icmp_ge (tgt := 77) hx hb dX8_share_38 (by decide) (fun hc12 => ?_) (fun hc12 => ?_)
    · have hf := ip_el hc12 hf
      refine lv_aload_n hx hb dX8_share_77 rfl (lv_at hl 0 rfl) ?_
      obtain ⟨M_13, hg14, hf⟩ := b1_el hf
      refine cc_V1 (w' := (kX8 cs a (.ref (nn 0)) M_13)) (st1 := []) [] hx hb hml hown hu (tX8_laysBack l D cs a nn M M_13 hg14) q1182 q62 q1179 q1181 q40 pdX8_laysBack ⟨rfl, rfl, Nat.le_of_ble_eq_true rfl, Nat.le_of_ble_eq_true rfl⟩ hK hZ hP hD hS hA rfl rfl rfl rfl hl.1 rfl (Nat.le_of_ble_eq_true rfl) dX8_share_78 rfl (fun H locs hP hD hS => ?_)
      refine lv_iload_n hx hb dX8_share_81 rfl (lv_at hl 3 rfl) ?_
      have he := Option.some.inj hf
      obtain ⟨e0, e1⟩ := Prod.mk.inj he
      exact hri _ _ _ rfl (congrArg (fun z => some (Value.int z)) e0.symm) dX8_share_82 _ _ _ (by rw [e1]) hP hD hS
    · have hf := in_el hc12 hf
      refine lv_aload_n hx hb dX8_share_41 rfl (lv_at hl 0 rfl) ?_
      obtain ⟨r15, M_16, hg17, hf⟩ := b2_el hf
      refine cc_V1 (w' := (kX8 cs a (.ref (nn 0)) M_16)) (st1 := [.int r15]) [] hx hb hml hown hu (tX8_comes l D cs a nn M r15 M_16 hg17) q1081 q62 q1078 q1080 q34 pdX8_comes ⟨rfl, rfl, Nat.le_of_ble_eq_true rfl, Nat.le_of_ble_eq_true rfl⟩ hK hZ hP hD hS hA rfl rfl rfl rfl hl.1 rfl (Nat.le_of_ble_eq_true rfl) dX8_share_42 rfl (fun H locs hP hD hS => ?_)
      refine lv_istore (lv' := [(5, .int r15), (0, .ref (a 0)), (1, .int y1), (2, .int y2), (3, .int y3), (4, .int y4)]) hx hb dX8_share_45 hl (by decide) rfl (fun ls hl => ?_)
      refine lv_iload_n hx hb dX8_share_47 rfl (lv_at hl 4 rfl) ?_
      refine lv_iload hx hb dX8_share_48 (lv_at hl 0 rfl) ?_
      refine lv_if_lt (tgt := 68) hx hb dX8_share_50 (by decide) (fun hc18 => ?_) (fun hc18 => ?_)
      · have hf := ip_el hc18 hf
        refine lv_iconst (v := 0) hx hb dX8_share_68 (by decide) ?_
        refine lv_iadd hx hb dX8_share_69 ?_
        obtain ⟨v19, hv19, hf⟩ := lt_el hf
        refine lv_tope hv19 ?_
        refine lv_istore_n (lv' := [(3, .int v19), (5, .int r15), (0, .ref (a 0)), (1, .int y1), (2, .int y2), (4, .int y4)]) hx hb dX8_share_70 rfl hl (by decide) rfl (fun ls hl => ?_)
        obtain ⟨v20, hv20, hf⟩ := lt_el hf
        refine lv_iinc (v := v20) (lv' := [(4, .int v20), (3, .int v19), (5, .int r15), (0, .ref (a 0)), (1, .int y1), (2, .int y2)]) hx hb dX8_share_71 hl (k := 5) rfl (by rw [hv20]; rfl) (by decide) rfl (fun ls hl => ?_)
        refine lv_goto (tgt := 35) hx hb dX8_share_74 (by decide) ?_
        exact hk35 y1 y2 v19 v20 M_16 _ _ _ hP hD hS (lv_sub hl [3, 4, 5, 1, 0] rfl) hf
      · have hf := in_el hc18 hf
        refine lv_aload_n hx hb dX8_share_53 rfl (lv_at hl 1 rfl) ?_
        refine lv_iload hx hb dX8_share_54 (lv_at hl 0 rfl) ?_
        refine lv_iconst (v := 2) hx hb dX8_share_56 (by decide) ?_
        obtain ⟨r21, hg22, hf⟩ := b1_el hf
        refine cc_V1 (w' := (kX8 cs a (.ref (nn 0)) M_16)) (st1 := [.int r21, .int y3]) [.int r15, .int 2] hx hb hml hown hu (tX8_has0 l D cs a nn r15 2 M_16 r21 hg22) q1026 q62 q1023 q1025 q21 pdX8_has0 ⟨rfl, rfl, Nat.le_of_ble_eq_true rfl, Nat.le_of_ble_eq_true rfl⟩ hK hZ hP hD hS hA rfl rfl rfl rfl hl.1 rfl (Nat.le_of_ble_eq_true rfl) dX8_share_57 rfl (fun H locs hP hD hS => ?_)
        refine lv_iload_n hx hb dX8_share_60 rfl (lv_at hl 2 rfl) ?_
        refine lv_icmp_ne (tgt := 68) hx hb dX8_share_61 (by decide) (fun hc23 => ?_) (fun hc23 => ?_)
        · have hf := in_el hc23 hf
          refine lv_iconst (v := 0) hx hb dX8_share_68 (by decide) ?_
          refine lv_iadd hx hb dX8_share_69 ?_
          obtain ⟨v24, hv24, hf⟩ := lt_el hf
          refine lv_tope hv24 ?_
          refine lv_istore_n (lv' := [(3, .int v24), (5, .int r15), (0, .ref (a 0)), (1, .int y1), (2, .int y2), (4, .int y4)]) hx hb dX8_share_70 rfl hl (by decide) rfl (fun ls hl => ?_)
          obtain ⟨v25, hv25, hf⟩ := lt_el hf
          refine lv_iinc (v := v25) (lv' := [(4, .int v25), (3, .int v24), (5, .int r15), (0, .ref (a 0)), (1, .int y1), (2, .int y2)]) hx hb dX8_share_71 hl (k := 5) rfl (by rw [hv25]; rfl) (by decide) rfl (fun ls hl => ?_)
          refine lv_goto (tgt := 35) hx hb dX8_share_74 (by decide) ?_
          exact hk35 y1 y2 v24 v25 M_16 _ _ _ hP hD hS (lv_sub hl [3, 4, 5, 1, 0] rfl) hf
        · have hf := ip_el hc23 hf
          refine lv_iconst (v := 1) hx hb dX8_share_64 (by decide) ?_
          refine lv_goto (tgt := 69) hx hb dX8_share_65 (by decide) ?_
          refine lv_iadd hx hb dX8_share_69 ?_
          obtain ⟨v26, hv26, hf⟩ := lt_el hf
          refine lv_tope hv26 ?_
          refine lv_istore_n (lv' := [(3, .int v26), (5, .int r15), (0, .ref (a 0)), (1, .int y1), (2, .int y2), (4, .int y4)]) hx hb dX8_share_70 rfl hl (by decide) rfl (fun ls hl => ?_)
          obtain ⟨v27, hv27, hf⟩ := lt_el hf
          refine lv_iinc (v := v27) (lv' := [(4, .int v27), (3, .int v26), (5, .int r15), (0, .ref (a 0)), (1, .int y1), (2, .int y2)]) hx hb dX8_share_71 hl (k := 5) rfl (by rw [hv27]; rfl) (by decide) rfl (fun ls hl => ?_)
          refine lv_goto (tgt := 35) hx hb dX8_share_74 (by decide) ?_
          exact hk35 y1 y2 v26 v27 M_16 _ _ _ hP hD hS (lv_sub hl [3, 4, 5, 1, 0] rfl) hf
  have h35 : ∀ (n : Nat), ∀ (y1 : Int32) (y2 : Int32) (y3 : Int32) (y4 : Int32) (M : ST) (H : Heap) (locs : List Loc) (ls : Array Slot), va_P D vwCl (kX8 cs a (.ref (nn 0)) M) H → va_D A (kX8 cs a (.ref (nn 0)) M) → va_S A s.heap H locs → lv_has ls 6 [(0, .ref (a 0)), (1, .int y1), (2, .int y2), (3, .int y3), (4, .int y4)] → fX8_share_35 n y1 y2 y3 y4 M = some (r0, Mz) → W p l e rmX8_share s m [.ref (a 0), .int x1, .int x2].toArray below meth c H locs 0 0 Q (F0 m 35 ls []) := by
    intro n
    induction n with
    | zero => intro y1 y2 y3 y4 M H locs ls hP hD hS hl hf; exact no_el hf
    | succ n ih => intro y1 y2 y3 y4 M H locs ls hP hD hS hl hf; exact hs35 _ ih y1 y2 y3 y4 M _ _ _ hP hD hS hl hf
  have hl : lv_has ls0 6 [(0, .ref (a 0)), (1, .int x1), (2, .int x2)] := hl0
  have hP := hP0
  have hD := hD0
  have hS := hS0
  unfold fX8_share at hf
  refine lv_iload_n hx hb dX8_share_0 rfl (lv_at hl 1 rfl) ?_
  refine lv_i2l (v := (x1.toInt64)) hx hb dX8_share_1 rfl ?_
  refine lv_lconst (v := 0) hx hb dX8_share_2 (by decide) ?_
  refine lv_ldc2 (v := 3) hx hb hown (hu _ q1007) dX8_share_3 ?_
  obtain ⟨r1, hg2, hf⟩ := b1_el hf
  refine cc_S0 (st1 := [.int r1]) [.long (x1.toInt64), .long 0, .long 3] hx hb hml hown hu (tX8_isIn l D cs (x1.toInt64) 0 3 r1 hg2) q1004 q62 q1002 q1003 pdX8_isIn ⟨rfl, rfl, Nat.le_of_ble_eq_true rfl, Nat.le_of_ble_eq_true rfl⟩ hK hZ hP hD hS hA rfl hl.1 rfl (Nat.le_of_ble_eq_true rfl) dX8_share_6 rfl (fun H locs hP hD hS => ?_)
  refine lv_if_eq (tgt := 19) hx hb dX8_share_9 (by decide) (fun hc3 => ?_) (fun hc3 => ?_)
  · have hf := ip_el hc3 hf
    exact h19 M _ _ _ hP hD hS (lv_sub hl [0] rfl) hf
  · have hf := in_el hc3 hf
    refine lv_iload_n hx hb dX8_share_12 rfl (lv_at hl 2 rfl) ?_
    obtain ⟨r7, hg8, hf⟩ := b1_el hf
    refine cc_S0 (st1 := [.int r7]) [.int x2] hx hb hml hown hu (tX8_isChairs l D cs x2 r7 hg8) q1173 q62 q1171 q1172 pdX8_isChairs ⟨rfl, rfl, Nat.le_of_ble_eq_true rfl, Nat.le_of_ble_eq_true rfl⟩ hK hZ hP hD hS hA rfl hl.1 rfl (Nat.le_of_ble_eq_true rfl) dX8_share_13 rfl (fun H locs hP hD hS => ?_)
    refine lv_if_ne (tgt := 26) hx hb dX8_share_16 (by decide) (fun hc9 => ?_) (fun hc9 => ?_)
    · have hf := in_el hc9 hf
      refine lv_aload_n hx hb dX8_share_26 rfl (lv_at hl 0 rfl) ?_
      obtain ⟨M_10, hg11, hf⟩ := b1_el hf
      refine cc_V1 (w' := (kX8 cs a (.ref (nn 0)) M_10)) (st1 := []) [] hx hb hml hown hu (tX8_laysBy l D cs a nn M M_10 hg11) q1178 q62 q1175 q1177 q39 pdX8_laysBy ⟨rfl, rfl, Nat.le_of_ble_eq_true rfl, Nat.le_of_ble_eq_true rfl⟩ hK hZ hP hD hS hA rfl rfl rfl rfl hl.1 rfl (Nat.le_of_ble_eq_true rfl) dX8_share_27 rfl (fun H locs hP hD hS => ?_)
      refine lv_iconst (v := 0) hx hb dX8_share_30 (by decide) ?_
      refine lv_istore_n (lv' := [(3, .int 0), (0, .ref (a 0)), (1, .int x1), (2, .int x2)]) hx hb dX8_share_31 rfl hl (by decide) rfl (fun ls hl => ?_)
      refine lv_iconst (v := 0) hx hb dX8_share_32 (by decide) ?_
      refine lv_istore (lv' := [(4, .int 0), (3, .int 0), (0, .ref (a 0)), (1, .int x1), (2, .int x2)]) hx hb dX8_share_33 hl (by decide) rfl (fun ls hl => ?_)
      exact h35 400 x1 x2 0 0 M_10 _ _ _ hP hD hS (lv_sub hl [2, 3, 4, 1, 0] rfl) hf
    · have hf := ip_el hc9 hf
      exact h19 M _ _ _ hP hD hS (lv_sub hl [0] rfl) hf

def fX8_hasIn_5_s (k5 : Int32 → Int32 → Int32 → Int32 → ST → Option (Int32 × ST)) (y1 : Int32) (y2 : Int32) (y3 : Int32) (y4 : Int32) (M : ST) : Option (Int32 × ST) :=
  (if y2 ≤ y4 then some (y3, M) else dc_b2 (fX8_comes M) (fun r2 M_3 => (if 0 ≤ r2 then dc_b1 (fX8_has0 r2 2 M_3) (fun r6 => dc_b1 (fX8_worthOf r6 y1 M_3) (fun r8 => dc_lt (y3 + r8) (fun v10 => dc_lt (y4 + 1) (fun v11 => k5 y1 y2 v10 v11 M_3)))) else dc_lt (y3 + 0) (fun v12 => dc_lt (y4 + 1) (fun v13 => k5 y1 y2 v12 v13 M_3)))))
def fX8_hasIn_5 : Nat → Int32 → Int32 → Int32 → Int32 → ST → Option (Int32 × ST)
  | 0 => fun _ _ _ _ _ => none
  | n + 1 => fX8_hasIn_5_s (fX8_hasIn_5 n)
def fX8_hasIn (x1 : Int32) (x2 : Int32) (M : ST) : Option (Int32 × ST) :=
  fX8_hasIn_5 400 x1 x2 0 0 M
abbrev rmX8_hasIn : Room := { frames := 12, cells := 0, slots := 0, locals := 292 }
set_option maxRecDepth 100000 in
set_option maxHeartbeats 4000000 in
theorem tX8_hasIn (l : Launch) (D : va_G) (cs : Nat → ClassId) (a : Nat → Nat) (nn : Nat → Nat) (x1 : Int32) (x2 : Int32) (M : ST) (r0 : Int32) (Mz : ST) (hf : fX8_hasIn x1 x2 M = some (r0, Mz)) : CG l yX8_hasIn (wsm yX8_hasIn cX8_hasIn 6 (some .int)) rmX8_hasIn D cs [.ref (a 0), .int x1, .int x2] (some (.int r0)) (kX8 cs a (.ref (nn 0)) M) (kX8 cs a (.ref (nn 0)) Mz) := by
  refine CG.intro (by decide) (Nat.le_of_ble_eq_true rfl) ?_
  intro p e s m below meth c A Q hx hb hml hown hu hK hZ hP0 hD0 hS0 hA hri hrz hrl hrv hra ls0 hl0
  have hs5 : ∀ (k5 : Int32 → Int32 → Int32 → Int32 → ST → Option (Int32 × ST)), (∀ (y1 : Int32) (y2 : Int32) (y3 : Int32) (y4 : Int32) (M : ST) (H : Heap) (locs : List Loc) (ls : Array Slot), va_P D vwCl (kX8 cs a (.ref (nn 0)) M) H → va_D A (kX8 cs a (.ref (nn 0)) M) → va_S A s.heap H locs → lv_has ls 6 [(0, .ref (a 0)), (1, .int y1), (2, .int y2), (3, .int y3), (4, .int y4)] → k5 y1 y2 y3 y4 M = some (r0, Mz) → W p l e rmX8_hasIn s m [.ref (a 0), .int x1, .int x2].toArray below meth c H locs 0 0 Q (F0 m 5 ls [])) → ∀ (y1 : Int32) (y2 : Int32) (y3 : Int32) (y4 : Int32) (M : ST) (H : Heap) (locs : List Loc) (ls : Array Slot), va_P D vwCl (kX8 cs a (.ref (nn 0)) M) H → va_D A (kX8 cs a (.ref (nn 0)) M) → va_S A s.heap H locs → lv_has ls 6 [(0, .ref (a 0)), (1, .int y1), (2, .int y2), (3, .int y3), (4, .int y4)] → fX8_hasIn_5_s k5 y1 y2 y3 y4 M = some (r0, Mz) → W p l e rmX8_hasIn s m [.ref (a 0), .int x1, .int x2].toArray below meth c H locs 0 0 Q (F0 m 5 ls []) := by
    intro k5 hk5 y1 y2 y3 y4 M H locs ls hP hD hS hl hf
    unfold fX8_hasIn_5_s at hf
    refine lv_iload hx hb dX8_hasIn_5 (lv_at hl 4 rfl) ?_
    refine lv_iload_n hx hb dX8_hasIn_7 rfl (lv_at hl 2 rfl) ?_
    refine lv_icmp_ge (tgt := 47) hx hb dX8_hasIn_8 (by decide) (fun hc1 => ?_) (fun hc1 => ?_)
    · have hf := ip_el hc1 hf
      refine lv_iload_n hx hb dX8_hasIn_47 rfl (lv_at hl 3 rfl) ?_
      have he := Option.some.inj hf
      obtain ⟨e0, e1⟩ := Prod.mk.inj he
      exact hri _ _ _ rfl (congrArg (fun z => some (Value.int z)) e0.symm) dX8_hasIn_48 _ _ _ (by rw [e1]) hP hD hS
    · have hf := in_el hc1 hf
      refine lv_aload_n hx hb dX8_hasIn_11 rfl (lv_at hl 0 rfl) ?_
      obtain ⟨r2, M_3, hg4, hf⟩ := b2_el hf
      refine cc_V1 (w' := (kX8 cs a (.ref (nn 0)) M_3)) (st1 := [.int r2]) [] hx hb hml hown hu (tX8_comes l D cs a nn M r2 M_3 hg4) q1081 q62 q1078 q1080 q34 pdX8_comes ⟨rfl, rfl, Nat.le_of_ble_eq_true rfl, Nat.le_of_ble_eq_true rfl⟩ hK hZ hP hD hS hA rfl rfl rfl rfl hl.1 rfl (Nat.le_of_ble_eq_true rfl) dX8_hasIn_12 rfl (fun H locs hP hD hS => ?_)
      refine lv_istore (lv' := [(5, .int r2), (0, .ref (a 0)), (1, .int y1), (2, .int y2), (3, .int y3), (4, .int y4)]) hx hb dX8_hasIn_15 hl (by decide) rfl (fun ls hl => ?_)
      refine lv_iload_n hx hb dX8_hasIn_17 rfl (lv_at hl 4 rfl) ?_
      refine lv_iload hx hb dX8_hasIn_18 (lv_at hl 0 rfl) ?_
      refine lv_if_ge (tgt := 27) hx hb dX8_hasIn_20 (by decide) (fun hc5 => ?_) (fun hc5 => ?_)
      · have hf := ip_el hc5 hf
        refine lv_aload_n hx hb dX8_hasIn_27 rfl (lv_at hl 1 rfl) ?_
        refine lv_aload_n hx hb dX8_hasIn_28 rfl (lv_at hl 1 rfl) ?_
        refine lv_iload hx hb dX8_hasIn_29 (lv_at hl 0 rfl) ?_
        refine lv_iconst (v := 2) hx hb dX8_hasIn_31 (by decide) ?_
        obtain ⟨r6, hg7, hf⟩ := b1_el hf
        refine cc_V1 (w' := (kX8 cs a (.ref (nn 0)) M_3)) (st1 := [.int r6, .ref (a 0), .int y3]) [.int r2, .int 2] hx hb hml hown hu (tX8_has0 l D cs a nn r2 2 M_3 r6 hg7) q1026 q62 q1023 q1025 q21 pdX8_has0 ⟨rfl, rfl, Nat.le_of_ble_eq_true rfl, Nat.le_of_ble_eq_true rfl⟩ hK hZ hP hD hS hA rfl rfl rfl rfl hl.1 rfl (Nat.le_of_ble_eq_true rfl) dX8_hasIn_32 rfl (fun H locs hP hD hS => ?_)
        refine lv_iload_n hx hb dX8_hasIn_35 rfl (lv_at hl 2 rfl) ?_
        obtain ⟨r8, hg9, hf⟩ := b1_el hf
        refine cc_V1 (w' := (kX8 cs a (.ref (nn 0)) M_3)) (st1 := [.int r8, .int y3]) [.int r6, .int y1] hx hb hml hown hu (tX8_worthOf l D cs a nn r6 y1 M_3 r8 hg9) q1073 q62 q1070 q1072 q32 pdX8_worthOf ⟨rfl, rfl, Nat.le_of_ble_eq_true rfl, Nat.le_of_ble_eq_true rfl⟩ hK hZ hP hD hS hA rfl rfl rfl rfl hl.1 rfl (Nat.le_of_ble_eq_true rfl) dX8_hasIn_36 rfl (fun H locs hP hD hS => ?_)
        refine lv_iadd hx hb dX8_hasIn_39 ?_
        obtain ⟨v10, hv10, hf⟩ := lt_el hf
        refine lv_tope hv10 ?_
        refine lv_istore_n (lv' := [(3, .int v10), (5, .int r2), (0, .ref (a 0)), (1, .int y1), (2, .int y2), (4, .int y4)]) hx hb dX8_hasIn_40 rfl hl (by decide) rfl (fun ls hl => ?_)
        obtain ⟨v11, hv11, hf⟩ := lt_el hf
        refine lv_iinc (v := v11) (lv' := [(4, .int v11), (3, .int v10), (5, .int r2), (0, .ref (a 0)), (1, .int y1), (2, .int y2)]) hx hb dX8_hasIn_41 hl (k := 5) rfl (by rw [hv11]; rfl) (by decide) rfl (fun ls hl => ?_)
        refine lv_goto (tgt := 5) hx hb dX8_hasIn_44 (by decide) ?_
        exact hk5 y1 y2 v10 v11 M_3 _ _ _ hP hD hS (lv_sub hl [3, 4, 5, 1, 0] rfl) hf
      · have hf := in_el hc5 hf
        refine lv_iconst (v := 0) hx hb dX8_hasIn_23 (by decide) ?_
        refine lv_goto (tgt := 39) hx hb dX8_hasIn_24 (by decide) ?_
        refine lv_iadd hx hb dX8_hasIn_39 ?_
        obtain ⟨v12, hv12, hf⟩ := lt_el hf
        refine lv_tope hv12 ?_
        refine lv_istore_n (lv' := [(3, .int v12), (5, .int r2), (0, .ref (a 0)), (1, .int y1), (2, .int y2), (4, .int y4)]) hx hb dX8_hasIn_40 rfl hl (by decide) rfl (fun ls hl => ?_)
        obtain ⟨v13, hv13, hf⟩ := lt_el hf
        refine lv_iinc (v := v13) (lv' := [(4, .int v13), (3, .int v12), (5, .int r2), (0, .ref (a 0)), (1, .int y1), (2, .int y2)]) hx hb dX8_hasIn_41 hl (k := 5) rfl (by rw [hv13]; rfl) (by decide) rfl (fun ls hl => ?_)
        refine lv_goto (tgt := 5) hx hb dX8_hasIn_44 (by decide) ?_
        exact hk5 y1 y2 v12 v13 M_3 _ _ _ hP hD hS (lv_sub hl [3, 4, 5, 1, 0] rfl) hf
  have h5 : ∀ (n : Nat), ∀ (y1 : Int32) (y2 : Int32) (y3 : Int32) (y4 : Int32) (M : ST) (H : Heap) (locs : List Loc) (ls : Array Slot), va_P D vwCl (kX8 cs a (.ref (nn 0)) M) H → va_D A (kX8 cs a (.ref (nn 0)) M) → va_S A s.heap H locs → lv_has ls 6 [(0, .ref (a 0)), (1, .int y1), (2, .int y2), (3, .int y3), (4, .int y4)] → fX8_hasIn_5 n y1 y2 y3 y4 M = some (r0, Mz) → W p l e rmX8_hasIn s m [.ref (a 0), .int x1, .int x2].toArray below meth c H locs 0 0 Q (F0 m 5 ls []) := by
    intro n
    induction n with
    | zero => intro y1 y2 y3 y4 M H locs ls hP hD hS hl hf; exact no_el hf
    | succ n ih => intro y1 y2 y3 y4 M H locs ls hP hD hS hl hf; exact hs5 _ ih y1 y2 y3 y4 M _ _ _ hP hD hS hl hf
  have hl : lv_has ls0 6 [(0, .ref (a 0)), (1, .int x1), (2, .int x2)] := hl0
  have hP := hP0
  have hD := hD0
  have hS := hS0
  unfold fX8_hasIn at hf
  refine lv_iconst (v := 0) hx hb dX8_hasIn_0 (by decide) ?_
  refine lv_istore_n (lv' := [(3, .int 0), (0, .ref (a 0)), (1, .int x1), (2, .int x2)]) hx hb dX8_hasIn_1 rfl hl (by decide) rfl (fun ls hl => ?_)
  refine lv_iconst (v := 0) hx hb dX8_hasIn_2 (by decide) ?_
  refine lv_istore (lv' := [(4, .int 0), (3, .int 0), (0, .ref (a 0)), (1, .int x1), (2, .int x2)]) hx hb dX8_hasIn_3 hl (by decide) rfl (fun ls hl => ?_)
  exact h5 400 x1 x2 0 0 M _ _ _ hP hD hS (lv_sub hl [2, 3, 4, 1, 0] rfl) hf

def fX8_has_19 (M : ST) : Option (Int32 × ST) :=
  dc_b2 (fX8_finds (-1000000001) M) (fun r4 M_5 => some (r4, M_5))
def fX8_has (x1 : Int32) (x2 : Int32) (M : ST) : Option (Int32 × ST) :=
  dc_b1 (fX8_isIn (x1.toInt64) 0 3) (fun r1 => (if r1 = 0 then fX8_has_19 M else dc_b1 (fX8_isChairs x2) (fun r7 => (if r7 = 0 then fX8_has_19 M else dc_b1 (fX8_laysBy M) (fun M_10 => dc_b2 (fX8_hasIn x1 x2 M_10) (fun r12 M_13 => dc_b1 (fX8_laysBack M_13) (fun M_15 => some (r12, M_15))))))))
abbrev rmX8_has : Room := { frames := 13, cells := 0, slots := 0, locals := 317 }
set_option maxRecDepth 100000 in
set_option maxHeartbeats 4000000 in
theorem tX8_has (l : Launch) (D : va_G) (cs : Nat → ClassId) (a : Nat → Nat) (nn : Nat → Nat) (x1 : Int32) (x2 : Int32) (M : ST) (r0 : Int32) (Mz : ST) (hf : fX8_has x1 x2 M = some (r0, Mz)) : CG l yX8_has (wsm yX8_has cX8_has 4 (some .int)) rmX8_has D cs [.ref (a 0), .int x1, .int x2] (some (.int r0)) (kX8 cs a (.ref (nn 0)) M) (kX8 cs a (.ref (nn 0)) Mz) := by
  refine CG.intro (by decide) (Nat.le_of_ble_eq_true rfl) ?_
  intro p e s m below meth c A Q hx hb hml hown hu hK hZ hP0 hD0 hS0 hA hri hrz hrl hrv hra ls0 hl0
  have h19 : ∀ (M : ST) (H : Heap) (locs : List Loc) (ls : Array Slot), va_P D vwCl (kX8 cs a (.ref (nn 0)) M) H → va_D A (kX8 cs a (.ref (nn 0)) M) → va_S A s.heap H locs → lv_has ls 4 [(0, .ref (a 0))] → fX8_has_19 M = some (r0, Mz) → W p l e rmX8_has s m [.ref (a 0), .int x1, .int x2].toArray below meth c H locs 0 0 Q (F0 m 19 ls []) := by
    intro M H locs ls hP hD hS hl hf
    unfold fX8_has_19 at hf
    refine lv_aload_n hx hb dX8_has_19 rfl (lv_at hl 0 rfl) ?_
    refine lv_ldc (v := (-1000000001)) hx hb hown (hu _ q1008) dX8_has_20 ?_
    obtain ⟨r4, M_5, hg6, hf⟩ := b2_el hf
    refine cc_V1 (w' := (kX8 cs a (.ref (nn 0)) M_5)) (st1 := [.int r4]) [.int (-1000000001)] hx hb hml hown hu (tX8_finds l D cs a nn (-1000000001) M r4 M_5 hg6) q1012 q62 q1009 q1011 q19 pdX8_finds ⟨rfl, rfl, Nat.le_of_ble_eq_true rfl, Nat.le_of_ble_eq_true rfl⟩ hK hZ hP hD hS hA rfl rfl rfl rfl hl.1 rfl (Nat.le_of_ble_eq_true rfl) dX8_has_22 rfl (fun H locs hP hD hS => ?_)
    have he := Option.some.inj hf
    obtain ⟨e0, e1⟩ := Prod.mk.inj he
    exact hri _ _ _ rfl (congrArg (fun z => some (Value.int z)) e0.symm) dX8_has_25 _ _ _ (by rw [e1]) hP hD hS
  have hl : lv_has ls0 4 [(0, .ref (a 0)), (1, .int x1), (2, .int x2)] := hl0
  have hP := hP0
  have hD := hD0
  have hS := hS0
  unfold fX8_has at hf
  refine lv_iload_n hx hb dX8_has_0 rfl (lv_at hl 1 rfl) ?_
  refine lv_i2l (v := (x1.toInt64)) hx hb dX8_has_1 rfl ?_
  refine lv_lconst (v := 0) hx hb dX8_has_2 (by decide) ?_
  refine lv_ldc2 (v := 3) hx hb hown (hu _ q1007) dX8_has_3 ?_
  obtain ⟨r1, hg2, hf⟩ := b1_el hf
  refine cc_S0 (st1 := [.int r1]) [.long (x1.toInt64), .long 0, .long 3] hx hb hml hown hu (tX8_isIn l D cs (x1.toInt64) 0 3 r1 hg2) q1004 q62 q1002 q1003 pdX8_isIn ⟨rfl, rfl, Nat.le_of_ble_eq_true rfl, Nat.le_of_ble_eq_true rfl⟩ hK hZ hP hD hS hA rfl hl.1 rfl (Nat.le_of_ble_eq_true rfl) dX8_has_6 rfl (fun H locs hP hD hS => ?_)
  refine lv_if_eq (tgt := 19) hx hb dX8_has_9 (by decide) (fun hc3 => ?_) (fun hc3 => ?_)
  · have hf := ip_el hc3 hf
    exact h19 M _ _ _ hP hD hS (lv_sub hl [0] rfl) hf
  · have hf := in_el hc3 hf
    refine lv_iload_n hx hb dX8_has_12 rfl (lv_at hl 2 rfl) ?_
    obtain ⟨r7, hg8, hf⟩ := b1_el hf
    refine cc_S0 (st1 := [.int r7]) [.int x2] hx hb hml hown hu (tX8_isChairs l D cs x2 r7 hg8) q1173 q62 q1171 q1172 pdX8_isChairs ⟨rfl, rfl, Nat.le_of_ble_eq_true rfl, Nat.le_of_ble_eq_true rfl⟩ hK hZ hP hD hS hA rfl hl.1 rfl (Nat.le_of_ble_eq_true rfl) dX8_has_13 rfl (fun H locs hP hD hS => ?_)
    refine lv_if_ne (tgt := 26) hx hb dX8_has_16 (by decide) (fun hc9 => ?_) (fun hc9 => ?_)
    · have hf := in_el hc9 hf
      refine lv_aload_n hx hb dX8_has_26 rfl (lv_at hl 0 rfl) ?_
      obtain ⟨M_10, hg11, hf⟩ := b1_el hf
      refine cc_V1 (w' := (kX8 cs a (.ref (nn 0)) M_10)) (st1 := []) [] hx hb hml hown hu (tX8_laysBy l D cs a nn M M_10 hg11) q1178 q62 q1175 q1177 q39 pdX8_laysBy ⟨rfl, rfl, Nat.le_of_ble_eq_true rfl, Nat.le_of_ble_eq_true rfl⟩ hK hZ hP hD hS hA rfl rfl rfl rfl hl.1 rfl (Nat.le_of_ble_eq_true rfl) dX8_has_27 rfl (fun H locs hP hD hS => ?_)
      refine lv_aload_n hx hb dX8_has_30 rfl (lv_at hl 0 rfl) ?_
      refine lv_iload_n hx hb dX8_has_31 rfl (lv_at hl 1 rfl) ?_
      refine lv_iload_n hx hb dX8_has_32 rfl (lv_at hl 2 rfl) ?_
      obtain ⟨r12, M_13, hg14, hf⟩ := b2_el hf
      refine cc_V1 (w' := (kX8 cs a (.ref (nn 0)) M_13)) (st1 := [.int r12]) [.int x1, .int x2] hx hb hml hown hu (tX8_hasIn l D cs a nn x1 x2 M_10 r12 M_13 hg14) q1211 q62 q1208 q1210 q43 pdX8_hasIn ⟨rfl, rfl, Nat.le_of_ble_eq_true rfl, Nat.le_of_ble_eq_true rfl⟩ hK hZ hP hD hS hA rfl rfl rfl rfl hl.1 rfl (Nat.le_of_ble_eq_true rfl) dX8_has_33 rfl (fun H locs hP hD hS => ?_)
      refine lv_istore_n (lv' := [(3, .int r12), (0, .ref (a 0)), (1, .int x1), (2, .int x2)]) hx hb dX8_has_36 rfl hl (by decide) rfl (fun ls hl => ?_)
      refine lv_aload_n hx hb dX8_has_37 rfl (lv_at hl 1 rfl) ?_
      obtain ⟨M_15, hg16, hf⟩ := b1_el hf
      refine cc_V1 (w' := (kX8 cs a (.ref (nn 0)) M_15)) (st1 := []) [] hx hb hml hown hu (tX8_laysBack l D cs a nn M_13 M_15 hg16) q1182 q62 q1179 q1181 q40 pdX8_laysBack ⟨rfl, rfl, Nat.le_of_ble_eq_true rfl, Nat.le_of_ble_eq_true rfl⟩ hK hZ hP hD hS hA rfl rfl rfl rfl hl.1 rfl (Nat.le_of_ble_eq_true rfl) dX8_has_38 rfl (fun H locs hP hD hS => ?_)
      refine lv_iload_n hx hb dX8_has_41 rfl (lv_at hl 0 rfl) ?_
      have he := Option.some.inj hf
      obtain ⟨e0, e1⟩ := Prod.mk.inj he
      exact hri _ _ _ rfl (congrArg (fun z => some (Value.int z)) e0.symm) dX8_has_42 _ _ _ (by rw [e1]) hP hD hS
    · have hf := ip_el hc9 hf
      exact h19 M _ _ _ hP hD hS (lv_sub hl [0] rfl) hf

def fX8_but_31 (M : ST) : Option (Int32 × ST) :=
  dc_b2 (fX8_finds (-1000000001) M) (fun r4 M_5 => some (r4, M_5))
def fX8_but (x1 : Int32) (x2 : Int32) (x3 : Int32) (M : ST) : Option (Int32 × ST) :=
  dc_b1 (fX8_isIn (x1.toInt64) 1 4) (fun r1 => (if r1 = 0 then fX8_but_31 M else dc_b1 (fX8_isIn (x2.toInt64) 0 3) (fun r7 => (if r7 = 0 then fX8_but_31 M else dc_b1 (fX8_isChairs x3) (fun r10 => (if r10 = 0 then fX8_but_31 M else dc_b1 (fX8_laysBy M) (fun M_13 => dc_lt (sti M_13 1 4 x1) (fun M_15 => dc_b1 (fX8_cutsLine M_15) (fun M_16 => dc_b2 (fX8_hasIn x2 x3 M_16) (fun r18 M_19 => dc_b1 (fX8_laysBack M_19) (fun M_21 => some (r18, M_21))))))))))))
abbrev rmX8_but : Room := { frames := 13, cells := 0, slots := 0, locals := 317 }
set_option maxRecDepth 100000 in
set_option maxHeartbeats 4000000 in
theorem tX8_but (l : Launch) (D : va_G) (cs : Nat → ClassId) (a : Nat → Nat) (nn : Nat → Nat) (x1 : Int32) (x2 : Int32) (x3 : Int32) (M : ST) (r0 : Int32) (Mz : ST) (hf : fX8_but x1 x2 x3 M = some (r0, Mz)) : CG l yX8_but (wsm yX8_but cX8_but 5 (some .int)) rmX8_but D cs [.ref (a 0), .int x1, .int x2, .int x3] (some (.int r0)) (kX8 cs a (.ref (nn 0)) M) (kX8 cs a (.ref (nn 0)) Mz) := by
  refine CG.intro (by decide) (Nat.le_of_ble_eq_true rfl) ?_
  intro p e s m below meth c A Q hx hb hml hown hu hK hZ hP0 hD0 hS0 hA hri hrz hrl hrv hra ls0 hl0
  have h31 : ∀ (M : ST) (H : Heap) (locs : List Loc) (ls : Array Slot), va_P D vwCl (kX8 cs a (.ref (nn 0)) M) H → va_D A (kX8 cs a (.ref (nn 0)) M) → va_S A s.heap H locs → lv_has ls 5 [(0, .ref (a 0))] → fX8_but_31 M = some (r0, Mz) → W p l e rmX8_but s m [.ref (a 0), .int x1, .int x2, .int x3].toArray below meth c H locs 0 0 Q (F0 m 31 ls []) := by
    intro M H locs ls hP hD hS hl hf
    unfold fX8_but_31 at hf
    refine lv_aload_n hx hb dX8_but_31 rfl (lv_at hl 0 rfl) ?_
    refine lv_ldc (v := (-1000000001)) hx hb hown (hu _ q1008) dX8_but_32 ?_
    obtain ⟨r4, M_5, hg6, hf⟩ := b2_el hf
    refine cc_V1 (w' := (kX8 cs a (.ref (nn 0)) M_5)) (st1 := [.int r4]) [.int (-1000000001)] hx hb hml hown hu (tX8_finds l D cs a nn (-1000000001) M r4 M_5 hg6) q1012 q62 q1009 q1011 q19 pdX8_finds ⟨rfl, rfl, Nat.le_of_ble_eq_true rfl, Nat.le_of_ble_eq_true rfl⟩ hK hZ hP hD hS hA rfl rfl rfl rfl hl.1 rfl (Nat.le_of_ble_eq_true rfl) dX8_but_34 rfl (fun H locs hP hD hS => ?_)
    have he := Option.some.inj hf
    obtain ⟨e0, e1⟩ := Prod.mk.inj he
    exact hri _ _ _ rfl (congrArg (fun z => some (Value.int z)) e0.symm) dX8_but_37 _ _ _ (by rw [e1]) hP hD hS
  have hl : lv_has ls0 5 [(0, .ref (a 0)), (1, .int x1), (2, .int x2), (3, .int x3)] := hl0
  have hP := hP0
  have hD := hD0
  have hS := hS0
  unfold fX8_but at hf
  refine lv_iload_n hx hb dX8_but_0 rfl (lv_at hl 1 rfl) ?_
  refine lv_i2l (v := (x1.toInt64)) hx hb dX8_but_1 rfl ?_
  refine lv_lconst (v := 1) hx hb dX8_but_2 (by decide) ?_
  refine lv_ldc2 (v := 4) hx hb hown (hu _ q1117) dX8_but_3 ?_
  obtain ⟨r1, hg2, hf⟩ := b1_el hf
  refine cc_S0 (st1 := [.int r1]) [.long (x1.toInt64), .long 1, .long 4] hx hb hml hown hu (tX8_isIn l D cs (x1.toInt64) 1 4 r1 hg2) q1004 q62 q1002 q1003 pdX8_isIn ⟨rfl, rfl, Nat.le_of_ble_eq_true rfl, Nat.le_of_ble_eq_true rfl⟩ hK hZ hP hD hS hA rfl hl.1 rfl (Nat.le_of_ble_eq_true rfl) dX8_but_6 rfl (fun H locs hP hD hS => ?_)
  refine lv_if_eq (tgt := 31) hx hb dX8_but_9 (by decide) (fun hc3 => ?_) (fun hc3 => ?_)
  · have hf := ip_el hc3 hf
    exact h31 M _ _ _ hP hD hS (lv_sub hl [0] rfl) hf
  · have hf := in_el hc3 hf
    refine lv_iload_n hx hb dX8_but_12 rfl (lv_at hl 2 rfl) ?_
    refine lv_i2l (v := (x2.toInt64)) hx hb dX8_but_13 rfl ?_
    refine lv_lconst (v := 0) hx hb dX8_but_14 (by decide) ?_
    refine lv_ldc2 (v := 3) hx hb hown (hu _ q1007) dX8_but_15 ?_
    obtain ⟨r7, hg8, hf⟩ := b1_el hf
    refine cc_S0 (st1 := [.int r7]) [.long (x2.toInt64), .long 0, .long 3] hx hb hml hown hu (tX8_isIn l D cs (x2.toInt64) 0 3 r7 hg8) q1004 q62 q1002 q1003 pdX8_isIn ⟨rfl, rfl, Nat.le_of_ble_eq_true rfl, Nat.le_of_ble_eq_true rfl⟩ hK hZ hP hD hS hA rfl hl.1 rfl (Nat.le_of_ble_eq_true rfl) dX8_but_18 rfl (fun H locs hP hD hS => ?_)
    refine lv_if_eq (tgt := 31) hx hb dX8_but_21 (by decide) (fun hc9 => ?_) (fun hc9 => ?_)
    · have hf := ip_el hc9 hf
      exact h31 M _ _ _ hP hD hS (lv_sub hl [0] rfl) hf
    · have hf := in_el hc9 hf
      refine lv_iload_n hx hb dX8_but_24 rfl (lv_at hl 3 rfl) ?_
      obtain ⟨r10, hg11, hf⟩ := b1_el hf
      refine cc_S0 (st1 := [.int r10]) [.int x3] hx hb hml hown hu (tX8_isChairs l D cs x3 r10 hg11) q1173 q62 q1171 q1172 pdX8_isChairs ⟨rfl, rfl, Nat.le_of_ble_eq_true rfl, Nat.le_of_ble_eq_true rfl⟩ hK hZ hP hD hS hA rfl hl.1 rfl (Nat.le_of_ble_eq_true rfl) dX8_but_25 rfl (fun H locs hP hD hS => ?_)
      refine lv_if_ne (tgt := 38) hx hb dX8_but_28 (by decide) (fun hc12 => ?_) (fun hc12 => ?_)
      · have hf := in_el hc12 hf
        refine lv_aload_n hx hb dX8_but_38 rfl (lv_at hl 0 rfl) ?_
        obtain ⟨M_13, hg14, hf⟩ := b1_el hf
        refine cc_V1 (w' := (kX8 cs a (.ref (nn 0)) M_13)) (st1 := []) [] hx hb hml hown hu (tX8_laysBy l D cs a nn M M_13 hg14) q1178 q62 q1175 q1177 q39 pdX8_laysBy ⟨rfl, rfl, Nat.le_of_ble_eq_true rfl, Nat.le_of_ble_eq_true rfl⟩ hK hZ hP hD hS hA rfl rfl rfl rfl hl.1 rfl (Nat.le_of_ble_eq_true rfl) dX8_but_39 rfl (fun H locs hP hD hS => ?_)
        refine lv_aload_n hx hb dX8_but_42 rfl (lv_at hl 0 rfl) ?_
        refine va_get (D := D) (ci := 8) (v := .ref (a 1)) (C := RX8) (T := TX8) (N := 26) hx hb hu inX8 hown hK.1 hP 0 rfl rfl 0 (by decide) (hu _ q917) (fun _ h9 => h9) rfl dX8_but_43 ?_
        refine lv_iconst (v := 4) hx hb dX8_but_46 (by decide) ?_
        refine lv_iload_n hx hb dX8_but_47 rfl (lv_at hl 1 rfl) ?_
        obtain ⟨M_15, hM_15, hf⟩ := lt_el hf
        refine is_lit hx hb hK hP hD hS 1 4 rfl (by decide) dX8_but_48 (fun H locs hP hD hS => ?_)
        have hP : va_P D vwCl (kX8 cs a (.ref (nn 0)) M_15) H := by rw [hM_15]; exact hP
        have hD : va_D A (kX8 cs a (.ref (nn 0)) M_15) := by rw [hM_15]; exact hD
        refine lv_aload_n hx hb dX8_but_49 rfl (lv_at hl 0 rfl) ?_
        obtain ⟨M_16, hg17, hf⟩ := b1_el hf
        refine cc_V1 (w' := (kX8 cs a (.ref (nn 0)) M_16)) (st1 := []) [] hx hb hml hown hu (tX8_cutsLine l D cs a nn M_15 M_16 hg17) q1123 q62 q1120 q1122 q36 pdX8_cutsLine ⟨rfl, rfl, Nat.le_of_ble_eq_true rfl, Nat.le_of_ble_eq_true rfl⟩ hK hZ hP hD hS hA rfl rfl rfl rfl hl.1 rfl (Nat.le_of_ble_eq_true rfl) dX8_but_50 rfl (fun H locs hP hD hS => ?_)
        refine lv_aload_n hx hb dX8_but_53 rfl (lv_at hl 0 rfl) ?_
        refine lv_iload_n hx hb dX8_but_54 rfl (lv_at hl 2 rfl) ?_
        refine lv_iload_n hx hb dX8_but_55 rfl (lv_at hl 3 rfl) ?_
        obtain ⟨r18, M_19, hg20, hf⟩ := b2_el hf
        refine cc_V1 (w' := (kX8 cs a (.ref (nn 0)) M_19)) (st1 := [.int r18]) [.int x2, .int x3] hx hb hml hown hu (tX8_hasIn l D cs a nn x2 x3 M_16 r18 M_19 hg20) q1211 q62 q1208 q1210 q43 pdX8_hasIn ⟨rfl, rfl, Nat.le_of_ble_eq_true rfl, Nat.le_of_ble_eq_true rfl⟩ hK hZ hP hD hS hA rfl rfl rfl rfl hl.1 rfl (Nat.le_of_ble_eq_true rfl) dX8_but_56 rfl (fun H locs hP hD hS => ?_)
        refine lv_istore (lv' := [(4, .int r18), (0, .ref (a 0)), (1, .int x1), (2, .int x2), (3, .int x3)]) hx hb dX8_but_59 hl (by decide) rfl (fun ls hl => ?_)
        refine lv_aload_n hx hb dX8_but_61 rfl (lv_at hl 1 rfl) ?_
        obtain ⟨M_21, hg22, hf⟩ := b1_el hf
        refine cc_V1 (w' := (kX8 cs a (.ref (nn 0)) M_21)) (st1 := []) [] hx hb hml hown hu (tX8_laysBack l D cs a nn M_19 M_21 hg22) q1182 q62 q1179 q1181 q40 pdX8_laysBack ⟨rfl, rfl, Nat.le_of_ble_eq_true rfl, Nat.le_of_ble_eq_true rfl⟩ hK hZ hP hD hS hA rfl rfl rfl rfl hl.1 rfl (Nat.le_of_ble_eq_true rfl) dX8_but_62 rfl (fun H locs hP hD hS => ?_)
        refine lv_iload hx hb dX8_but_65 (lv_at hl 0 rfl) ?_
        have he := Option.some.inj hf
        obtain ⟨e0, e1⟩ := Prod.mk.inj he
        exact hri _ _ _ rfl (congrArg (fun z => some (Value.int z)) e0.symm) dX8_but_67 _ _ _ (by rw [e1]) hP hD hS
      · have hf := ip_el hc12 hf
        exact h31 M _ _ _ hP hD hS (lv_sub hl [0] rfl) hf

def fX8_keptBy (x1 : Int32) (x2 : Int32) (x3 : Int32) (M : ST) : Option (Int32 × ST) :=
  dc_b1 (fX8_laysBy M) (fun M_1 => dc_b1 (fX8_has0 x1 2 M_1) (fun r3 => dc_b2 (fX8_hasIn r3 x3 M_1) (fun r5 M_6 => dc_b1 (fX8_laysBack M_6) (fun M_8 => dc_lt (sti M_8 0 9 x1) (fun M_10 => dc_lt (sti M_10 0 10 x2) (fun M_11 => dc_b1 (fX8_has0 x1 2 M_11) (fun r12 => dc_b2 (fX8_hasIn r12 x3 M_11) (fun r14 M_15 => dc_lt (sti M_15 0 9 (-1)) (fun M_17 => dc_lt (sti M_17 0 10 (-1)) (fun M_18 => dc_b1 (fX8_laysBack M_18) (fun M_19 => some ((r14 - r5), M_19))))))))))))
abbrev rmX8_keptBy : Room := { frames := 13, cells := 0, slots := 0, locals := 317 }
set_option maxRecDepth 100000 in
set_option maxHeartbeats 4000000 in
theorem tX8_keptBy (l : Launch) (D : va_G) (cs : Nat → ClassId) (a : Nat → Nat) (nn : Nat → Nat) (x1 : Int32) (x2 : Int32) (x3 : Int32) (M : ST) (r0 : Int32) (Mz : ST) (hf : fX8_keptBy x1 x2 x3 M = some (r0, Mz)) : CG l yX8_keptBy (wsm yX8_keptBy cX8_keptBy 6 (some .int)) rmX8_keptBy D cs [.ref (a 0), .int x1, .int x2, .int x3] (some (.int r0)) (kX8 cs a (.ref (nn 0)) M) (kX8 cs a (.ref (nn 0)) Mz) := by
  refine CG.intro (by decide) (Nat.le_of_ble_eq_true rfl) ?_
  intro p e s m below meth c A Q hx hb hml hown hu hK hZ hP0 hD0 hS0 hA hri hrz hrl hrv hra ls0 hl0
  have hl : lv_has ls0 6 [(0, .ref (a 0)), (1, .int x1), (2, .int x2), (3, .int x3)] := hl0
  have hP := hP0
  have hD := hD0
  have hS := hS0
  unfold fX8_keptBy at hf
  refine lv_aload_n hx hb dX8_keptBy_0 rfl (lv_at hl 0 rfl) ?_
  obtain ⟨M_1, hg2, hf⟩ := b1_el hf
  refine cc_V1 (w' := (kX8 cs a (.ref (nn 0)) M_1)) (st1 := []) [] hx hb hml hown hu (tX8_laysBy l D cs a nn M M_1 hg2) q1178 q62 q1175 q1177 q39 pdX8_laysBy ⟨rfl, rfl, Nat.le_of_ble_eq_true rfl, Nat.le_of_ble_eq_true rfl⟩ hK hZ hP hD hS hA rfl rfl rfl rfl hl.1 rfl (Nat.le_of_ble_eq_true rfl) dX8_keptBy_1 rfl (fun H locs hP hD hS => ?_)
  refine lv_aload_n hx hb dX8_keptBy_4 rfl (lv_at hl 0 rfl) ?_
  refine lv_aload_n hx hb dX8_keptBy_5 rfl (lv_at hl 0 rfl) ?_
  refine lv_iload_n hx hb dX8_keptBy_6 rfl (lv_at hl 1 rfl) ?_
  refine lv_iconst (v := 2) hx hb dX8_keptBy_7 (by decide) ?_
  obtain ⟨r3, hg4, hf⟩ := b1_el hf
  refine cc_V1 (w' := (kX8 cs a (.ref (nn 0)) M_1)) (st1 := [.int r3, .ref (a 0)]) [.int x1, .int 2] hx hb hml hown hu (tX8_has0 l D cs a nn x1 2 M_1 r3 hg4) q1026 q62 q1023 q1025 q21 pdX8_has0 ⟨rfl, rfl, Nat.le_of_ble_eq_true rfl, Nat.le_of_ble_eq_true rfl⟩ hK hZ hP hD hS hA rfl rfl rfl rfl hl.1 rfl (Nat.le_of_ble_eq_true rfl) dX8_keptBy_8 rfl (fun H locs hP hD hS => ?_)
  refine lv_iload_n hx hb dX8_keptBy_11 rfl (lv_at hl 3 rfl) ?_
  obtain ⟨r5, M_6, hg7, hf⟩ := b2_el hf
  refine cc_V1 (w' := (kX8 cs a (.ref (nn 0)) M_6)) (st1 := [.int r5]) [.int r3, .int x3] hx hb hml hown hu (tX8_hasIn l D cs a nn r3 x3 M_1 r5 M_6 hg7) q1211 q62 q1208 q1210 q43 pdX8_hasIn ⟨rfl, rfl, Nat.le_of_ble_eq_true rfl, Nat.le_of_ble_eq_true rfl⟩ hK hZ hP hD hS hA rfl rfl rfl rfl hl.1 rfl (Nat.le_of_ble_eq_true rfl) dX8_keptBy_12 rfl (fun H locs hP hD hS => ?_)
  refine lv_istore (lv' := [(4, .int r5), (0, .ref (a 0)), (1, .int x1), (2, .int x2), (3, .int x3)]) hx hb dX8_keptBy_15 hl (by decide) rfl (fun ls hl => ?_)
  refine lv_aload_n hx hb dX8_keptBy_17 rfl (lv_at hl 1 rfl) ?_
  obtain ⟨M_8, hg9, hf⟩ := b1_el hf
  refine cc_V1 (w' := (kX8 cs a (.ref (nn 0)) M_8)) (st1 := []) [] hx hb hml hown hu (tX8_laysBack l D cs a nn M_6 M_8 hg9) q1182 q62 q1179 q1181 q40 pdX8_laysBack ⟨rfl, rfl, Nat.le_of_ble_eq_true rfl, Nat.le_of_ble_eq_true rfl⟩ hK hZ hP hD hS hA rfl rfl rfl rfl hl.1 rfl (Nat.le_of_ble_eq_true rfl) dX8_keptBy_18 rfl (fun H locs hP hD hS => ?_)
  refine lv_aload_n hx hb dX8_keptBy_21 rfl (lv_at hl 1 rfl) ?_
  refine lv_iload_n hx hb dX8_keptBy_22 rfl (lv_at hl 2 rfl) ?_
  obtain ⟨M_10, hM_10, hf⟩ := lt_el hf
  refine va_put (D := D) (ci := 8) (v := .int x1) (ty := .int) (C := RX8) (T := TX8) (N := 26) hx hb hu inX8 tyX8 tyX8_ok nmX8 hown hK.1 hP hD hS 0 rfl rfl 9 (by decide) (hu _ q926) (fun _ h9 => h9) rfl (by decide +kernel) rfl rfl (Nat.le_of_ble_eq_true rfl) dX8_keptBy_23 (fun H locs hP hD hS => ?_)
  have hP : va_P D vwCl (kX8 cs a (.ref (nn 0)) M_10) H := by rw [hM_10]; exact hP
  have hD : va_D A (kX8 cs a (.ref (nn 0)) M_10) := by rw [hM_10]; exact hD
  refine lv_aload_n hx hb dX8_keptBy_26 rfl (lv_at hl 1 rfl) ?_
  refine lv_iload_n hx hb dX8_keptBy_27 rfl (lv_at hl 3 rfl) ?_
  obtain ⟨M_11, hM_11, hf⟩ := lt_el hf
  refine va_put (D := D) (ci := 8) (v := .int x2) (ty := .int) (C := RX8) (T := TX8) (N := 26) hx hb hu inX8 tyX8 tyX8_ok nmX8 hown hK.1 hP hD hS 0 rfl rfl 10 (by decide) (hu _ q927) (fun _ h9 => h9) rfl (by decide +kernel) rfl rfl (Nat.le_of_ble_eq_true rfl) dX8_keptBy_28 (fun H locs hP hD hS => ?_)
  have hP : va_P D vwCl (kX8 cs a (.ref (nn 0)) M_11) H := by rw [hM_11]; exact hP
  have hD : va_D A (kX8 cs a (.ref (nn 0)) M_11) := by rw [hM_11]; exact hD
  refine lv_aload_n hx hb dX8_keptBy_31 rfl (lv_at hl 1 rfl) ?_
  refine lv_aload_n hx hb dX8_keptBy_32 rfl (lv_at hl 1 rfl) ?_
  refine lv_iload_n hx hb dX8_keptBy_33 rfl (lv_at hl 2 rfl) ?_
  refine lv_iconst (v := 2) hx hb dX8_keptBy_34 (by decide) ?_
  obtain ⟨r12, hg13, hf⟩ := b1_el hf
  refine cc_V1 (w' := (kX8 cs a (.ref (nn 0)) M_11)) (st1 := [.int r12, .ref (a 0)]) [.int x1, .int 2] hx hb hml hown hu (tX8_has0 l D cs a nn x1 2 M_11 r12 hg13) q1026 q62 q1023 q1025 q21 pdX8_has0 ⟨rfl, rfl, Nat.le_of_ble_eq_true rfl, Nat.le_of_ble_eq_true rfl⟩ hK hZ hP hD hS hA rfl rfl rfl rfl hl.1 rfl (Nat.le_of_ble_eq_true rfl) dX8_keptBy_35 rfl (fun H locs hP hD hS => ?_)
  refine lv_iload_n hx hb dX8_keptBy_38 rfl (lv_at hl 4 rfl) ?_
  obtain ⟨r14, M_15, hg16, hf⟩ := b2_el hf
  refine cc_V1 (w' := (kX8 cs a (.ref (nn 0)) M_15)) (st1 := [.int r14]) [.int r12, .int x3] hx hb hml hown hu (tX8_hasIn l D cs a nn r12 x3 M_11 r14 M_15 hg16) q1211 q62 q1208 q1210 q43 pdX8_hasIn ⟨rfl, rfl, Nat.le_of_ble_eq_true rfl, Nat.le_of_ble_eq_true rfl⟩ hK hZ hP hD hS hA rfl rfl rfl rfl hl.1 rfl (Nat.le_of_ble_eq_true rfl) dX8_keptBy_39 rfl (fun H locs hP hD hS => ?_)
  refine lv_istore (lv' := [(5, .int r14), (4, .int r5), (0, .ref (a 0)), (1, .int x1), (2, .int x2), (3, .int x3)]) hx hb dX8_keptBy_42 hl (by decide) rfl (fun ls hl => ?_)
  refine lv_aload_n hx hb dX8_keptBy_44 rfl (lv_at hl 2 rfl) ?_
  refine lv_iconst (v := (-1)) hx hb dX8_keptBy_45 (by decide) ?_
  obtain ⟨M_17, hM_17, hf⟩ := lt_el hf
  refine va_put (D := D) (ci := 8) (v := .int (-1)) (ty := .int) (C := RX8) (T := TX8) (N := 26) hx hb hu inX8 tyX8 tyX8_ok nmX8 hown hK.1 hP hD hS 0 rfl rfl 9 (by decide) (hu _ q926) (fun _ h9 => h9) rfl (by decide +kernel) rfl rfl (Nat.le_of_ble_eq_true rfl) dX8_keptBy_46 (fun H locs hP hD hS => ?_)
  have hP : va_P D vwCl (kX8 cs a (.ref (nn 0)) M_17) H := by rw [hM_17]; exact hP
  have hD : va_D A (kX8 cs a (.ref (nn 0)) M_17) := by rw [hM_17]; exact hD
  refine lv_aload_n hx hb dX8_keptBy_49 rfl (lv_at hl 2 rfl) ?_
  refine lv_iconst (v := (-1)) hx hb dX8_keptBy_50 (by decide) ?_
  obtain ⟨M_18, hM_18, hf⟩ := lt_el hf
  refine va_put (D := D) (ci := 8) (v := .int (-1)) (ty := .int) (C := RX8) (T := TX8) (N := 26) hx hb hu inX8 tyX8 tyX8_ok nmX8 hown hK.1 hP hD hS 0 rfl rfl 10 (by decide) (hu _ q927) (fun _ h9 => h9) rfl (by decide +kernel) rfl rfl (Nat.le_of_ble_eq_true rfl) dX8_keptBy_51 (fun H locs hP hD hS => ?_)
  have hP : va_P D vwCl (kX8 cs a (.ref (nn 0)) M_18) H := by rw [hM_18]; exact hP
  have hD : va_D A (kX8 cs a (.ref (nn 0)) M_18) := by rw [hM_18]; exact hD
  refine lv_aload_n hx hb dX8_keptBy_54 rfl (lv_at hl 2 rfl) ?_
  obtain ⟨M_19, hg20, hf⟩ := b1_el hf
  refine cc_V1 (w' := (kX8 cs a (.ref (nn 0)) M_19)) (st1 := []) [] hx hb hml hown hu (tX8_laysBack l D cs a nn M_18 M_19 hg20) q1182 q62 q1179 q1181 q40 pdX8_laysBack ⟨rfl, rfl, Nat.le_of_ble_eq_true rfl, Nat.le_of_ble_eq_true rfl⟩ hK hZ hP hD hS hA rfl rfl rfl rfl hl.1 rfl (Nat.le_of_ble_eq_true rfl) dX8_keptBy_55 rfl (fun H locs hP hD hS => ?_)
  refine lv_iload hx hb dX8_keptBy_58 (lv_at hl 0 rfl) ?_
  refine lv_iload hx hb dX8_keptBy_60 (lv_at hl 1 rfl) ?_
  refine lv_isub hx hb dX8_keptBy_62 ?_
  have he := Option.some.inj hf
  obtain ⟨e0, e1⟩ := Prod.mk.inj he
  exact hri _ _ _ rfl (congrArg (fun z => some (Value.int z)) e0.symm) dX8_keptBy_63 _ _ _ (by rw [e1]) hP hD hS

def fX8_kept_28 (M : ST) : Option (Int32 × ST) :=
  dc_b2 (fX8_finds (-1000000001) M) (fun r4 M_5 => some (r4, M_5))
def fX8_kept_61 (M : ST) : Option (Int32 × ST) :=
  dc_b2 (fX8_finds (-1000000005) M) (fun r17 M_18 => some (r17, M_18))
def fX8_kept (x1 : Int32) (x2 : Int32) (x3 : Int32) (M : ST) : Option (Int32 × ST) :=
  dc_b1 (fX8_isPerson x1 M) (fun r1 => (if r1 = 0 then fX8_kept_28 M else dc_b1 (fX8_isPerson x2 M) (fun r7 => (if r7 = 0 then fX8_kept_28 M else (if x1 = x2 then fX8_kept_28 M else dc_b1 (fX8_isChairs x3) (fun r11 => (if r11 = 0 then fX8_kept_28 M else dc_b1 (fX8_isAlive x1 M) (fun r14 => (if r14 = 0 then fX8_kept_61 M else dc_b1 (fX8_isAlive x2 M) (fun r20 => (if r20 = 0 then fX8_kept_61 M else dc_b2 (fX8_keptBy x1 x2 x3 M) (fun r23 M_24 => some (r23, M_24)))))))))))))
abbrev rmX8_kept : Room := { frames := 14, cells := 0, slots := 0, locals := 342 }
set_option maxRecDepth 100000 in
set_option maxHeartbeats 4000000 in
theorem tX8_kept (l : Launch) (D : va_G) (cs : Nat → ClassId) (a : Nat → Nat) (nn : Nat → Nat) (x1 : Int32) (x2 : Int32) (x3 : Int32) (M : ST) (r0 : Int32) (Mz : ST) (hf : fX8_kept x1 x2 x3 M = some (r0, Mz)) : CG l yX8_kept (wsm yX8_kept cX8_kept 4 (some .int)) rmX8_kept D cs [.ref (a 0), .int x1, .int x2, .int x3] (some (.int r0)) (kX8 cs a (.ref (nn 0)) M) (kX8 cs a (.ref (nn 0)) Mz) := by
  refine CG.intro (by decide) (Nat.le_of_ble_eq_true rfl) ?_
  intro p e s m below meth c A Q hx hb hml hown hu hK hZ hP0 hD0 hS0 hA hri hrz hrl hrv hra ls0 hl0
  have h28 : ∀ (M : ST) (H : Heap) (locs : List Loc) (ls : Array Slot), va_P D vwCl (kX8 cs a (.ref (nn 0)) M) H → va_D A (kX8 cs a (.ref (nn 0)) M) → va_S A s.heap H locs → lv_has ls 4 [(0, .ref (a 0))] → fX8_kept_28 M = some (r0, Mz) → W p l e rmX8_kept s m [.ref (a 0), .int x1, .int x2, .int x3].toArray below meth c H locs 0 0 Q (F0 m 28 ls []) := by
    intro M H locs ls hP hD hS hl hf
    unfold fX8_kept_28 at hf
    refine lv_aload_n hx hb dX8_kept_28 rfl (lv_at hl 0 rfl) ?_
    refine lv_ldc (v := (-1000000001)) hx hb hown (hu _ q1008) dX8_kept_29 ?_
    obtain ⟨r4, M_5, hg6, hf⟩ := b2_el hf
    refine cc_V1 (w' := (kX8 cs a (.ref (nn 0)) M_5)) (st1 := [.int r4]) [.int (-1000000001)] hx hb hml hown hu (tX8_finds l D cs a nn (-1000000001) M r4 M_5 hg6) q1012 q62 q1009 q1011 q19 pdX8_finds ⟨rfl, rfl, Nat.le_of_ble_eq_true rfl, Nat.le_of_ble_eq_true rfl⟩ hK hZ hP hD hS hA rfl rfl rfl rfl hl.1 rfl (Nat.le_of_ble_eq_true rfl) dX8_kept_31 rfl (fun H locs hP hD hS => ?_)
    have he := Option.some.inj hf
    obtain ⟨e0, e1⟩ := Prod.mk.inj he
    exact hri _ _ _ rfl (congrArg (fun z => some (Value.int z)) e0.symm) dX8_kept_34 _ _ _ (by rw [e1]) hP hD hS
  have h61 : ∀ (M : ST) (H : Heap) (locs : List Loc) (ls : Array Slot), va_P D vwCl (kX8 cs a (.ref (nn 0)) M) H → va_D A (kX8 cs a (.ref (nn 0)) M) → va_S A s.heap H locs → lv_has ls 4 [(0, .ref (a 0))] → fX8_kept_61 M = some (r0, Mz) → W p l e rmX8_kept s m [.ref (a 0), .int x1, .int x2, .int x3].toArray below meth c H locs 0 0 Q (F0 m 61 ls []) := by
    intro M H locs ls hP hD hS hl hf
    unfold fX8_kept_61 at hf
    refine lv_aload_n hx hb dX8_kept_61 rfl (lv_at hl 0 rfl) ?_
    refine lv_ldc (v := (-1000000005)) hx hb hown (hu _ q1128) dX8_kept_62 ?_
    obtain ⟨r17, M_18, hg19, hf⟩ := b2_el hf
    refine cc_V1 (w' := (kX8 cs a (.ref (nn 0)) M_18)) (st1 := [.int r17]) [.int (-1000000005)] hx hb hml hown hu (tX8_finds l D cs a nn (-1000000005) M r17 M_18 hg19) q1012 q62 q1009 q1011 q19 pdX8_finds ⟨rfl, rfl, Nat.le_of_ble_eq_true rfl, Nat.le_of_ble_eq_true rfl⟩ hK hZ hP hD hS hA rfl rfl rfl rfl hl.1 rfl (Nat.le_of_ble_eq_true rfl) dX8_kept_64 rfl (fun H locs hP hD hS => ?_)
    have he := Option.some.inj hf
    obtain ⟨e0, e1⟩ := Prod.mk.inj he
    exact hri _ _ _ rfl (congrArg (fun z => some (Value.int z)) e0.symm) dX8_kept_67 _ _ _ (by rw [e1]) hP hD hS
  have hl : lv_has ls0 4 [(0, .ref (a 0)), (1, .int x1), (2, .int x2), (3, .int x3)] := hl0
  have hP := hP0
  have hD := hD0
  have hS := hS0
  unfold fX8_kept at hf
  refine lv_aload_n hx hb dX8_kept_0 rfl (lv_at hl 0 rfl) ?_
  refine lv_iload_n hx hb dX8_kept_1 rfl (lv_at hl 1 rfl) ?_
  obtain ⟨r1, hg2, hf⟩ := b1_el hf
  refine cc_V1 (w' := (kX8 cs a (.ref (nn 0)) M)) (st1 := [.int r1]) [.int x1] hx hb hml hown hu (tX8_isPerson l D cs a nn x1 M r1 hg2) q1021 q62 q1018 q1020 q20 pdX8_isPerson ⟨rfl, rfl, Nat.le_of_ble_eq_true rfl, Nat.le_of_ble_eq_true rfl⟩ hK hZ hP hD hS hA rfl rfl rfl rfl hl.1 rfl (Nat.le_of_ble_eq_true rfl) dX8_kept_2 rfl (fun H locs hP hD hS => ?_)
  refine lv_if_eq (tgt := 28) hx hb dX8_kept_5 (by decide) (fun hc3 => ?_) (fun hc3 => ?_)
  · have hf := ip_el hc3 hf
    exact h28 M _ _ _ hP hD hS (lv_sub hl [0] rfl) hf
  · have hf := in_el hc3 hf
    refine lv_aload_n hx hb dX8_kept_8 rfl (lv_at hl 0 rfl) ?_
    refine lv_iload_n hx hb dX8_kept_9 rfl (lv_at hl 2 rfl) ?_
    obtain ⟨r7, hg8, hf⟩ := b1_el hf
    refine cc_V1 (w' := (kX8 cs a (.ref (nn 0)) M)) (st1 := [.int r7]) [.int x2] hx hb hml hown hu (tX8_isPerson l D cs a nn x2 M r7 hg8) q1021 q62 q1018 q1020 q20 pdX8_isPerson ⟨rfl, rfl, Nat.le_of_ble_eq_true rfl, Nat.le_of_ble_eq_true rfl⟩ hK hZ hP hD hS hA rfl rfl rfl rfl hl.1 rfl (Nat.le_of_ble_eq_true rfl) dX8_kept_10 rfl (fun H locs hP hD hS => ?_)
    refine lv_if_eq (tgt := 28) hx hb dX8_kept_13 (by decide) (fun hc9 => ?_) (fun hc9 => ?_)
    · have hf := ip_el hc9 hf
      exact h28 M _ _ _ hP hD hS (lv_sub hl [0] rfl) hf
    · have hf := in_el hc9 hf
      refine lv_iload_n hx hb dX8_kept_16 rfl (lv_at hl 1 rfl) ?_
      refine lv_iload_n hx hb dX8_kept_17 rfl (lv_at hl 2 rfl) ?_
      refine lv_icmp_eq (tgt := 28) hx hb dX8_kept_18 (by decide) (fun hc10 => ?_) (fun hc10 => ?_)
      · have hf := ip_el hc10 hf
        exact h28 M _ _ _ hP hD hS (lv_sub hl [0] rfl) hf
      · have hf := in_el hc10 hf
        refine lv_iload_n hx hb dX8_kept_21 rfl (lv_at hl 3 rfl) ?_
        obtain ⟨r11, hg12, hf⟩ := b1_el hf
        refine cc_S0 (st1 := [.int r11]) [.int x3] hx hb hml hown hu (tX8_isChairs l D cs x3 r11 hg12) q1173 q62 q1171 q1172 pdX8_isChairs ⟨rfl, rfl, Nat.le_of_ble_eq_true rfl, Nat.le_of_ble_eq_true rfl⟩ hK hZ hP hD hS hA rfl hl.1 rfl (Nat.le_of_ble_eq_true rfl) dX8_kept_22 rfl (fun H locs hP hD hS => ?_)
        refine lv_if_ne (tgt := 35) hx hb dX8_kept_25 (by decide) (fun hc13 => ?_) (fun hc13 => ?_)
        · have hf := in_el hc13 hf
          refine lv_aload_n hx hb dX8_kept_35 rfl (lv_at hl 0 rfl) ?_
          refine lv_iload_n hx hb dX8_kept_36 rfl (lv_at hl 1 rfl) ?_
          obtain ⟨r14, hg15, hf⟩ := b1_el hf
          refine cc_V1 (w' := (kX8 cs a (.ref (nn 0)) M)) (st1 := [.int r14]) [.int x1] hx hb hml hown hu (tX8_isAlive l D cs a nn x1 M r14 hg15) q1042 q62 q1039 q1041 q25 pdX8_isAlive ⟨rfl, rfl, Nat.le_of_ble_eq_true rfl, Nat.le_of_ble_eq_true rfl⟩ hK hZ hP hD hS hA rfl rfl rfl rfl hl.1 rfl (Nat.le_of_ble_eq_true rfl) dX8_kept_37 rfl (fun H locs hP hD hS => ?_)
          refine lv_if_eq (tgt := 61) hx hb dX8_kept_40 (by decide) (fun hc16 => ?_) (fun hc16 => ?_)
          · have hf := ip_el hc16 hf
            exact h61 M _ _ _ hP hD hS (lv_sub hl [0] rfl) hf
          · have hf := in_el hc16 hf
            refine lv_aload_n hx hb dX8_kept_43 rfl (lv_at hl 0 rfl) ?_
            refine lv_iload_n hx hb dX8_kept_44 rfl (lv_at hl 2 rfl) ?_
            obtain ⟨r20, hg21, hf⟩ := b1_el hf
            refine cc_V1 (w' := (kX8 cs a (.ref (nn 0)) M)) (st1 := [.int r20]) [.int x2] hx hb hml hown hu (tX8_isAlive l D cs a nn x2 M r20 hg21) q1042 q62 q1039 q1041 q25 pdX8_isAlive ⟨rfl, rfl, Nat.le_of_ble_eq_true rfl, Nat.le_of_ble_eq_true rfl⟩ hK hZ hP hD hS hA rfl rfl rfl rfl hl.1 rfl (Nat.le_of_ble_eq_true rfl) dX8_kept_45 rfl (fun H locs hP hD hS => ?_)
            refine lv_if_eq (tgt := 61) hx hb dX8_kept_48 (by decide) (fun hc22 => ?_) (fun hc22 => ?_)
            · have hf := ip_el hc22 hf
              exact h61 M _ _ _ hP hD hS (lv_sub hl [0] rfl) hf
            · have hf := in_el hc22 hf
              refine lv_aload_n hx hb dX8_kept_51 rfl (lv_at hl 0 rfl) ?_
              refine lv_iload_n hx hb dX8_kept_52 rfl (lv_at hl 1 rfl) ?_
              refine lv_iload_n hx hb dX8_kept_53 rfl (lv_at hl 2 rfl) ?_
              refine lv_iload_n hx hb dX8_kept_54 rfl (lv_at hl 3 rfl) ?_
              obtain ⟨r23, M_24, hg25, hf⟩ := b2_el hf
              refine cc_V1 (w' := (kX8 cs a (.ref (nn 0)) M_24)) (st1 := [.int r23]) [.int x1, .int x2, .int x3] hx hb hml hown hu (tX8_keptBy l D cs a nn x1 x2 x3 M r23 M_24 hg25) q1227 q62 q1224 q1226 q44 pdX8_keptBy ⟨rfl, rfl, Nat.le_of_ble_eq_true rfl, Nat.le_of_ble_eq_true rfl⟩ hK hZ hP hD hS hA rfl rfl rfl rfl hl.1 rfl (Nat.le_of_ble_eq_true rfl) dX8_kept_55 rfl (fun H locs hP hD hS => ?_)
              refine lv_goto (tgt := 67) hx hb dX8_kept_58 (by decide) ?_
              have he := Option.some.inj hf
              obtain ⟨e0, e1⟩ := Prod.mk.inj he
              exact hri _ _ _ rfl (congrArg (fun z => some (Value.int z)) e0.symm) dX8_kept_67 _ _ _ (by rw [e1]) hP hD hS
        · have hf := ip_el hc13 hf
          exact h28 M _ _ _ hP hD hS (lv_sub hl [0] rfl) hf

def fX8_pact_103 (k26 : Int32 → Int32 → Int32 → Int32 → ST → Option (Int32 × ST)) (k43 : Int32 → Int32 → Int32 → Int32 → Int32 → ST → Option (Int32 × ST)) (y1 : Int32) (y4 : Int32) (y5 : Int32) (y6 : Int32) (M : ST) : Option (Int32 × ST) :=
  dc_lt ((10 * y4) + y5) (fun v28 => dc_lt (y5 + 1) (fun v29 => k43 y1 v28 y6 y4 v29 M))
def fX8_pact_43_s (k26 : Int32 → Int32 → Int32 → Int32 → ST → Option (Int32 × ST)) (k43 : Int32 → Int32 → Int32 → Int32 → Int32 → ST → Option (Int32 × ST)) (y1 : Int32) (y2 : Int32) (y3 : Int32) (y4 : Int32) (y5 : Int32) (M : ST) : Option (Int32 × ST) :=
  (if (M 1 0) ≤ y5 then dc_lt (y4 + 1) (fun v11 => k26 y1 y2 y3 v11 M) else dc_b1 (fX8_isAlive y4 M) (fun r12 => (if r12 = 0 then dc_lt (y5 + 1) (fun v15 => k43 y1 y2 y3 y4 v15 M) else dc_b1 (fX8_isAlive y5 M) (fun r16 => (if r16 = 0 then dc_lt (y5 + 1) (fun v19 => k43 y1 y2 y3 y4 v19 M) else dc_b2 (fX8_keptBy y4 y5 y1 M) (fun r20 M_21 => dc_b2 (fX8_keptBy y5 y4 y1 M_21) (fun r23 M_24 => dc_lt (r20 + r23) (fun v26 => (if y2 < 0 then fX8_pact_103 k26 k43 y1 y4 y5 v26 M_24 else (if v26 ≤ y3 then dc_lt (y5 + 1) (fun v31 => k43 y1 y2 y3 y4 v31 M_24) else fX8_pact_103 k26 k43 y1 y4 y5 v26 M_24))))))))))
def fX8_pact_43 (k26 : Int32 → Int32 → Int32 → Int32 → ST → Option (Int32 × ST)) : Nat → Int32 → Int32 → Int32 → Int32 → Int32 → ST → Option (Int32 × ST)
  | 0 => fun _ _ _ _ _ _ => none
  | n + 1 => fX8_pact_43_s k26 (fX8_pact_43 k26 n)
def fX8_pact_26_s (k26 : Int32 → Int32 → Int32 → Int32 → ST → Option (Int32 × ST)) (y1 : Int32) (y2 : Int32) (y3 : Int32) (y4 : Int32) (M : ST) : Option (Int32 × ST) :=
  (if (M 1 0) ≤ y4 then (if 0 ≤ y2 then some (y2, M) else dc_b2 (fX8_finds (-1000000004) M) (fun r6 M_7 => some (r6, M_7))) else dc_lt (y4 + 1) (fun v9 => fX8_pact_43 k26 400 y1 y2 y3 y4 v9 M))
def fX8_pact_26 : Nat → Int32 → Int32 → Int32 → Int32 → ST → Option (Int32 × ST)
  | 0 => fun _ _ _ _ _ => none
  | n + 1 => fX8_pact_26_s (fX8_pact_26 n)
def fX8_pact (x1 : Int32) (M : ST) : Option (Int32 × ST) :=
  dc_b1 (fX8_isIn (x1.toInt64) 1 40) (fun r1 => (if r1 = 0 then dc_b2 (fX8_finds (-1000000001) M) (fun r32 M_33 => some (r32, M_33)) else fX8_pact_26 400 x1 (-1) 0 0 M))
abbrev rmX8_pact : Room := { frames := 14, cells := 0, slots := 0, locals := 342 }
set_option maxRecDepth 100000 in
set_option maxHeartbeats 4000000 in
theorem tX8_pact (l : Launch) (D : va_G) (cs : Nat → ClassId) (a : Nat → Nat) (nn : Nat → Nat) (x1 : Int32) (M : ST) (r0 : Int32) (Mz : ST) (hf : fX8_pact x1 M = some (r0, Mz)) : CG l yX8_pact (wsm yX8_pact cX8_pact 7 (some .int)) rmX8_pact D cs [.ref (a 0), .int x1] (some (.int r0)) (kX8 cs a (.ref (nn 0)) M) (kX8 cs a (.ref (nn 0)) Mz) := by
  refine CG.intro (by decide) (Nat.le_of_ble_eq_true rfl) ?_
  intro p e s m below meth c A Q hx hb hml hown hu hK hZ hP0 hD0 hS0 hA hri hrz hrl hrv hra ls0 hl0
  have h103 : ∀ (k26 : Int32 → Int32 → Int32 → Int32 → ST → Option (Int32 × ST)), (∀ (y1 : Int32) (y2 : Int32) (y3 : Int32) (y4 : Int32) (M : ST) (H : Heap) (locs : List Loc) (ls : Array Slot), va_P D vwCl (kX8 cs a (.ref (nn 0)) M) H → va_D A (kX8 cs a (.ref (nn 0)) M) → va_S A s.heap H locs → lv_has ls 7 [(0, .ref (a 0)), (1, .int y1), (2, .int y2), (3, .int y3), (4, .int y4)] → k26 y1 y2 y3 y4 M = some (r0, Mz) → W p l e rmX8_pact s m [.ref (a 0), .int x1].toArray below meth c H locs 0 0 Q (F0 m 26 ls [])) → ∀ (k43 : Int32 → Int32 → Int32 → Int32 → Int32 → ST → Option (Int32 × ST)), (∀ (y1 : Int32) (y2 : Int32) (y3 : Int32) (y4 : Int32) (y5 : Int32) (M : ST) (H : Heap) (locs : List Loc) (ls : Array Slot), va_P D vwCl (kX8 cs a (.ref (nn 0)) M) H → va_D A (kX8 cs a (.ref (nn 0)) M) → va_S A s.heap H locs → lv_has ls 7 [(0, .ref (a 0)), (1, .int y1), (2, .int y2), (3, .int y3), (4, .int y4), (5, .int y5)] → k43 y1 y2 y3 y4 y5 M = some (r0, Mz) → W p l e rmX8_pact s m [.ref (a 0), .int x1].toArray below meth c H locs 0 0 Q (F0 m 43 ls [])) → ∀ (y1 : Int32) (y4 : Int32) (y5 : Int32) (y6 : Int32) (M : ST) (H : Heap) (locs : List Loc) (ls : Array Slot), va_P D vwCl (kX8 cs a (.ref (nn 0)) M) H → va_D A (kX8 cs a (.ref (nn 0)) M) → va_S A s.heap H locs → lv_has ls 7 [(0, .ref (a 0)), (1, .int y1), (4, .int y4), (5, .int y5), (6, .int y6)] → fX8_pact_103 k26 k43 y1 y4 y5 y6 M = some (r0, Mz) → W p l e rmX8_pact s m [.ref (a 0), .int x1].toArray below meth c H locs 0 0 Q (F0 m 103 ls []) := by
    intro k26 hk26 k43 hk43 y1 y4 y5 y6 M H locs ls hP hD hS hl hf
    unfold fX8_pact_103 at hf
    refine lv_bipush (v := 10) hx hb dX8_pact_103 (by decide) ?_
    refine lv_iload hx hb dX8_pact_105 (lv_at hl 2 rfl) ?_
    refine lv_imul hx hb dX8_pact_107 ?_
    refine lv_iload hx hb dX8_pact_108 (lv_at hl 3 rfl) ?_
    refine lv_iadd hx hb dX8_pact_110 ?_
    obtain ⟨v28, hv28, hf⟩ := lt_el hf
    refine lv_tope hv28 ?_
    refine lv_istore_n (lv' := [(2, .int v28), (0, .ref (a 0)), (1, .int y1), (4, .int y4), (5, .int y5), (6, .int y6)]) hx hb dX8_pact_111 rfl hl (by decide) rfl (fun ls hl => ?_)
    refine lv_iload hx hb dX8_pact_112 (lv_at hl 5 rfl) ?_
    refine lv_istore_n (lv' := [(3, .int y6), (2, .int v28), (0, .ref (a 0)), (1, .int y1), (4, .int y4), (5, .int y5), (6, .int y6)]) hx hb dX8_pact_114 rfl hl (by decide) rfl (fun ls hl => ?_)
    obtain ⟨v29, hv29, hf⟩ := lt_el hf
    refine lv_iinc (v := v29) (lv' := [(5, .int v29), (3, .int y6), (2, .int v28), (0, .ref (a 0)), (1, .int y1), (4, .int y4), (6, .int y6)]) hx hb dX8_pact_115 hl (k := 5) rfl (by rw [hv29]; rfl) (by decide) rfl (fun ls hl => ?_)
    refine lv_goto (tgt := 43) hx hb dX8_pact_118 (by decide) ?_
    exact hk43 y1 v28 y6 y4 v29 M _ _ _ hP hD hS (lv_sub hl [3, 4, 2, 1, 5, 0] rfl) hf
  have hs43 : ∀ (k26 : Int32 → Int32 → Int32 → Int32 → ST → Option (Int32 × ST)), (∀ (y1 : Int32) (y2 : Int32) (y3 : Int32) (y4 : Int32) (M : ST) (H : Heap) (locs : List Loc) (ls : Array Slot), va_P D vwCl (kX8 cs a (.ref (nn 0)) M) H → va_D A (kX8 cs a (.ref (nn 0)) M) → va_S A s.heap H locs → lv_has ls 7 [(0, .ref (a 0)), (1, .int y1), (2, .int y2), (3, .int y3), (4, .int y4)] → k26 y1 y2 y3 y4 M = some (r0, Mz) → W p l e rmX8_pact s m [.ref (a 0), .int x1].toArray below meth c H locs 0 0 Q (F0 m 26 ls [])) → ∀ (k43 : Int32 → Int32 → Int32 → Int32 → Int32 → ST → Option (Int32 × ST)), (∀ (y1 : Int32) (y2 : Int32) (y3 : Int32) (y4 : Int32) (y5 : Int32) (M : ST) (H : Heap) (locs : List Loc) (ls : Array Slot), va_P D vwCl (kX8 cs a (.ref (nn 0)) M) H → va_D A (kX8 cs a (.ref (nn 0)) M) → va_S A s.heap H locs → lv_has ls 7 [(0, .ref (a 0)), (1, .int y1), (2, .int y2), (3, .int y3), (4, .int y4), (5, .int y5)] → k43 y1 y2 y3 y4 y5 M = some (r0, Mz) → W p l e rmX8_pact s m [.ref (a 0), .int x1].toArray below meth c H locs 0 0 Q (F0 m 43 ls [])) → ∀ (y1 : Int32) (y2 : Int32) (y3 : Int32) (y4 : Int32) (y5 : Int32) (M : ST) (H : Heap) (locs : List Loc) (ls : Array Slot), va_P D vwCl (kX8 cs a (.ref (nn 0)) M) H → va_D A (kX8 cs a (.ref (nn 0)) M) → va_S A s.heap H locs → lv_has ls 7 [(0, .ref (a 0)), (1, .int y1), (2, .int y2), (3, .int y3), (4, .int y4), (5, .int y5)] → fX8_pact_43_s k26 k43 y1 y2 y3 y4 y5 M = some (r0, Mz) → W p l e rmX8_pact s m [.ref (a 0), .int x1].toArray below meth c H locs 0 0 Q (F0 m 43 ls []) := by
    intro k26 hk26 k43 hk43 y1 y2 y3 y4 y5 M H locs ls hP hD hS hl hf
    unfold fX8_pact_43_s at hf
    refine lv_iload hx hb dX8_pact_43 (lv_at hl 5 rfl) ?_
    refine lv_aload_n hx hb dX8_pact_45 rfl (lv_at hl 0 rfl) ?_
    refine va_get (D := D) (ci := 8) (v := .ref (a 1)) (C := RX8) (T := TX8) (N := 26) hx hb hu inX8 hown hK.1 hP 0 rfl rfl 0 (by decide) (hu _ q917) (fun _ h9 => h9) rfl dX8_pact_46 ?_
    refine lv_iconst (v := 0) hx hb dX8_pact_49 (by decide) ?_
    refine ia_lit hx hb hK hP 1 0 rfl (by decide) dX8_pact_50 ?_
    refine lv_icmp_ge (tgt := 121) hx hb dX8_pact_51 (by decide) (fun hc10 => ?_) (fun hc10 => ?_)
    · have hf := ip_el hc10 hf
      obtain ⟨v11, hv11, hf⟩ := lt_el hf
      refine lv_iinc (v := v11) (lv' := [(4, .int v11), (0, .ref (a 0)), (1, .int y1), (2, .int y2), (3, .int y3), (5, .int y5)]) hx hb dX8_pact_121 hl (k := 4) rfl (by rw [hv11]; rfl) (by decide) rfl (fun ls hl => ?_)
      refine lv_goto (tgt := 26) hx hb dX8_pact_124 (by decide) ?_
      exact hk26 y1 y2 y3 v11 M _ _ _ hP hD hS (lv_sub hl [1, 2, 3, 4, 0] rfl) hf
    · have hf := in_el hc10 hf
      refine lv_aload_n hx hb dX8_pact_54 rfl (lv_at hl 0 rfl) ?_
      refine lv_iload hx hb dX8_pact_55 (lv_at hl 4 rfl) ?_
      obtain ⟨r12, hg13, hf⟩ := b1_el hf
      refine cc_V1 (w' := (kX8 cs a (.ref (nn 0)) M)) (st1 := [.int r12]) [.int y4] hx hb hml hown hu (tX8_isAlive l D cs a nn y4 M r12 hg13) q1042 q62 q1039 q1041 q25 pdX8_isAlive ⟨rfl, rfl, Nat.le_of_ble_eq_true rfl, Nat.le_of_ble_eq_true rfl⟩ hK hZ hP hD hS hA rfl rfl rfl rfl hl.1 rfl (Nat.le_of_ble_eq_true rfl) dX8_pact_57 rfl (fun H locs hP hD hS => ?_)
      refine lv_if_eq (tgt := 115) hx hb dX8_pact_60 (by decide) (fun hc14 => ?_) (fun hc14 => ?_)
      · have hf := ip_el hc14 hf
        obtain ⟨v15, hv15, hf⟩ := lt_el hf
        refine lv_iinc (v := v15) (lv' := [(5, .int v15), (0, .ref (a 0)), (1, .int y1), (2, .int y2), (3, .int y3), (4, .int y4)]) hx hb dX8_pact_115 hl (k := 5) rfl (by rw [hv15]; rfl) (by decide) rfl (fun ls hl => ?_)
        refine lv_goto (tgt := 43) hx hb dX8_pact_118 (by decide) ?_
        exact hk43 y1 y2 y3 y4 v15 M _ _ _ hP hD hS (lv_sub hl [1, 2, 3, 4, 5, 0] rfl) hf
      · have hf := in_el hc14 hf
        refine lv_aload_n hx hb dX8_pact_63 rfl (lv_at hl 0 rfl) ?_
        refine lv_iload hx hb dX8_pact_64 (lv_at hl 5 rfl) ?_
        obtain ⟨r16, hg17, hf⟩ := b1_el hf
        refine cc_V1 (w' := (kX8 cs a (.ref (nn 0)) M)) (st1 := [.int r16]) [.int y5] hx hb hml hown hu (tX8_isAlive l D cs a nn y5 M r16 hg17) q1042 q62 q1039 q1041 q25 pdX8_isAlive ⟨rfl, rfl, Nat.le_of_ble_eq_true rfl, Nat.le_of_ble_eq_true rfl⟩ hK hZ hP hD hS hA rfl rfl rfl rfl hl.1 rfl (Nat.le_of_ble_eq_true rfl) dX8_pact_66 rfl (fun H locs hP hD hS => ?_)
        refine lv_if_eq (tgt := 115) hx hb dX8_pact_69 (by decide) (fun hc18 => ?_) (fun hc18 => ?_)
        · have hf := ip_el hc18 hf
          obtain ⟨v19, hv19, hf⟩ := lt_el hf
          refine lv_iinc (v := v19) (lv' := [(5, .int v19), (0, .ref (a 0)), (1, .int y1), (2, .int y2), (3, .int y3), (4, .int y4)]) hx hb dX8_pact_115 hl (k := 5) rfl (by rw [hv19]; rfl) (by decide) rfl (fun ls hl => ?_)
          refine lv_goto (tgt := 43) hx hb dX8_pact_118 (by decide) ?_
          exact hk43 y1 y2 y3 y4 v19 M _ _ _ hP hD hS (lv_sub hl [1, 2, 3, 4, 5, 0] rfl) hf
        · have hf := in_el hc18 hf
          refine lv_aload_n hx hb dX8_pact_72 rfl (lv_at hl 0 rfl) ?_
          refine lv_iload hx hb dX8_pact_73 (lv_at hl 4 rfl) ?_
          refine lv_iload hx hb dX8_pact_75 (lv_at hl 5 rfl) ?_
          refine lv_iload_n hx hb dX8_pact_77 rfl (lv_at hl 1 rfl) ?_
          obtain ⟨r20, M_21, hg22, hf⟩ := b2_el hf
          refine cc_V1 (w' := (kX8 cs a (.ref (nn 0)) M_21)) (st1 := [.int r20]) [.int y4, .int y5, .int y1] hx hb hml hown hu (tX8_keptBy l D cs a nn y4 y5 y1 M r20 M_21 hg22) q1227 q62 q1224 q1226 q44 pdX8_keptBy ⟨rfl, rfl, Nat.le_of_ble_eq_true rfl, Nat.le_of_ble_eq_true rfl⟩ hK hZ hP hD hS hA rfl rfl rfl rfl hl.1 rfl (Nat.le_of_ble_eq_true rfl) dX8_pact_78 rfl (fun H locs hP hD hS => ?_)
          refine lv_aload_n hx hb dX8_pact_81 rfl (lv_at hl 0 rfl) ?_
          refine lv_iload hx hb dX8_pact_82 (lv_at hl 5 rfl) ?_
          refine lv_iload hx hb dX8_pact_84 (lv_at hl 4 rfl) ?_
          refine lv_iload_n hx hb dX8_pact_86 rfl (lv_at hl 1 rfl) ?_
          obtain ⟨r23, M_24, hg25, hf⟩ := b2_el hf
          refine cc_V1 (w' := (kX8 cs a (.ref (nn 0)) M_24)) (st1 := [.int r23, .int r20]) [.int y5, .int y4, .int y1] hx hb hml hown hu (tX8_keptBy l D cs a nn y5 y4 y1 M_21 r23 M_24 hg25) q1227 q62 q1224 q1226 q44 pdX8_keptBy ⟨rfl, rfl, Nat.le_of_ble_eq_true rfl, Nat.le_of_ble_eq_true rfl⟩ hK hZ hP hD hS hA rfl rfl rfl rfl hl.1 rfl (Nat.le_of_ble_eq_true rfl) dX8_pact_87 rfl (fun H locs hP hD hS => ?_)
          refine lv_iadd hx hb dX8_pact_90 ?_
          obtain ⟨v26, hv26, hf⟩ := lt_el hf
          refine lv_tope hv26 ?_
          refine lv_istore (lv' := [(6, .int v26), (0, .ref (a 0)), (1, .int y1), (2, .int y2), (3, .int y3), (4, .int y4), (5, .int y5)]) hx hb dX8_pact_91 hl (by decide) rfl (fun ls hl => ?_)
          refine lv_iload_n hx hb dX8_pact_93 rfl (lv_at hl 3 rfl) ?_
          refine lv_if_lt (tgt := 103) hx hb dX8_pact_94 (by decide) (fun hc27 => ?_) (fun hc27 => ?_)
          · have hf := ip_el hc27 hf
            exact h103 k26 hk26 k43 hk43 y1 y4 y5 v26 M_24 _ _ _ hP hD hS (lv_sub hl [1, 2, 5, 6, 0] rfl) hf
          · have hf := in_el hc27 hf
            refine lv_iload hx hb dX8_pact_97 (lv_at hl 0 rfl) ?_
            refine lv_iload_n hx hb dX8_pact_99 rfl (lv_at hl 4 rfl) ?_
            refine lv_icmp_le (tgt := 115) hx hb dX8_pact_100 (by decide) (fun hc30 => ?_) (fun hc30 => ?_)
            · have hf := ip_el hc30 hf
              obtain ⟨v31, hv31, hf⟩ := lt_el hf
              refine lv_iinc (v := v31) (lv' := [(5, .int v31), (6, .int v26), (0, .ref (a 0)), (1, .int y1), (2, .int y2), (3, .int y3), (4, .int y4)]) hx hb dX8_pact_115 hl (k := 6) rfl (by rw [hv31]; rfl) (by decide) rfl (fun ls hl => ?_)
              refine lv_goto (tgt := 43) hx hb dX8_pact_118 (by decide) ?_
              exact hk43 y1 y2 y3 y4 v31 M_24 _ _ _ hP hD hS (lv_sub hl [2, 3, 4, 5, 6, 0] rfl) hf
            · have hf := in_el hc30 hf
              exact h103 k26 hk26 k43 hk43 y1 y4 y5 v26 M_24 _ _ _ hP hD hS (lv_sub hl [1, 2, 5, 6, 0] rfl) hf
  have h43 : ∀ (k26 : Int32 → Int32 → Int32 → Int32 → ST → Option (Int32 × ST)), (∀ (y1 : Int32) (y2 : Int32) (y3 : Int32) (y4 : Int32) (M : ST) (H : Heap) (locs : List Loc) (ls : Array Slot), va_P D vwCl (kX8 cs a (.ref (nn 0)) M) H → va_D A (kX8 cs a (.ref (nn 0)) M) → va_S A s.heap H locs → lv_has ls 7 [(0, .ref (a 0)), (1, .int y1), (2, .int y2), (3, .int y3), (4, .int y4)] → k26 y1 y2 y3 y4 M = some (r0, Mz) → W p l e rmX8_pact s m [.ref (a 0), .int x1].toArray below meth c H locs 0 0 Q (F0 m 26 ls [])) → ∀ (n : Nat), ∀ (y1 : Int32) (y2 : Int32) (y3 : Int32) (y4 : Int32) (y5 : Int32) (M : ST) (H : Heap) (locs : List Loc) (ls : Array Slot), va_P D vwCl (kX8 cs a (.ref (nn 0)) M) H → va_D A (kX8 cs a (.ref (nn 0)) M) → va_S A s.heap H locs → lv_has ls 7 [(0, .ref (a 0)), (1, .int y1), (2, .int y2), (3, .int y3), (4, .int y4), (5, .int y5)] → fX8_pact_43 k26 n y1 y2 y3 y4 y5 M = some (r0, Mz) → W p l e rmX8_pact s m [.ref (a 0), .int x1].toArray below meth c H locs 0 0 Q (F0 m 43 ls []) := by
    intro k26 hk26 n
    induction n with
    | zero => intro y1 y2 y3 y4 y5 M H locs ls hP hD hS hl hf; exact no_el hf
    | succ n ih => intro y1 y2 y3 y4 y5 M H locs ls hP hD hS hl hf; exact hs43 k26 hk26 _ ih y1 y2 y3 y4 y5 M _ _ _ hP hD hS hl hf
  have hs26 : ∀ (k26 : Int32 → Int32 → Int32 → Int32 → ST → Option (Int32 × ST)), (∀ (y1 : Int32) (y2 : Int32) (y3 : Int32) (y4 : Int32) (M : ST) (H : Heap) (locs : List Loc) (ls : Array Slot), va_P D vwCl (kX8 cs a (.ref (nn 0)) M) H → va_D A (kX8 cs a (.ref (nn 0)) M) → va_S A s.heap H locs → lv_has ls 7 [(0, .ref (a 0)), (1, .int y1), (2, .int y2), (3, .int y3), (4, .int y4)] → k26 y1 y2 y3 y4 M = some (r0, Mz) → W p l e rmX8_pact s m [.ref (a 0), .int x1].toArray below meth c H locs 0 0 Q (F0 m 26 ls [])) → ∀ (y1 : Int32) (y2 : Int32) (y3 : Int32) (y4 : Int32) (M : ST) (H : Heap) (locs : List Loc) (ls : Array Slot), va_P D vwCl (kX8 cs a (.ref (nn 0)) M) H → va_D A (kX8 cs a (.ref (nn 0)) M) → va_S A s.heap H locs → lv_has ls 7 [(0, .ref (a 0)), (1, .int y1), (2, .int y2), (3, .int y3), (4, .int y4)] → fX8_pact_26_s k26 y1 y2 y3 y4 M = some (r0, Mz) → W p l e rmX8_pact s m [.ref (a 0), .int x1].toArray below meth c H locs 0 0 Q (F0 m 26 ls []) := by
    intro k26 hk26 y1 y2 y3 y4 M H locs ls hP hD hS hl hf
    unfold fX8_pact_26_s at hf
    refine lv_iload hx hb dX8_pact_26 (lv_at hl 4 rfl) ?_
    refine lv_aload_n hx hb dX8_pact_28 rfl (lv_at hl 0 rfl) ?_
    refine va_get (D := D) (ci := 8) (v := .ref (a 1)) (C := RX8) (T := TX8) (N := 26) hx hb hu inX8 hown hK.1 hP 0 rfl rfl 0 (by decide) (hu _ q917) (fun _ h9 => h9) rfl dX8_pact_29 ?_
    refine lv_iconst (v := 0) hx hb dX8_pact_32 (by decide) ?_
    refine ia_lit hx hb hK hP 1 0 rfl (by decide) dX8_pact_33 ?_
    refine lv_icmp_ge (tgt := 127) hx hb dX8_pact_34 (by decide) (fun hc4 => ?_) (fun hc4 => ?_)
    · have hf := ip_el hc4 hf
      refine lv_iload_n hx hb dX8_pact_127 rfl (lv_at hl 2 rfl) ?_
      refine lv_if_ge (tgt := 140) hx hb dX8_pact_128 (by decide) (fun hc5 => ?_) (fun hc5 => ?_)
      · have hf := ip_el hc5 hf
        refine lv_iload_n hx hb dX8_pact_140 rfl (lv_at hl 2 rfl) ?_
        have he := Option.some.inj hf
        obtain ⟨e0, e1⟩ := Prod.mk.inj he
        exact hri _ _ _ rfl (congrArg (fun z => some (Value.int z)) e0.symm) dX8_pact_141 _ _ _ (by rw [e1]) hP hD hS
      · have hf := in_el hc5 hf
        refine lv_aload_n hx hb dX8_pact_131 rfl (lv_at hl 0 rfl) ?_
        refine lv_ldc (v := (-1000000004)) hx hb hown (hu _ q1195) dX8_pact_132 ?_
        obtain ⟨r6, M_7, hg8, hf⟩ := b2_el hf
        refine cc_V1 (w' := (kX8 cs a (.ref (nn 0)) M_7)) (st1 := [.int r6]) [.int (-1000000004)] hx hb hml hown hu (tX8_finds l D cs a nn (-1000000004) M r6 M_7 hg8) q1012 q62 q1009 q1011 q19 pdX8_finds ⟨rfl, rfl, Nat.le_of_ble_eq_true rfl, Nat.le_of_ble_eq_true rfl⟩ hK hZ hP hD hS hA rfl rfl rfl rfl hl.1 rfl (Nat.le_of_ble_eq_true rfl) dX8_pact_134 rfl (fun H locs hP hD hS => ?_)
        refine lv_goto (tgt := 141) hx hb dX8_pact_137 (by decide) ?_
        have he := Option.some.inj hf
        obtain ⟨e0, e1⟩ := Prod.mk.inj he
        exact hri _ _ _ rfl (congrArg (fun z => some (Value.int z)) e0.symm) dX8_pact_141 _ _ _ (by rw [e1]) hP hD hS
    · have hf := in_el hc4 hf
      refine lv_iload hx hb dX8_pact_37 (lv_at hl 4 rfl) ?_
      refine lv_iconst (v := 1) hx hb dX8_pact_39 (by decide) ?_
      refine lv_iadd hx hb dX8_pact_40 ?_
      obtain ⟨v9, hv9, hf⟩ := lt_el hf
      refine lv_tope hv9 ?_
      refine lv_istore (lv' := [(5, .int v9), (0, .ref (a 0)), (1, .int y1), (2, .int y2), (3, .int y3), (4, .int y4)]) hx hb dX8_pact_41 hl (by decide) rfl (fun ls hl => ?_)
      exact h43 k26 hk26 400 y1 y2 y3 y4 v9 M _ _ _ hP hD hS (lv_sub hl [1, 2, 3, 4, 5, 0] rfl) hf
  have h26 : ∀ (n : Nat), ∀ (y1 : Int32) (y2 : Int32) (y3 : Int32) (y4 : Int32) (M : ST) (H : Heap) (locs : List Loc) (ls : Array Slot), va_P D vwCl (kX8 cs a (.ref (nn 0)) M) H → va_D A (kX8 cs a (.ref (nn 0)) M) → va_S A s.heap H locs → lv_has ls 7 [(0, .ref (a 0)), (1, .int y1), (2, .int y2), (3, .int y3), (4, .int y4)] → fX8_pact_26 n y1 y2 y3 y4 M = some (r0, Mz) → W p l e rmX8_pact s m [.ref (a 0), .int x1].toArray below meth c H locs 0 0 Q (F0 m 26 ls []) := by
    intro n
    induction n with
    | zero => intro y1 y2 y3 y4 M H locs ls hP hD hS hl hf; exact no_el hf
    | succ n ih => intro y1 y2 y3 y4 M H locs ls hP hD hS hl hf; exact hs26 _ ih y1 y2 y3 y4 M _ _ _ hP hD hS hl hf
  have hl : lv_has ls0 7 [(0, .ref (a 0)), (1, .int x1)] := hl0
  have hP := hP0
  have hD := hD0
  have hS := hS0
  unfold fX8_pact at hf
  refine lv_iload_n hx hb dX8_pact_0 rfl (lv_at hl 1 rfl) ?_
  refine lv_i2l (v := (x1.toInt64)) hx hb dX8_pact_1 rfl ?_
  refine lv_lconst (v := 1) hx hb dX8_pact_2 (by decide) ?_
  refine lv_ldc2 (v := 40) hx hb hown (hu _ q1118) dX8_pact_3 ?_
  obtain ⟨r1, hg2, hf⟩ := b1_el hf
  refine cc_S0 (st1 := [.int r1]) [.long (x1.toInt64), .long 1, .long 40] hx hb hml hown hu (tX8_isIn l D cs (x1.toInt64) 1 40 r1 hg2) q1004 q62 q1002 q1003 pdX8_isIn ⟨rfl, rfl, Nat.le_of_ble_eq_true rfl, Nat.le_of_ble_eq_true rfl⟩ hK hZ hP hD hS hA rfl hl.1 rfl (Nat.le_of_ble_eq_true rfl) dX8_pact_6 rfl (fun H locs hP hD hS => ?_)
  refine lv_if_ne (tgt := 19) hx hb dX8_pact_9 (by decide) (fun hc3 => ?_) (fun hc3 => ?_)
  · have hf := in_el hc3 hf
    refine lv_iconst (v := (-1)) hx hb dX8_pact_19 (by decide) ?_
    refine lv_istore_n (lv' := [(2, .int (-1)), (0, .ref (a 0)), (1, .int x1)]) hx hb dX8_pact_20 rfl hl (by decide) rfl (fun ls hl => ?_)
    refine lv_iconst (v := 0) hx hb dX8_pact_21 (by decide) ?_
    refine lv_istore_n (lv' := [(3, .int 0), (2, .int (-1)), (0, .ref (a 0)), (1, .int x1)]) hx hb dX8_pact_22 rfl hl (by decide) rfl (fun ls hl => ?_)
    refine lv_iconst (v := 0) hx hb dX8_pact_23 (by decide) ?_
    refine lv_istore (lv' := [(4, .int 0), (3, .int 0), (2, .int (-1)), (0, .ref (a 0)), (1, .int x1)]) hx hb dX8_pact_24 hl (by decide) rfl (fun ls hl => ?_)
    exact h26 400 x1 (-1) 0 0 M _ _ _ hP hD hS (lv_sub hl [3, 4, 2, 1, 0] rfl) hf
  · have hf := ip_el hc3 hf
    refine lv_aload_n hx hb dX8_pact_12 rfl (lv_at hl 0 rfl) ?_
    refine lv_ldc (v := (-1000000001)) hx hb hown (hu _ q1008) dX8_pact_13 ?_
    obtain ⟨r32, M_33, hg34, hf⟩ := b2_el hf
    refine cc_V1 (w' := (kX8 cs a (.ref (nn 0)) M_33)) (st1 := [.int r32]) [.int (-1000000001)] hx hb hml hown hu (tX8_finds l D cs a nn (-1000000001) M r32 M_33 hg34) q1012 q62 q1009 q1011 q19 pdX8_finds ⟨rfl, rfl, Nat.le_of_ble_eq_true rfl, Nat.le_of_ble_eq_true rfl⟩ hK hZ hP hD hS hA rfl rfl rfl rfl hl.1 rfl (Nat.le_of_ble_eq_true rfl) dX8_pact_15 rfl (fun H locs hP hD hS => ?_)
    have he := Option.some.inj hf
    obtain ⟨e0, e1⟩ := Prod.mk.inj he
    exact hri _ _ _ rfl (congrArg (fun z => some (Value.int z)) e0.symm) dX8_pact_18 _ _ _ (by rw [e1]) hP hD hS

def fX8_odds_20 (M : ST) : Option (Int32 × ST) :=
  dc_b2 (fX8_finds (-1000000001) M) (fun r4 M_5 => some (r4, M_5))
def fX8_odds_110 (k44 : Int32 → Int32 → Int32 → Int32 → Int32 → ST → Option (Int32 × ST)) (y1 : Int32) (y2 : Int32) (y5 : Int32) (s0 : Int32) (s1 : Int32) (M : ST) : Option (Int32 × ST) :=
  dc_lt (s1 + s0) (fun v17 => dc_lt (M 1 3) (fun v18 => dc_b1 (fX8_laysBack M) (fun M_19 => dc_lt (y5 + 1) (fun v21 => k44 y1 y2 v17 v18 v21 M_19))))
def fX8_odds_89 (k44 : Int32 → Int32 → Int32 → Int32 → Int32 → ST → Option (Int32 × ST)) (y1 : Int32) (y2 : Int32) (y3 : Int32) (y5 : Int32) (y6 : Int32) (M : ST) : Option (Int32 × ST) :=
  (if y6 = 0 then fX8_odds_110 k44 y1 y2 y5 0 y3 M else (if (M 1 1) = y1 then fX8_odds_110 k44 y1 y2 y5 1 y3 M else fX8_odds_110 k44 y1 y2 y5 0 y3 M))
def fX8_odds_64_s (k44 : Int32 → Int32 → Int32 → Int32 → Int32 → ST → Option (Int32 × ST)) (k64 : Int32 → Int32 → Int32 → Int32 → Int32 → Int32 → ST → Option (Int32 × ST)) (y1 : Int32) (y2 : Int32) (y3 : Int32) (y5 : Int32) (y6 : Int32) (y7 : Int32) (M : ST) : Option (Int32 × ST) :=
  (if 200 ≤ y7 then fX8_odds_89 k44 y1 y2 y3 y5 y6 M else (if y6 = 0 then dc_b2 (fX8_year M) (fun r24 M_25 => dc_lt (y7 + 1) (fun v27 => k64 y1 y2 y3 y5 r24 v27 M_25)) else fX8_odds_89 k44 y1 y2 y3 y5 y6 M))
def fX8_odds_64 (k44 : Int32 → Int32 → Int32 → Int32 → Int32 → ST → Option (Int32 × ST)) : Nat → Int32 → Int32 → Int32 → Int32 → Int32 → Int32 → ST → Option (Int32 × ST)
  | 0 => fun _ _ _ _ _ _ _ => none
  | n + 1 => fX8_odds_64_s k44 (fX8_odds_64 k44 n)
def fX8_odds_44_s (k44 : Int32 → Int32 → Int32 → Int32 → Int32 → ST → Option (Int32 × ST)) (y1 : Int32) (y2 : Int32) (y3 : Int32) (y4 : Int32) (y5 : Int32) (M : ST) : Option (Int32 × ST) :=
  (if y2 ≤ y5 then some (y3, M) else dc_lt (sti M 1 3 y4) (fun M_14 => fX8_odds_64 k44 400 y1 y2 y3 y5 0 0 M_14))
def fX8_odds_44 : Nat → Int32 → Int32 → Int32 → Int32 → Int32 → ST → Option (Int32 × ST)
  | 0 => fun _ _ _ _ _ _ => none
  | n + 1 => fX8_odds_44_s (fX8_odds_44 n)
def fX8_odds (x1 : Int32) (x2 : Int32) (M : ST) : Option (Int32 × ST) :=
  dc_b1 (fX8_isPerson x1 M) (fun r1 => (if r1 = 0 then fX8_odds_20 M else dc_b1 (fX8_isIn (x2.toInt64) 1 40) (fun r7 => (if r7 = 0 then fX8_odds_20 M else dc_b1 (fX8_laysBy M) (fun M_10 => dc_lt (M_10 1 3) (fun v12 => fX8_odds_44 400 x1 x2 0 v12 0 M_10))))))
abbrev rmX8_odds : Room := { frames := 13, cells := 0, slots := 0, locals := 314 }
set_option maxRecDepth 100000 in
set_option maxHeartbeats 4000000 in
theorem tX8_odds (l : Launch) (D : va_G) (cs : Nat → ClassId) (a : Nat → Nat) (nn : Nat → Nat) (x1 : Int32) (x2 : Int32) (M : ST) (r0 : Int32) (Mz : ST) (hf : fX8_odds x1 x2 M = some (r0, Mz)) : CG l yX8_odds (wsm yX8_odds cX8_odds 8 (some .int)) rmX8_odds D cs [.ref (a 0), .int x1, .int x2] (some (.int r0)) (kX8 cs a (.ref (nn 0)) M) (kX8 cs a (.ref (nn 0)) Mz) := by
  refine CG.intro (by decide) (Nat.le_of_ble_eq_true rfl) ?_
  intro p e s m below meth c A Q hx hb hml hown hu hK hZ hP0 hD0 hS0 hA hri hrz hrl hrv hra ls0 hl0
  have h20 : ∀ (M : ST) (H : Heap) (locs : List Loc) (ls : Array Slot), va_P D vwCl (kX8 cs a (.ref (nn 0)) M) H → va_D A (kX8 cs a (.ref (nn 0)) M) → va_S A s.heap H locs → lv_has ls 8 [(0, .ref (a 0))] → fX8_odds_20 M = some (r0, Mz) → W p l e rmX8_odds s m [.ref (a 0), .int x1, .int x2].toArray below meth c H locs 0 0 Q (F0 m 20 ls []) := by
    intro M H locs ls hP hD hS hl hf
    unfold fX8_odds_20 at hf
    refine lv_aload_n hx hb dX8_odds_20 rfl (lv_at hl 0 rfl) ?_
    refine lv_ldc (v := (-1000000001)) hx hb hown (hu _ q1008) dX8_odds_21 ?_
    obtain ⟨r4, M_5, hg6, hf⟩ := b2_el hf
    refine cc_V1 (w' := (kX8 cs a (.ref (nn 0)) M_5)) (st1 := [.int r4]) [.int (-1000000001)] hx hb hml hown hu (tX8_finds l D cs a nn (-1000000001) M r4 M_5 hg6) q1012 q62 q1009 q1011 q19 pdX8_finds ⟨rfl, rfl, Nat.le_of_ble_eq_true rfl, Nat.le_of_ble_eq_true rfl⟩ hK hZ hP hD hS hA rfl rfl rfl rfl hl.1 rfl (Nat.le_of_ble_eq_true rfl) dX8_odds_23 rfl (fun H locs hP hD hS => ?_)
    have he := Option.some.inj hf
    obtain ⟨e0, e1⟩ := Prod.mk.inj he
    exact hri _ _ _ rfl (congrArg (fun z => some (Value.int z)) e0.symm) dX8_odds_26 _ _ _ (by rw [e1]) hP hD hS
  have h110 : ∀ (k44 : Int32 → Int32 → Int32 → Int32 → Int32 → ST → Option (Int32 × ST)), (∀ (y1 : Int32) (y2 : Int32) (y3 : Int32) (y4 : Int32) (y5 : Int32) (M : ST) (H : Heap) (locs : List Loc) (ls : Array Slot), va_P D vwCl (kX8 cs a (.ref (nn 0)) M) H → va_D A (kX8 cs a (.ref (nn 0)) M) → va_S A s.heap H locs → lv_has ls 8 [(0, .ref (a 0)), (1, .int y1), (2, .int y2), (3, .int y3), (4, .int y4), (5, .int y5)] → k44 y1 y2 y3 y4 y5 M = some (r0, Mz) → W p l e rmX8_odds s m [.ref (a 0), .int x1, .int x2].toArray below meth c H locs 0 0 Q (F0 m 44 ls [])) → ∀ (y1 : Int32) (y2 : Int32) (y5 : Int32) (s0 : Int32) (s1 : Int32) (M : ST) (H : Heap) (locs : List Loc) (ls : Array Slot), va_P D vwCl (kX8 cs a (.ref (nn 0)) M) H → va_D A (kX8 cs a (.ref (nn 0)) M) → va_S A s.heap H locs → lv_has ls 8 [(0, .ref (a 0)), (1, .int y1), (2, .int y2), (5, .int y5)] → fX8_odds_110 k44 y1 y2 y5 s0 s1 M = some (r0, Mz) → W p l e rmX8_odds s m [.ref (a 0), .int x1, .int x2].toArray below meth c H locs 0 0 Q (F0 m 110 ls [.int s0, .int s1]) := by
    intro k44 hk44 y1 y2 y5 s0 s1 M H locs ls hP hD hS hl hf
    unfold fX8_odds_110 at hf
    refine lv_iadd hx hb dX8_odds_110 ?_
    obtain ⟨v17, hv17, hf⟩ := lt_el hf
    refine lv_tope hv17 ?_
    refine lv_istore_n (lv' := [(3, .int v17), (0, .ref (a 0)), (1, .int y1), (2, .int y2), (5, .int y5)]) hx hb dX8_odds_111 rfl hl (by decide) rfl (fun ls hl => ?_)
    refine lv_aload_n hx hb dX8_odds_112 rfl (lv_at hl 1 rfl) ?_
    refine va_get (D := D) (ci := 8) (v := .ref (a 1)) (C := RX8) (T := TX8) (N := 26) hx hb hu inX8 hown hK.1 hP 0 rfl rfl 0 (by decide) (hu _ q917) (fun _ h9 => h9) rfl dX8_odds_113 ?_
    refine lv_iconst (v := 3) hx hb dX8_odds_116 (by decide) ?_
    refine ia_lit hx hb hK hP 1 3 rfl (by decide) dX8_odds_117 ?_
    obtain ⟨v18, hv18, hf⟩ := lt_el hf
    refine lv_tope hv18 ?_
    refine lv_istore (lv' := [(4, .int v18), (3, .int v17), (0, .ref (a 0)), (1, .int y1), (2, .int y2), (5, .int y5)]) hx hb dX8_odds_118 hl (by decide) rfl (fun ls hl => ?_)
    refine lv_aload_n hx hb dX8_odds_120 rfl (lv_at hl 2 rfl) ?_
    obtain ⟨M_19, hg20, hf⟩ := b1_el hf
    refine cc_V1 (w' := (kX8 cs a (.ref (nn 0)) M_19)) (st1 := []) [] hx hb hml hown hu (tX8_laysBack l D cs a nn M M_19 hg20) q1182 q62 q1179 q1181 q40 pdX8_laysBack ⟨rfl, rfl, Nat.le_of_ble_eq_true rfl, Nat.le_of_ble_eq_true rfl⟩ hK hZ hP hD hS hA rfl rfl rfl rfl hl.1 rfl (Nat.le_of_ble_eq_true rfl) dX8_odds_121 rfl (fun H locs hP hD hS => ?_)
    obtain ⟨v21, hv21, hf⟩ := lt_el hf
    refine lv_iinc (v := v21) (lv' := [(5, .int v21), (4, .int v18), (3, .int v17), (0, .ref (a 0)), (1, .int y1), (2, .int y2)]) hx hb dX8_odds_124 hl (k := 5) rfl (by rw [hv21]; rfl) (by decide) rfl (fun ls hl => ?_)
    refine lv_goto (tgt := 44) hx hb dX8_odds_127 (by decide) ?_
    exact hk44 y1 y2 v17 v18 v21 M_19 _ _ _ hP hD hS (lv_sub hl [3, 4, 5, 2, 1, 0] rfl) hf
  have h89 : ∀ (k44 : Int32 → Int32 → Int32 → Int32 → Int32 → ST → Option (Int32 × ST)), (∀ (y1 : Int32) (y2 : Int32) (y3 : Int32) (y4 : Int32) (y5 : Int32) (M : ST) (H : Heap) (locs : List Loc) (ls : Array Slot), va_P D vwCl (kX8 cs a (.ref (nn 0)) M) H → va_D A (kX8 cs a (.ref (nn 0)) M) → va_S A s.heap H locs → lv_has ls 8 [(0, .ref (a 0)), (1, .int y1), (2, .int y2), (3, .int y3), (4, .int y4), (5, .int y5)] → k44 y1 y2 y3 y4 y5 M = some (r0, Mz) → W p l e rmX8_odds s m [.ref (a 0), .int x1, .int x2].toArray below meth c H locs 0 0 Q (F0 m 44 ls [])) → ∀ (y1 : Int32) (y2 : Int32) (y3 : Int32) (y5 : Int32) (y6 : Int32) (M : ST) (H : Heap) (locs : List Loc) (ls : Array Slot), va_P D vwCl (kX8 cs a (.ref (nn 0)) M) H → va_D A (kX8 cs a (.ref (nn 0)) M) → va_S A s.heap H locs → lv_has ls 8 [(0, .ref (a 0)), (1, .int y1), (2, .int y2), (3, .int y3), (5, .int y5), (6, .int y6)] → fX8_odds_89 k44 y1 y2 y3 y5 y6 M = some (r0, Mz) → W p l e rmX8_odds s m [.ref (a 0), .int x1, .int x2].toArray below meth c H locs 0 0 Q (F0 m 89 ls []) := by
    intro k44 hk44 y1 y2 y3 y5 y6 M H locs ls hP hD hS hl hf
    unfold fX8_odds_89 at hf
    refine lv_iload_n hx hb dX8_odds_89 rfl (lv_at hl 3 rfl) ?_
    refine lv_iload hx hb dX8_odds_90 (lv_at hl 5 rfl) ?_
    refine lv_if_eq (tgt := 109) hx hb dX8_odds_92 (by decide) (fun hc16 => ?_) (fun hc16 => ?_)
    · have hf := ip_el hc16 hf
      refine lv_iconst (v := 0) hx hb dX8_odds_109 (by decide) ?_
      exact h110 k44 hk44 y1 y2 y5 0 y3 M _ _ _ hP hD hS (lv_sub hl [0, 1, 2, 4] rfl) hf
    · have hf := in_el hc16 hf
      refine lv_aload_n hx hb dX8_odds_95 rfl (lv_at hl 0 rfl) ?_
      refine va_get (D := D) (ci := 8) (v := .ref (a 1)) (C := RX8) (T := TX8) (N := 26) hx hb hu inX8 hown hK.1 hP 0 rfl rfl 0 (by decide) (hu _ q917) (fun _ h9 => h9) rfl dX8_odds_96 ?_
      refine lv_iconst (v := 1) hx hb dX8_odds_99 (by decide) ?_
      refine ia_lit hx hb hK hP 1 1 rfl (by decide) dX8_odds_100 ?_
      refine lv_iload_n hx hb dX8_odds_101 rfl (lv_at hl 1 rfl) ?_
      refine lv_icmp_ne (tgt := 109) hx hb dX8_odds_102 (by decide) (fun hc22 => ?_) (fun hc22 => ?_)
      · have hf := in_el hc22 hf
        refine lv_iconst (v := 0) hx hb dX8_odds_109 (by decide) ?_
        exact h110 k44 hk44 y1 y2 y5 0 y3 M _ _ _ hP hD hS (lv_sub hl [0, 1, 2, 4] rfl) hf
      · have hf := ip_el hc22 hf
        refine lv_iconst (v := 1) hx hb dX8_odds_105 (by decide) ?_
        refine lv_goto (tgt := 110) hx hb dX8_odds_106 (by decide) ?_
        exact h110 k44 hk44 y1 y2 y5 1 y3 M _ _ _ hP hD hS (lv_sub hl [0, 1, 2, 4] rfl) hf
  have hs64 : ∀ (k44 : Int32 → Int32 → Int32 → Int32 → Int32 → ST → Option (Int32 × ST)), (∀ (y1 : Int32) (y2 : Int32) (y3 : Int32) (y4 : Int32) (y5 : Int32) (M : ST) (H : Heap) (locs : List Loc) (ls : Array Slot), va_P D vwCl (kX8 cs a (.ref (nn 0)) M) H → va_D A (kX8 cs a (.ref (nn 0)) M) → va_S A s.heap H locs → lv_has ls 8 [(0, .ref (a 0)), (1, .int y1), (2, .int y2), (3, .int y3), (4, .int y4), (5, .int y5)] → k44 y1 y2 y3 y4 y5 M = some (r0, Mz) → W p l e rmX8_odds s m [.ref (a 0), .int x1, .int x2].toArray below meth c H locs 0 0 Q (F0 m 44 ls [])) → ∀ (k64 : Int32 → Int32 → Int32 → Int32 → Int32 → Int32 → ST → Option (Int32 × ST)), (∀ (y1 : Int32) (y2 : Int32) (y3 : Int32) (y5 : Int32) (y6 : Int32) (y7 : Int32) (M : ST) (H : Heap) (locs : List Loc) (ls : Array Slot), va_P D vwCl (kX8 cs a (.ref (nn 0)) M) H → va_D A (kX8 cs a (.ref (nn 0)) M) → va_S A s.heap H locs → lv_has ls 8 [(0, .ref (a 0)), (1, .int y1), (2, .int y2), (3, .int y3), (5, .int y5), (6, .int y6), (7, .int y7)] → k64 y1 y2 y3 y5 y6 y7 M = some (r0, Mz) → W p l e rmX8_odds s m [.ref (a 0), .int x1, .int x2].toArray below meth c H locs 0 0 Q (F0 m 64 ls [])) → ∀ (y1 : Int32) (y2 : Int32) (y3 : Int32) (y5 : Int32) (y6 : Int32) (y7 : Int32) (M : ST) (H : Heap) (locs : List Loc) (ls : Array Slot), va_P D vwCl (kX8 cs a (.ref (nn 0)) M) H → va_D A (kX8 cs a (.ref (nn 0)) M) → va_S A s.heap H locs → lv_has ls 8 [(0, .ref (a 0)), (1, .int y1), (2, .int y2), (3, .int y3), (5, .int y5), (6, .int y6), (7, .int y7)] → fX8_odds_64_s k44 k64 y1 y2 y3 y5 y6 y7 M = some (r0, Mz) → W p l e rmX8_odds s m [.ref (a 0), .int x1, .int x2].toArray below meth c H locs 0 0 Q (F0 m 64 ls []) := by
    intro k44 hk44 k64 hk64 y1 y2 y3 y5 y6 y7 M H locs ls hP hD hS hl hf
    unfold fX8_odds_64_s at hf
    refine lv_iload hx hb dX8_odds_64 (lv_at hl 6 rfl) ?_
    refine lv_sipush (v := 200) hx hb dX8_odds_66 (by decide) ?_
    refine lv_icmp_ge (tgt := 89) hx hb dX8_odds_69 (by decide) (fun hc15 => ?_) (fun hc15 => ?_)
    · have hf := ip_el hc15 hf
      exact h89 k44 hk44 y1 y2 y3 y5 y6 M _ _ _ hP hD hS (lv_sub hl [0, 1, 2, 3, 4, 5] rfl) hf
    · have hf := in_el hc15 hf
      refine lv_iload hx hb dX8_odds_72 (lv_at hl 5 rfl) ?_
      refine lv_if_ne (tgt := 89) hx hb dX8_odds_74 (by decide) (fun hc23 => ?_) (fun hc23 => ?_)
      · have hf := in_el hc23 hf
        exact h89 k44 hk44 y1 y2 y3 y5 y6 M _ _ _ hP hD hS (lv_sub hl [0, 1, 2, 3, 4, 5] rfl) hf
      · have hf := ip_el hc23 hf
        refine lv_aload_n hx hb dX8_odds_77 rfl (lv_at hl 0 rfl) ?_
        obtain ⟨r24, M_25, hg26, hf⟩ := b2_el hf
        refine cc_V1 (w' := (kX8 cs a (.ref (nn 0)) M_25)) (st1 := [.int r24]) [] hx hb hml hown hu (tX8_year l D cs a nn M r24 M_25 hg26) q1153 q62 q1150 q1152 q37 pdX8_year ⟨rfl, rfl, Nat.le_of_ble_eq_true rfl, Nat.le_of_ble_eq_true rfl⟩ hK hZ hP hD hS hA rfl rfl rfl rfl hl.1 rfl (Nat.le_of_ble_eq_true rfl) dX8_odds_78 rfl (fun H locs hP hD hS => ?_)
        refine lv_istore (lv' := [(6, .int r24), (0, .ref (a 0)), (1, .int y1), (2, .int y2), (3, .int y3), (5, .int y5), (7, .int y7)]) hx hb dX8_odds_81 hl (by decide) rfl (fun ls hl => ?_)
        obtain ⟨v27, hv27, hf⟩ := lt_el hf
        refine lv_iinc (v := v27) (lv' := [(7, .int v27), (6, .int r24), (0, .ref (a 0)), (1, .int y1), (2, .int y2), (3, .int y3), (5, .int y5)]) hx hb dX8_odds_83 hl (k := 6) rfl (by rw [hv27]; rfl) (by decide) rfl (fun ls hl => ?_)
        refine lv_goto (tgt := 64) hx hb dX8_odds_86 (by decide) ?_
        exact hk64 y1 y2 y3 y5 r24 v27 M_25 _ _ _ hP hD hS (lv_sub hl [2, 3, 4, 5, 6, 1, 0] rfl) hf
  have h64 : ∀ (k44 : Int32 → Int32 → Int32 → Int32 → Int32 → ST → Option (Int32 × ST)), (∀ (y1 : Int32) (y2 : Int32) (y3 : Int32) (y4 : Int32) (y5 : Int32) (M : ST) (H : Heap) (locs : List Loc) (ls : Array Slot), va_P D vwCl (kX8 cs a (.ref (nn 0)) M) H → va_D A (kX8 cs a (.ref (nn 0)) M) → va_S A s.heap H locs → lv_has ls 8 [(0, .ref (a 0)), (1, .int y1), (2, .int y2), (3, .int y3), (4, .int y4), (5, .int y5)] → k44 y1 y2 y3 y4 y5 M = some (r0, Mz) → W p l e rmX8_odds s m [.ref (a 0), .int x1, .int x2].toArray below meth c H locs 0 0 Q (F0 m 44 ls [])) → ∀ (n : Nat), ∀ (y1 : Int32) (y2 : Int32) (y3 : Int32) (y5 : Int32) (y6 : Int32) (y7 : Int32) (M : ST) (H : Heap) (locs : List Loc) (ls : Array Slot), va_P D vwCl (kX8 cs a (.ref (nn 0)) M) H → va_D A (kX8 cs a (.ref (nn 0)) M) → va_S A s.heap H locs → lv_has ls 8 [(0, .ref (a 0)), (1, .int y1), (2, .int y2), (3, .int y3), (5, .int y5), (6, .int y6), (7, .int y7)] → fX8_odds_64 k44 n y1 y2 y3 y5 y6 y7 M = some (r0, Mz) → W p l e rmX8_odds s m [.ref (a 0), .int x1, .int x2].toArray below meth c H locs 0 0 Q (F0 m 64 ls []) := by
    intro k44 hk44 n
    induction n with
    | zero => intro y1 y2 y3 y5 y6 y7 M H locs ls hP hD hS hl hf; exact no_el hf
    | succ n ih => intro y1 y2 y3 y5 y6 y7 M H locs ls hP hD hS hl hf; exact hs64 k44 hk44 _ ih y1 y2 y3 y5 y6 y7 M _ _ _ hP hD hS hl hf
  have hs44 : ∀ (k44 : Int32 → Int32 → Int32 → Int32 → Int32 → ST → Option (Int32 × ST)), (∀ (y1 : Int32) (y2 : Int32) (y3 : Int32) (y4 : Int32) (y5 : Int32) (M : ST) (H : Heap) (locs : List Loc) (ls : Array Slot), va_P D vwCl (kX8 cs a (.ref (nn 0)) M) H → va_D A (kX8 cs a (.ref (nn 0)) M) → va_S A s.heap H locs → lv_has ls 8 [(0, .ref (a 0)), (1, .int y1), (2, .int y2), (3, .int y3), (4, .int y4), (5, .int y5)] → k44 y1 y2 y3 y4 y5 M = some (r0, Mz) → W p l e rmX8_odds s m [.ref (a 0), .int x1, .int x2].toArray below meth c H locs 0 0 Q (F0 m 44 ls [])) → ∀ (y1 : Int32) (y2 : Int32) (y3 : Int32) (y4 : Int32) (y5 : Int32) (M : ST) (H : Heap) (locs : List Loc) (ls : Array Slot), va_P D vwCl (kX8 cs a (.ref (nn 0)) M) H → va_D A (kX8 cs a (.ref (nn 0)) M) → va_S A s.heap H locs → lv_has ls 8 [(0, .ref (a 0)), (1, .int y1), (2, .int y2), (3, .int y3), (4, .int y4), (5, .int y5)] → fX8_odds_44_s k44 y1 y2 y3 y4 y5 M = some (r0, Mz) → W p l e rmX8_odds s m [.ref (a 0), .int x1, .int x2].toArray below meth c H locs 0 0 Q (F0 m 44 ls []) := by
    intro k44 hk44 y1 y2 y3 y4 y5 M H locs ls hP hD hS hl hf
    unfold fX8_odds_44_s at hf
    refine lv_iload hx hb dX8_odds_44 (lv_at hl 5 rfl) ?_
    refine lv_iload_n hx hb dX8_odds_46 rfl (lv_at hl 2 rfl) ?_
    refine lv_icmp_ge (tgt := 130) hx hb dX8_odds_47 (by decide) (fun hc13 => ?_) (fun hc13 => ?_)
    · have hf := ip_el hc13 hf
      refine lv_iload_n hx hb dX8_odds_130 rfl (lv_at hl 3 rfl) ?_
      have he := Option.some.inj hf
      obtain ⟨e0, e1⟩ := Prod.mk.inj he
      exact hri _ _ _ rfl (congrArg (fun z => some (Value.int z)) e0.symm) dX8_odds_131 _ _ _ (by rw [e1]) hP hD hS
    · have hf := in_el hc13 hf
      refine lv_aload_n hx hb dX8_odds_50 rfl (lv_at hl 0 rfl) ?_
      refine va_get (D := D) (ci := 8) (v := .ref (a 1)) (C := RX8) (T := TX8) (N := 26) hx hb hu inX8 hown hK.1 hP 0 rfl rfl 0 (by decide) (hu _ q917) (fun _ h9 => h9) rfl dX8_odds_51 ?_
      refine lv_iconst (v := 3) hx hb dX8_odds_54 (by decide) ?_
      refine lv_iload hx hb dX8_odds_55 (lv_at hl 4 rfl) ?_
      obtain ⟨M_14, hM_14, hf⟩ := lt_el hf
      refine is_lit hx hb hK hP hD hS 1 3 rfl (by decide) dX8_odds_57 (fun H locs hP hD hS => ?_)
      have hP : va_P D vwCl (kX8 cs a (.ref (nn 0)) M_14) H := by rw [hM_14]; exact hP
      have hD : va_D A (kX8 cs a (.ref (nn 0)) M_14) := by rw [hM_14]; exact hD
      refine lv_iconst (v := 0) hx hb dX8_odds_58 (by decide) ?_
      refine lv_istore (lv' := [(6, .int 0), (0, .ref (a 0)), (1, .int y1), (2, .int y2), (3, .int y3), (4, .int y4), (5, .int y5)]) hx hb dX8_odds_59 hl (by decide) rfl (fun ls hl => ?_)
      refine lv_iconst (v := 0) hx hb dX8_odds_61 (by decide) ?_
      refine lv_istore (lv' := [(7, .int 0), (6, .int 0), (0, .ref (a 0)), (1, .int y1), (2, .int y2), (3, .int y3), (4, .int y4), (5, .int y5)]) hx hb dX8_odds_62 hl (by decide) rfl (fun ls hl => ?_)
      exact h64 k44 hk44 400 y1 y2 y3 y5 0 0 M_14 _ _ _ hP hD hS (lv_sub hl [2, 3, 4, 5, 7, 1, 0] rfl) hf
  have h44 : ∀ (n : Nat), ∀ (y1 : Int32) (y2 : Int32) (y3 : Int32) (y4 : Int32) (y5 : Int32) (M : ST) (H : Heap) (locs : List Loc) (ls : Array Slot), va_P D vwCl (kX8 cs a (.ref (nn 0)) M) H → va_D A (kX8 cs a (.ref (nn 0)) M) → va_S A s.heap H locs → lv_has ls 8 [(0, .ref (a 0)), (1, .int y1), (2, .int y2), (3, .int y3), (4, .int y4), (5, .int y5)] → fX8_odds_44 n y1 y2 y3 y4 y5 M = some (r0, Mz) → W p l e rmX8_odds s m [.ref (a 0), .int x1, .int x2].toArray below meth c H locs 0 0 Q (F0 m 44 ls []) := by
    intro n
    induction n with
    | zero => intro y1 y2 y3 y4 y5 M H locs ls hP hD hS hl hf; exact no_el hf
    | succ n ih => intro y1 y2 y3 y4 y5 M H locs ls hP hD hS hl hf; exact hs44 _ ih y1 y2 y3 y4 y5 M _ _ _ hP hD hS hl hf
  have hl : lv_has ls0 8 [(0, .ref (a 0)), (1, .int x1), (2, .int x2)] := hl0
  have hP := hP0
  have hD := hD0
  have hS := hS0
  unfold fX8_odds at hf
  refine lv_aload_n hx hb dX8_odds_0 rfl (lv_at hl 0 rfl) ?_
  refine lv_iload_n hx hb dX8_odds_1 rfl (lv_at hl 1 rfl) ?_
  obtain ⟨r1, hg2, hf⟩ := b1_el hf
  refine cc_V1 (w' := (kX8 cs a (.ref (nn 0)) M)) (st1 := [.int r1]) [.int x1] hx hb hml hown hu (tX8_isPerson l D cs a nn x1 M r1 hg2) q1021 q62 q1018 q1020 q20 pdX8_isPerson ⟨rfl, rfl, Nat.le_of_ble_eq_true rfl, Nat.le_of_ble_eq_true rfl⟩ hK hZ hP hD hS hA rfl rfl rfl rfl hl.1 rfl (Nat.le_of_ble_eq_true rfl) dX8_odds_2 rfl (fun H locs hP hD hS => ?_)
  refine lv_if_eq (tgt := 20) hx hb dX8_odds_5 (by decide) (fun hc3 => ?_) (fun hc3 => ?_)
  · have hf := ip_el hc3 hf
    exact h20 M _ _ _ hP hD hS (lv_sub hl [0] rfl) hf
  · have hf := in_el hc3 hf
    refine lv_iload_n hx hb dX8_odds_8 rfl (lv_at hl 2 rfl) ?_
    refine lv_i2l (v := (x2.toInt64)) hx hb dX8_odds_9 rfl ?_
    refine lv_lconst (v := 1) hx hb dX8_odds_10 (by decide) ?_
    refine lv_ldc2 (v := 40) hx hb hown (hu _ q1118) dX8_odds_11 ?_
    obtain ⟨r7, hg8, hf⟩ := b1_el hf
    refine cc_S0 (st1 := [.int r7]) [.long (x2.toInt64), .long 1, .long 40] hx hb hml hown hu (tX8_isIn l D cs (x2.toInt64) 1 40 r7 hg8) q1004 q62 q1002 q1003 pdX8_isIn ⟨rfl, rfl, Nat.le_of_ble_eq_true rfl, Nat.le_of_ble_eq_true rfl⟩ hK hZ hP hD hS hA rfl hl.1 rfl (Nat.le_of_ble_eq_true rfl) dX8_odds_14 rfl (fun H locs hP hD hS => ?_)
    refine lv_if_ne (tgt := 27) hx hb dX8_odds_17 (by decide) (fun hc9 => ?_) (fun hc9 => ?_)
    · have hf := in_el hc9 hf
      refine lv_aload_n hx hb dX8_odds_27 rfl (lv_at hl 0 rfl) ?_
      obtain ⟨M_10, hg11, hf⟩ := b1_el hf
      refine cc_V1 (w' := (kX8 cs a (.ref (nn 0)) M_10)) (st1 := []) [] hx hb hml hown hu (tX8_laysBy l D cs a nn M M_10 hg11) q1178 q62 q1175 q1177 q39 pdX8_laysBy ⟨rfl, rfl, Nat.le_of_ble_eq_true rfl, Nat.le_of_ble_eq_true rfl⟩ hK hZ hP hD hS hA rfl rfl rfl rfl hl.1 rfl (Nat.le_of_ble_eq_true rfl) dX8_odds_28 rfl (fun H locs hP hD hS => ?_)
      refine lv_iconst (v := 0) hx hb dX8_odds_31 (by decide) ?_
      refine lv_istore_n (lv' := [(3, .int 0), (0, .ref (a 0)), (1, .int x1), (2, .int x2)]) hx hb dX8_odds_32 rfl hl (by decide) rfl (fun ls hl => ?_)
      refine lv_aload_n hx hb dX8_odds_33 rfl (lv_at hl 1 rfl) ?_
      refine va_get (D := D) (ci := 8) (v := .ref (a 1)) (C := RX8) (T := TX8) (N := 26) hx hb hu inX8 hown hK.1 hP 0 rfl rfl 0 (by decide) (hu _ q917) (fun _ h9 => h9) rfl dX8_odds_34 ?_
      refine lv_iconst (v := 3) hx hb dX8_odds_37 (by decide) ?_
      refine ia_lit hx hb hK hP 1 3 rfl (by decide) dX8_odds_38 ?_
      obtain ⟨v12, hv12, hf⟩ := lt_el hf
      refine lv_tope hv12 ?_
      refine lv_istore (lv' := [(4, .int v12), (3, .int 0), (0, .ref (a 0)), (1, .int x1), (2, .int x2)]) hx hb dX8_odds_39 hl (by decide) rfl (fun ls hl => ?_)
      refine lv_iconst (v := 0) hx hb dX8_odds_41 (by decide) ?_
      refine lv_istore (lv' := [(5, .int 0), (4, .int v12), (3, .int 0), (0, .ref (a 0)), (1, .int x1), (2, .int x2)]) hx hb dX8_odds_42 hl (by decide) rfl (fun ls hl => ?_)
      exact h44 400 x1 x2 0 v12 0 M_10 _ _ _ hP hD hS (lv_sub hl [3, 4, 5, 2, 1, 0] rfl) hf
    · have hf := ip_el hc9 hf
      exact h20 M _ _ _ hP hD hS (lv_sub hl [0] rfl) hf

def fX8_read_87 (N : LT) (y2 : Int32) (M : ST) : Option (Int32 × ST) :=
  dc_b1 (fX8_laysBack M) (fun M_10 => some (y2, M_10))
def fX8_read_39_s (N : LT) (k39 : Int32 → Int32 → Int32 → ST → Option (Int32 × ST)) (y1 : Int32) (y2 : Int32) (y3 : Int32) (M : ST) : Option (Int32 × ST) :=
  dc_ck y1 4 ((if (M 8 (Int32.toNatClampNeg y1)) ≤ y3 then fX8_read_87 N y2 M else (if y2 = 0 then dc_ck ((40 * y1) + y3) 160 (dc_b2 (fX8_comes M) (fun r14 M_15 => (if (lg_cmp (N (Int32.toNatClampNeg ((40 * y1) + y3))) (r14.toInt64)) = 0 then dc_lt (y3 + 1) (fun v20 => k39 y1 0 v20 M_15) else dc_lt (y3 + 1) (fun v18 => dc_lt (y3 + 1) (fun v19 => k39 y1 v18 v19 M_15))))) else fX8_read_87 N y2 M)))
def fX8_read_39 (N : LT) : Nat → Int32 → Int32 → Int32 → ST → Option (Int32 × ST)
  | 0 => fun _ _ _ _ => none
  | n + 1 => fX8_read_39_s N (fX8_read_39 N n)
def fX8_read (x1 : Int32) (M : ST) (N : LT) : Option (Int32 × ST) :=
  dc_b1 (fX8_isSheet x1) (fun r1 => (if r1 = 0 then dc_b2 (fX8_finds (-1000000001) M) (fun r24 M_25 => some (r24, M_25)) else dc_ck x1 4 ((if 0 ≤ (M 7 (Int32.toNatClampNeg x1)) then dc_b1 (fX8_laysBy M) (fun M_6 => fX8_read_39 N 400 x1 0 0 M_6) else dc_b2 (fX8_finds (-1000000006) M) (fun r21 M_22 => some (r21, M_22))))))
abbrev rmX8_read : Room := { frames := 12, cells := 0, slots := 0, locals := 292 }
set_option maxRecDepth 100000 in
set_option maxHeartbeats 4000000 in
theorem tX8_read (l : Launch) (D : va_G) (cs : Nat → ClassId) (a : Nat → Nat) (nn : Nat → Nat) (x1 : Int32) (M : ST) (N : LT) (r0 : Int32) (Mz : ST) (hf : fX8_read x1 M N = some (r0, Mz)) : CG l yX8_read (wsm yX8_read cX8_read 4 (some .int)) rmX8_read D cs [.ref (a 0), .int x1] (some (.int r0)) ((kX8 cs a (.ref (nn 0)) M) ++ ((kJ160 cs nn N))) ((kX8 cs a (.ref (nn 0)) Mz) ++ ((kJ160 cs nn N))) := by
  refine CG.intro (by decide) (Nat.le_of_ble_eq_true rfl) ?_
  intro p e s m below meth c A Q hx hb hml hown hu hK hZ hP0 hD0 hS0 hA hri hrz hrl hrv hra ls0 hl0
  have h87 : ∀ (y2 : Int32) (M : ST) (H : Heap) (locs : List Loc) (ls : Array Slot), va_P D vwCl ((kX8 cs a (.ref (nn 0)) M) ++ ((kJ160 cs nn N))) H → va_D A ((kX8 cs a (.ref (nn 0)) M) ++ ((kJ160 cs nn N))) → va_S A s.heap H locs → lv_has ls 4 [(0, .ref (a 0)), (2, .int y2)] → fX8_read_87 N y2 M = some (r0, Mz) → W p l e rmX8_read s m [.ref (a 0), .int x1].toArray below meth c H locs 0 0 Q (F0 m 87 ls []) := by
    intro y2 M H locs ls hP hD hS hl hf
    unfold fX8_read_87 at hf
    refine lv_aload_n hx hb dX8_read_87 rfl (lv_at hl 0 rfl) ?_
    obtain ⟨M_10, hg11, hf⟩ := b1_el hf
    refine cc_V (w' := ((kX8 cs a (.ref (nn 0)) M_10) ++ ((kJ160 cs nn N)))) (wr := (kJ160 cs nn N)) (st1 := []) [] hx hb hml hown hu (tX8_laysBack l D cs a nn M M_10 hg11) q1182 q62 q1179 q1181 q40 pdX8_laysBack ⟨rfl, rfl, Nat.le_of_ble_eq_true rfl, Nat.le_of_ble_eq_true rfl⟩ hK hZ hP hD hS hA [0, 1, 2, 3, 4, 5, 6, 7, 8, 9, 10, 11, 12, 13, 14] [15] [1, 2, 3, 4, 5, 6, 7, 8, 9, 10, 11, 12, 13, 14, 15, 0] rfl rfl rfl rfl rfl rfl rfl rfl rfl rfl hl.1 rfl (Nat.le_of_ble_eq_true rfl) dX8_read_88 rfl (fun H locs hP hD hS => ?_)
    refine lv_iload_n hx hb dX8_read_91 rfl (lv_at hl 1 rfl) ?_
    have he := Option.some.inj hf
    obtain ⟨e0, e1⟩ := Prod.mk.inj he
    exact hri _ _ _ rfl (congrArg (fun z => some (Value.int z)) e0.symm) dX8_read_92 _ _ _ (by rw [e1]) hP hD hS
  have hs39 : ∀ (k39 : Int32 → Int32 → Int32 → ST → Option (Int32 × ST)), (∀ (y1 : Int32) (y2 : Int32) (y3 : Int32) (M : ST) (H : Heap) (locs : List Loc) (ls : Array Slot), va_P D vwCl ((kX8 cs a (.ref (nn 0)) M) ++ ((kJ160 cs nn N))) H → va_D A ((kX8 cs a (.ref (nn 0)) M) ++ ((kJ160 cs nn N))) → va_S A s.heap H locs → lv_has ls 4 [(0, .ref (a 0)), (1, .int y1), (2, .int y2), (3, .int y3)] → k39 y1 y2 y3 M = some (r0, Mz) → W p l e rmX8_read s m [.ref (a 0), .int x1].toArray below meth c H locs 0 0 Q (F0 m 39 ls [])) → ∀ (y1 : Int32) (y2 : Int32) (y3 : Int32) (M : ST) (H : Heap) (locs : List Loc) (ls : Array Slot), va_P D vwCl ((kX8 cs a (.ref (nn 0)) M) ++ ((kJ160 cs nn N))) H → va_D A ((kX8 cs a (.ref (nn 0)) M) ++ ((kJ160 cs nn N))) → va_S A s.heap H locs → lv_has ls 4 [(0, .ref (a 0)), (1, .int y1), (2, .int y2), (3, .int y3)] → fX8_read_39_s N k39 y1 y2 y3 M = some (r0, Mz) → W p l e rmX8_read s m [.ref (a 0), .int x1].toArray below meth c H locs 0 0 Q (F0 m 39 ls []) := by
    intro k39 hk39 y1 y2 y3 M H locs ls hP hD hS hl hf
    unfold fX8_read_39_s at hf
    refine lv_iload_n hx hb dX8_read_39 rfl (lv_at hl 3 rfl) ?_
    refine lv_aload_n hx hb dX8_read_40 rfl (lv_at hl 0 rfl) ?_
    refine va_get (D := D) (ci := 8) (v := .ref (a 8)) (C := RX8) (T := TX8) (N := 26) hx hb hu inX8 hown hK.1 hP 0 rfl rfl 7 (by decide) (hu _ q924) (fun _ h9 => h9) rfl dX8_read_41 ?_
    refine lv_iload_n hx hb dX8_read_44 rfl (lv_at hl 1 rfl) ?_
    obtain ⟨hi8, hf⟩ := ck_el hf
    refine va_iald hx hb hK.1 hP 6 0 rfl rfl hi8 dX8_read_45 ?_
    refine lv_icmp_ge (tgt := 87) hx hb dX8_read_46 (by decide) (fun hc9 => ?_) (fun hc9 => ?_)
    · have hf := ip_el hc9 hf
      exact h87 y2 M _ _ _ hP hD hS (lv_sub hl [0, 2] rfl) hf
    · have hf := in_el hc9 hf
      refine lv_iload_n hx hb dX8_read_49 rfl (lv_at hl 2 rfl) ?_
      refine lv_if_ne (tgt := 87) hx hb dX8_read_50 (by decide) (fun hc12 => ?_) (fun hc12 => ?_)
      · have hf := in_el hc12 hf
        exact h87 y2 M _ _ _ hP hD hS (lv_sub hl [0, 2] rfl) hf
      · have hf := ip_el hc12 hf
        refine lv_aload_n hx hb dX8_read_53 rfl (lv_at hl 0 rfl) ?_
        refine va_get (D := D) (ci := 8) (v := .ref (nn 0)) (C := RX8) (T := TX8) (N := 26) hx hb hu inX8 hown hK.1 hP 0 rfl rfl 8 (by decide) (hu _ q925) (fun _ h9 => h9) rfl dX8_read_54 ?_
        refine lv_bipush (v := 40) hx hb dX8_read_57 (by decide) ?_
        refine lv_iload_n hx hb dX8_read_59 rfl (lv_at hl 1 rfl) ?_
        refine lv_imul hx hb dX8_read_60 ?_
        refine lv_iload_n hx hb dX8_read_61 rfl (lv_at hl 3 rfl) ?_
        refine lv_iadd hx hb dX8_read_62 ?_
        obtain ⟨hi13, hf⟩ := ck_el hf
        refine va_lald hx hb hK.1 hP 15 1 rfl rfl hi13 dX8_read_63 ?_
        refine lv_aload_n hx hb dX8_read_64 rfl (lv_at hl 0 rfl) ?_
        obtain ⟨r14, M_15, hg16, hf⟩ := b2_el hf
        refine cc_V (w' := ((kX8 cs a (.ref (nn 0)) M_15) ++ ((kJ160 cs nn N)))) (wr := (kJ160 cs nn N)) (st1 := [.int r14, .long (N (Int32.toNatClampNeg ((40 * y1) + y3)))]) [] hx hb hml hown hu (tX8_comes l D cs a nn M r14 M_15 hg16) q1081 q62 q1078 q1080 q34 pdX8_comes ⟨rfl, rfl, Nat.le_of_ble_eq_true rfl, Nat.le_of_ble_eq_true rfl⟩ hK hZ hP hD hS hA [0, 1, 2, 3, 4, 5, 6, 7, 8, 9, 10, 11, 12, 13, 14] [15] [1, 2, 3, 4, 5, 6, 7, 8, 9, 10, 11, 12, 13, 14, 15, 0] rfl rfl rfl rfl rfl rfl rfl rfl rfl rfl hl.1 rfl (Nat.le_of_ble_eq_true rfl) dX8_read_65 rfl (fun H locs hP hD hS => ?_)
        refine lv_i2l (v := (r14.toInt64)) hx hb dX8_read_68 rfl ?_
        refine W.lcmp hx hb dX8_read_69 ?_
        refine lv_if_ne (tgt := 77) hx hb dX8_read_70 (by decide) (fun hc17 => ?_) (fun hc17 => ?_)
        · have hf := in_el hc17 hf
          refine lv_iload_n hx hb dX8_read_77 rfl (lv_at hl 3 rfl) ?_
          refine lv_iconst (v := 1) hx hb dX8_read_78 (by decide) ?_
          refine lv_iadd hx hb dX8_read_79 ?_
          obtain ⟨v18, hv18, hf⟩ := lt_el hf
          refine lv_tope hv18 ?_
          refine lv_istore_n (lv' := [(2, .int v18), (0, .ref (a 0)), (1, .int y1), (3, .int y3)]) hx hb dX8_read_80 rfl hl (by decide) rfl (fun ls hl => ?_)
          obtain ⟨v19, hv19, hf⟩ := lt_el hf
          refine lv_iinc (v := v19) (lv' := [(3, .int v19), (2, .int v18), (0, .ref (a 0)), (1, .int y1)]) hx hb dX8_read_81 hl (k := 3) rfl (by rw [hv19]; rfl) (by decide) rfl (fun ls hl => ?_)
          refine lv_goto (tgt := 39) hx hb dX8_read_84 (by decide) ?_
          exact hk39 y1 v18 v19 M_15 _ _ _ hP hD hS (lv_sub hl [2, 3, 1, 0] rfl) hf
        · have hf := ip_el hc17 hf
          refine lv_iconst (v := 0) hx hb dX8_read_73 (by decide) ?_
          refine lv_goto (tgt := 80) hx hb dX8_read_74 (by decide) ?_
          refine lv_istore_n (lv' := [(2, .int 0), (0, .ref (a 0)), (1, .int y1), (3, .int y3)]) hx hb dX8_read_80 rfl hl (by decide) rfl (fun ls hl => ?_)
          obtain ⟨v20, hv20, hf⟩ := lt_el hf
          refine lv_iinc (v := v20) (lv' := [(3, .int v20), (2, .int 0), (0, .ref (a 0)), (1, .int y1)]) hx hb dX8_read_81 hl (k := 3) rfl (by rw [hv20]; rfl) (by decide) rfl (fun ls hl => ?_)
          refine lv_goto (tgt := 39) hx hb dX8_read_84 (by decide) ?_
          exact hk39 y1 0 v20 M_15 _ _ _ hP hD hS (lv_sub hl [2, 3, 1, 0] rfl) hf
  have h39 : ∀ (n : Nat), ∀ (y1 : Int32) (y2 : Int32) (y3 : Int32) (M : ST) (H : Heap) (locs : List Loc) (ls : Array Slot), va_P D vwCl ((kX8 cs a (.ref (nn 0)) M) ++ ((kJ160 cs nn N))) H → va_D A ((kX8 cs a (.ref (nn 0)) M) ++ ((kJ160 cs nn N))) → va_S A s.heap H locs → lv_has ls 4 [(0, .ref (a 0)), (1, .int y1), (2, .int y2), (3, .int y3)] → fX8_read_39 N n y1 y2 y3 M = some (r0, Mz) → W p l e rmX8_read s m [.ref (a 0), .int x1].toArray below meth c H locs 0 0 Q (F0 m 39 ls []) := by
    intro n
    induction n with
    | zero => intro y1 y2 y3 M H locs ls hP hD hS hl hf; exact no_el hf
    | succ n ih => intro y1 y2 y3 M H locs ls hP hD hS hl hf; exact hs39 _ ih y1 y2 y3 M _ _ _ hP hD hS hl hf
  have hl : lv_has ls0 4 [(0, .ref (a 0)), (1, .int x1)] := hl0
  have hP := hP0
  have hD := hD0
  have hS := hS0
  unfold fX8_read at hf
  refine lv_iload_n hx hb dX8_read_0 rfl (lv_at hl 1 rfl) ?_
  obtain ⟨r1, hg2, hf⟩ := b1_el hf
  refine cc_S0 (st1 := [.int r1]) [.int x1] hx hb hml hown hu (tX8_isSheet l D cs x1 r1 hg2) q1294 q62 q1292 q1293 pdX8_isSheet ⟨rfl, rfl, Nat.le_of_ble_eq_true rfl, Nat.le_of_ble_eq_true rfl⟩ hK hZ hP hD hS hA rfl hl.1 rfl (Nat.le_of_ble_eq_true rfl) dX8_read_1 rfl (fun H locs hP hD hS => ?_)
  refine lv_if_ne (tgt := 14) hx hb dX8_read_4 (by decide) (fun hc3 => ?_) (fun hc3 => ?_)
  · have hf := in_el hc3 hf
    refine lv_aload_n hx hb dX8_read_14 rfl (lv_at hl 0 rfl) ?_
    refine va_get (D := D) (ci := 8) (v := .ref (a 7)) (C := RX8) (T := TX8) (N := 26) hx hb hu inX8 hown hK.1 hP 0 rfl rfl 6 (by decide) (hu _ q923) (fun _ h9 => h9) rfl dX8_read_15 ?_
    refine lv_iload_n hx hb dX8_read_18 rfl (lv_at hl 1 rfl) ?_
    obtain ⟨hi4, hf⟩ := ck_el hf
    refine va_iald hx hb hK.1 hP 5 0 rfl rfl hi4 dX8_read_19 ?_
    refine lv_if_ge (tgt := 31) hx hb dX8_read_20 (by decide) (fun hc5 => ?_) (fun hc5 => ?_)
    · have hf := ip_el hc5 hf
      refine lv_aload_n hx hb dX8_read_31 rfl (lv_at hl 0 rfl) ?_
      obtain ⟨M_6, hg7, hf⟩ := b1_el hf
      refine cc_V (w' := ((kX8 cs a (.ref (nn 0)) M_6) ++ ((kJ160 cs nn N)))) (wr := (kJ160 cs nn N)) (st1 := []) [] hx hb hml hown hu (tX8_laysBy l D cs a nn M M_6 hg7) q1178 q62 q1175 q1177 q39 pdX8_laysBy ⟨rfl, rfl, Nat.le_of_ble_eq_true rfl, Nat.le_of_ble_eq_true rfl⟩ hK hZ hP hD hS hA [0, 1, 2, 3, 4, 5, 6, 7, 8, 9, 10, 11, 12, 13, 14] [15] [1, 2, 3, 4, 5, 6, 7, 8, 9, 10, 11, 12, 13, 14, 15, 0] rfl rfl rfl rfl rfl rfl rfl rfl rfl rfl hl.1 rfl (Nat.le_of_ble_eq_true rfl) dX8_read_32 rfl (fun H locs hP hD hS => ?_)
      refine lv_iconst (v := 0) hx hb dX8_read_35 (by decide) ?_
      refine lv_istore_n (lv' := [(2, .int 0), (0, .ref (a 0)), (1, .int x1)]) hx hb dX8_read_36 rfl hl (by decide) rfl (fun ls hl => ?_)
      refine lv_iconst (v := 0) hx hb dX8_read_37 (by decide) ?_
      refine lv_istore_n (lv' := [(3, .int 0), (2, .int 0), (0, .ref (a 0)), (1, .int x1)]) hx hb dX8_read_38 rfl hl (by decide) rfl (fun ls hl => ?_)
      exact h39 400 x1 0 0 M_6 _ _ _ hP hD hS (lv_sub hl [2, 3, 1, 0] rfl) hf
    · have hf := in_el hc5 hf
      refine lv_aload_n hx hb dX8_read_23 rfl (lv_at hl 0 rfl) ?_
      refine lv_ldcw (v := (-1000000006)) hx hb hown (hu _ q1300) dX8_read_24 ?_
      obtain ⟨r21, M_22, hg23, hf⟩ := b2_el hf
      refine cc_V (w' := ((kX8 cs a (.ref (nn 0)) M_22) ++ ((kJ160 cs nn N)))) (wr := (kJ160 cs nn N)) (st1 := [.int r21]) [.int (-1000000006)] hx hb hml hown hu (tX8_finds l D cs a nn (-1000000006) M r21 M_22 hg23) q1012 q62 q1009 q1011 q19 pdX8_finds ⟨rfl, rfl, Nat.le_of_ble_eq_true rfl, Nat.le_of_ble_eq_true rfl⟩ hK hZ hP hD hS hA [0, 1, 2, 3, 4, 5, 6, 7, 8, 9, 10, 11, 12, 13, 14] [15] [1, 2, 3, 4, 5, 6, 7, 8, 9, 10, 11, 12, 13, 14, 15, 0] rfl rfl rfl rfl rfl rfl rfl rfl rfl rfl hl.1 rfl (Nat.le_of_ble_eq_true rfl) dX8_read_27 rfl (fun H locs hP hD hS => ?_)
      have he := Option.some.inj hf
      obtain ⟨e0, e1⟩ := Prod.mk.inj he
      exact hri _ _ _ rfl (congrArg (fun z => some (Value.int z)) e0.symm) dX8_read_30 _ _ _ (by rw [e1]) hP hD hS
  · have hf := ip_el hc3 hf
    refine lv_aload_n hx hb dX8_read_7 rfl (lv_at hl 0 rfl) ?_
    refine lv_ldc (v := (-1000000001)) hx hb hown (hu _ q1008) dX8_read_8 ?_
    obtain ⟨r24, M_25, hg26, hf⟩ := b2_el hf
    refine cc_V (w' := ((kX8 cs a (.ref (nn 0)) M_25) ++ ((kJ160 cs nn N)))) (wr := (kJ160 cs nn N)) (st1 := [.int r24]) [.int (-1000000001)] hx hb hml hown hu (tX8_finds l D cs a nn (-1000000001) M r24 M_25 hg26) q1012 q62 q1009 q1011 q19 pdX8_finds ⟨rfl, rfl, Nat.le_of_ble_eq_true rfl, Nat.le_of_ble_eq_true rfl⟩ hK hZ hP hD hS hA [0, 1, 2, 3, 4, 5, 6, 7, 8, 9, 10, 11, 12, 13, 14] [15] [1, 2, 3, 4, 5, 6, 7, 8, 9, 10, 11, 12, 13, 14, 15, 0] rfl rfl rfl rfl rfl rfl rfl rfl rfl rfl hl.1 rfl (Nat.le_of_ble_eq_true rfl) dX8_read_10 rfl (fun H locs hP hD hS => ?_)
    have he := Option.some.inj hf
    obtain ⟨e0, e1⟩ := Prod.mk.inj he
    exact hri _ _ _ rfl (congrArg (fun z => some (Value.int z)) e0.symm) dX8_read_13 _ _ _ (by rw [e1]) hP hD hS
