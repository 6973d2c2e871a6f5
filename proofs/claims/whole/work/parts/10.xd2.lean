def fX7_follows_16 (Fo : ST) (Se : ST) (Ma : ST) (Sc : ST) (Tr : ST) : Option (Int32 × ST × ST × ST) :=
  dc_b2 (fX7_finding (-1000000001) Ma) (fun r4 Ma_5 => some (r4, Ma_5, Sc, Tr))
def fX7_follows_55 (Fo : ST) (Se : ST) (Ma : ST) (Sc : ST) (Tr : ST) : Option (Int32 × ST × ST × ST) :=
  dc_b2 (fX7_finding (-1000000005) Ma) (fun r13 Ma_14 => some (r13, Ma_14, Sc, Tr))
def fX7_follows (x1 : Int32) (x2 : Int32) (Ma : ST) (Fo : ST) (Sc : ST) (Se : ST) (Tr : ST) : Option (Int32 × ST × ST × ST) :=
  dc_b1 (fX7_isOne x1 Ma Fo) (fun r1 => (if r1 = 0 then fX7_follows_16 Fo Se Ma Sc Tr else dc_b1 (fX7_isOne x2 Ma Fo) (fun r7 => (if r7 = 0 then fX7_follows_16 Fo Se Ma Sc Tr else dc_b1 (fX1_isAlive x1 Fo) (fun r10 => (if r10 = 0 then fX7_follows_55 Fo Se Ma Sc Tr else dc_b1 (fX4_allowed x1 Se Fo) (fun r16 => dc_b1 (fX7_isIn r16 x2) (fun r18 => (if r18 = 0 then fX7_follows_55 Fo Se Ma Sc Tr else dc_b3 (fX4_whatFollows x1 x2 1 Se Fo Sc Tr) (fun r21 Sc_22 Tr_23 => some (r21, Ma, Sc_22, Tr_23)))))))))))
abbrev rmX7_follows : Room := { frames := 7, cells := 0, slots := 0, locals := 178 }
set_option maxRecDepth 100000 in
set_option maxHeartbeats 4000000 in
theorem tX7_follows (l : Launch) (D : va_G) (cs : Nat → ClassId) (ama : Nat → Nat) (are : Nat → Nat) (are2 : Nat → Nat) (are3 : Nat → Nat) (ach : Nat → Nat) (ata : Nat → Nat) (asa : Nat → Nat) (af : Nat → Nat) (ac : Nat → Nat) (atr : Nat → Nat) (ase : Nat → Nat) (x1 : Int32) (x2 : Int32) (Ma : ST) (Fo : ST) (Sc : ST) (Se : ST) (Tr : ST) (r0 : Int32) (Maz : ST) (Scz : ST) (Trz : ST) (hf : fX7_follows x1 x2 Ma Fo Sc Se Tr = some (r0, Maz, Scz, Trz)) : CG l yX7_follows (wsm yX7_follows cX7_follows 3 (some .int)) rmX7_follows D cs [.ref (ama 0), .int x1, .int x2] (some (.int r0)) ((kX7 cs ama (.ref (are 0)) (.ref (are2 0)) (.ref (are3 0)) (.ref (ach 0)) (.ref (ata 0)) (.ref (asa 0)) Ma) ++ ((kX2 cs are (.ref (af 0)) (.ref (ac 0)) (.ref (atr 0)) (.ref (ase 0)) ) ++ ((kX1 cs af  Fo) ++ ((kX3 cs ac  Sc) ++ ((kX4 cs ase (.ref (af 0)) (.ref (ac 0)) (.ref (atr 0)) Se) ++ ((kX4 cs atr (.ref (af 0)) (.ref (ac 0)) .null Tr))))))) ((kX7 cs ama (.ref (are 0)) (.ref (are2 0)) (.ref (are3 0)) (.ref (ach 0)) (.ref (ata 0)) (.ref (asa 0)) Maz) ++ ((kX2 cs are (.ref (af 0)) (.ref (ac 0)) (.ref (atr 0)) (.ref (ase 0)) ) ++ ((kX1 cs af  Fo) ++ ((kX3 cs ac  Scz) ++ ((kX4 cs ase (.ref (af 0)) (.ref (ac 0)) (.ref (atr 0)) Se) ++ ((kX4 cs atr (.ref (af 0)) (.ref (ac 0)) .null Trz))))))) := by
  refine CG.intro (by decide) (Nat.le_of_ble_eq_true rfl) ?_
  intro p e s m below meth c A Q hx hb hml hown hu hK hZ hP0 hD0 hS0 hA hri hrz hrl hrv hra ls0 hl0
  have h16 : ∀ (Ma : ST) (Sc : ST) (Tr : ST) (H : Heap) (locs : List Loc) (ls : Array Slot), va_P D vwCl ((kX7 cs ama (.ref (are 0)) (.ref (are2 0)) (.ref (are3 0)) (.ref (ach 0)) (.ref (ata 0)) (.ref (asa 0)) Ma) ++ ((kX2 cs are (.ref (af 0)) (.ref (ac 0)) (.ref (atr 0)) (.ref (ase 0)) ) ++ ((kX1 cs af  Fo) ++ ((kX3 cs ac  Sc) ++ ((kX4 cs ase (.ref (af 0)) (.ref (ac 0)) (.ref (atr 0)) Se) ++ ((kX4 cs atr (.ref (af 0)) (.ref (ac 0)) .null Tr))))))) H → va_D A ((kX7 cs ama (.ref (are 0)) (.ref (are2 0)) (.ref (are3 0)) (.ref (ach 0)) (.ref (ata 0)) (.ref (asa 0)) Ma) ++ ((kX2 cs are (.ref (af 0)) (.ref (ac 0)) (.ref (atr 0)) (.ref (ase 0)) ) ++ ((kX1 cs af  Fo) ++ ((kX3 cs ac  Sc) ++ ((kX4 cs ase (.ref (af 0)) (.ref (ac 0)) (.ref (atr 0)) Se) ++ ((kX4 cs atr (.ref (af 0)) (.ref (ac 0)) .null Tr))))))) → va_S A s.heap H locs → lv_has ls 3 [(0, .ref (ama 0))] → fX7_follows_16 Fo Se Ma Sc Tr = some (r0, Maz, Scz, Trz) → W p l e rmX7_follows s m [.ref (ama 0), .int x1, .int x2].toArray below meth c H locs 0 0 Q (F0 m 16 ls []) := by
    intro Ma Sc Tr H locs ls hP hD hS hl hf
    unfold fX7_follows_16 at hf
    refine lv_aload_n hx hb dX7_follows_16 rfl (lv_at hl 0 rfl) ?_
    refine lv_ldc (v := (-1000000001)) hx hb hown (hu _ q335) dX7_follows_17 ?_
    obtain ⟨r4, Ma_5, hg6, hf⟩ := b2_el hf
    refine cc_V (w' := ((kX7 cs ama (.ref (are 0)) (.ref (are2 0)) (.ref (are3 0)) (.ref (ach 0)) (.ref (ata 0)) (.ref (asa 0)) Ma_5) ++ ((kX2 cs are (.ref (af 0)) (.ref (ac 0)) (.ref (atr 0)) (.ref (ase 0)) ) ++ ((kX1 cs af  Fo) ++ ((kX3 cs ac  Sc) ++ ((kX4 cs ase (.ref (af 0)) (.ref (ac 0)) (.ref (atr 0)) Se) ++ ((kX4 cs atr (.ref (af 0)) (.ref (ac 0)) .null Tr)))))))) (wr := ((kX2 cs are (.ref (af 0)) (.ref (ac 0)) (.ref (atr 0)) (.ref (ase 0)) ) ++ ((kX1 cs af  Fo) ++ ((kX3 cs ac  Sc) ++ ((kX4 cs ase (.ref (af 0)) (.ref (ac 0)) (.ref (atr 0)) Se) ++ ((kX4 cs atr (.ref (af 0)) (.ref (ac 0)) .null Tr))))))) (st1 := [.int r4]) [.int (-1000000001)] hx hb hml hown hu (tX7_finding l D cs ama are are2 are3 ach ata asa (-1000000001) Ma r4 Ma_5 hg6) q339 q54 q336 q338 q0 pdX7_finding ⟨rfl, rfl, Nat.le_of_ble_eq_true rfl, Nat.le_of_ble_eq_true rfl⟩ hK hZ hP hD hS hA [0, 1] [2, 3, 4, 5, 6, 7, 8, 9, 10, 11, 12, 13, 14, 15, 16, 17, 18, 19, 20] [19, 20, 0, 1, 2, 3, 4, 5, 6, 7, 8, 9, 10, 11, 12, 13, 14, 15, 16, 17, 18] rfl rfl rfl rfl rfl rfl rfl rfl rfl rfl hl.1 rfl (Nat.le_of_ble_eq_true rfl) dX7_follows_19 rfl (fun H locs hP hD hS => ?_)
    have he := Option.some.inj hf
    obtain ⟨e0, ht0⟩ := Prod.mk.inj he
    obtain ⟨e1, ht1⟩ := Prod.mk.inj ht0
    obtain ⟨e2, e3⟩ := Prod.mk.inj ht1
    exact hri _ _ _ rfl (congrArg (fun z => some (Value.int z)) e0.symm) dX7_follows_22 _ _ _ (by rw [e1, e2, e3]) hP hD hS
  have h55 : ∀ (Ma : ST) (Sc : ST) (Tr : ST) (H : Heap) (locs : List Loc) (ls : Array Slot), va_P D vwCl ((kX7 cs ama (.ref (are 0)) (.ref (are2 0)) (.ref (are3 0)) (.ref (ach 0)) (.ref (ata 0)) (.ref (asa 0)) Ma) ++ ((kX2 cs are (.ref (af 0)) (.ref (ac 0)) (.ref (atr 0)) (.ref (ase 0)) ) ++ ((kX1 cs af  Fo) ++ ((kX3 cs ac  Sc) ++ ((kX4 cs ase (.ref (af 0)) (.ref (ac 0)) (.ref (atr 0)) Se) ++ ((kX4 cs atr (.ref (af 0)) (.ref (ac 0)) .null Tr))))))) H → va_D A ((kX7 cs ama (.ref (are 0)) (.ref (are2 0)) (.ref (are3 0)) (.ref (ach 0)) (.ref (ata 0)) (.ref (asa 0)) Ma) ++ ((kX2 cs are (.ref (af 0)) (.ref (ac 0)) (.ref (atr 0)) (.ref (ase 0)) ) ++ ((kX1 cs af  Fo) ++ ((kX3 cs ac  Sc) ++ ((kX4 cs ase (.ref (af 0)) (.ref (ac 0)) (.ref (atr 0)) Se) ++ ((kX4 cs atr (.ref (af 0)) (.ref (ac 0)) .null Tr))))))) → va_S A s.heap H locs → lv_has ls 3 [(0, .ref (ama 0))] → fX7_follows_55 Fo Se Ma Sc Tr = some (r0, Maz, Scz, Trz) → W p l e rmX7_follows s m [.ref (ama 0), .int x1, .int x2].toArray below meth c H locs 0 0 Q (F0 m 55 ls []) := by
    intro Ma Sc Tr H locs ls hP hD hS hl hf
    unfold fX7_follows_55 at hf
    refine lv_aload_n hx hb dX7_follows_55 rfl (lv_at hl 0 rfl) ?_
    refine lv_ldc (v := (-1000000005)) hx hb hown (hu _ q500) dX7_follows_56 ?_
    obtain ⟨r13, Ma_14, hg15, hf⟩ := b2_el hf
    refine cc_V (w' := ((kX7 cs ama (.ref (are 0)) (.ref (are2 0)) (.ref (are3 0)) (.ref (ach 0)) (.ref (ata 0)) (.ref (asa 0)) Ma_14) ++ ((kX2 cs are (.ref (af 0)) (.ref (ac 0)) (.ref (atr 0)) (.ref (ase 0)) ) ++ ((kX1 cs af  Fo) ++ ((kX3 cs ac  Sc) ++ ((kX4 cs ase (.ref (af 0)) (.ref (ac 0)) (.ref (atr 0)) Se) ++ ((kX4 cs atr (.ref (af 0)) (.ref (ac 0)) .null Tr)))))))) (wr := ((kX2 cs are (.ref (af 0)) (.ref (ac 0)) (.ref (atr 0)) (.ref (ase 0)) ) ++ ((kX1 cs af  Fo) ++ ((kX3 cs ac  Sc) ++ ((kX4 cs ase (.ref (af 0)) (.ref (ac 0)) (.ref (atr 0)) Se) ++ ((kX4 cs atr (.ref (af 0)) (.ref (ac 0)) .null Tr))))))) (st1 := [.int r13]) [.int (-1000000005)] hx hb hml hown hu (tX7_finding l D cs ama are are2 are3 ach ata asa (-1000000005) Ma r13 Ma_14 hg15) q339 q54 q336 q338 q0 pdX7_finding ⟨rfl, rfl, Nat.le_of_ble_eq_true rfl, Nat.le_of_ble_eq_true rfl⟩ hK hZ hP hD hS hA [0, 1] [2, 3, 4, 5, 6, 7, 8, 9, 10, 11, 12, 13, 14, 15, 16, 17, 18, 19, 20] [19, 20, 0, 1, 2, 3, 4, 5, 6, 7, 8, 9, 10, 11, 12, 13, 14, 15, 16, 17, 18] rfl rfl rfl rfl rfl rfl rfl rfl rfl rfl hl.1 rfl (Nat.le_of_ble_eq_true rfl) dX7_follows_58 rfl (fun H locs hP hD hS => ?_)
    have he := Option.some.inj hf
    obtain ⟨e0, ht0⟩ := Prod.mk.inj he
    obtain ⟨e1, ht1⟩ := Prod.mk.inj ht0
    obtain ⟨e2, e3⟩ := Prod.mk.inj ht1
    exact hri _ _ _ rfl (congrArg (fun z => some (Value.int z)) e0.symm) dX7_follows_61 _ _ _ (by rw [e1, e2, e3]) hP hD hS
  have hl : lv_has ls0 3 [(0, .ref (ama 0)), (1, .int x1), (2, .int x2)] := hl0
  have hP := hP0
  have hD := hD0
  have hS := hS0
  unfold fX7_follows at hf
  refine lv_aload_n hx hb dX7_follows_0 rfl (lv_at hl 0 rfl) ?_
  refine lv_iload_n hx hb dX7_follows_1 rfl (lv_at hl 1 rfl) ?_
  obtain ⟨r1, hg2, hf⟩ := b1_el hf
  refine cc_V (w' := ((kX7 cs ama (.ref (are 0)) (.ref (are2 0)) (.ref (are3 0)) (.ref (ach 0)) (.ref (ata 0)) (.ref (asa 0)) Ma) ++ ((kX2 cs are (.ref (af 0)) (.ref (ac 0)) (.ref (atr 0)) (.ref (ase 0)) ) ++ ((kX1 cs af  Fo) ++ ((kX3 cs ac  Sc) ++ ((kX4 cs ase (.ref (af 0)) (.ref (ac 0)) (.ref (atr 0)) Se) ++ ((kX4 cs atr (.ref (af 0)) (.ref (ac 0)) .null Tr)))))))) (wr := ((kX3 cs ac  Sc) ++ ((kX4 cs ase (.ref (af 0)) (.ref (ac 0)) (.ref (atr 0)) Se) ++ ((kX4 cs atr (.ref (af 0)) (.ref (ac 0)) .null Tr))))) (st1 := [.int r1]) [.int x1] hx hb hml hown hu (tX7_isOne l D cs ama are are2 are3 ach ata asa af ac atr ase x1 Ma Fo r1 hg2) q352 q54 q349 q351 q1 pdX7_isOne ⟨rfl, rfl, Nat.le_of_ble_eq_true rfl, Nat.le_of_ble_eq_true rfl⟩ hK hZ hP hD hS hA [0, 1, 2, 3, 4, 5, 6, 7, 8, 9] [10, 11, 12, 13, 14, 15, 16, 17, 18, 19, 20] [11, 12, 13, 14, 15, 16, 17, 18, 19, 20, 0, 1, 2, 3, 4, 5, 6, 7, 8, 9, 10] rfl rfl rfl rfl rfl rfl rfl rfl rfl rfl hl.1 rfl (Nat.le_of_ble_eq_true rfl) dX7_follows_2 rfl (fun H locs hP hD hS => ?_)
  refine lv_if_eq (tgt := 16) hx hb dX7_follows_5 (by decide) (fun hc3 => ?_) (fun hc3 => ?_)
  · have hf := ip_el hc3 hf
    exact h16 Ma Sc Tr _ _ _ hP hD hS (lv_sub hl [0] rfl) hf
  · have hf := in_el hc3 hf
    refine lv_aload_n hx hb dX7_follows_8 rfl (lv_at hl 0 rfl) ?_
    refine lv_iload_n hx hb dX7_follows_9 rfl (lv_at hl 2 rfl) ?_
    obtain ⟨r7, hg8, hf⟩ := b1_el hf
    refine cc_V (w' := ((kX7 cs ama (.ref (are 0)) (.ref (are2 0)) (.ref (are3 0)) (.ref (ach 0)) (.ref (ata 0)) (.ref (asa 0)) Ma) ++ ((kX2 cs are (.ref (af 0)) (.ref (ac 0)) (.ref (atr 0)) (.ref (ase 0)) ) ++ ((kX1 cs af  Fo) ++ ((kX3 cs ac  Sc) ++ ((kX4 cs ase (.ref (af 0)) (.ref (ac 0)) (.ref (atr 0)) Se) ++ ((kX4 cs atr (.ref (af 0)) (.ref (ac 0)) .null Tr)))))))) (wr := ((kX3 cs ac  Sc) ++ ((kX4 cs ase (.ref (af 0)) (.ref (ac 0)) (.ref (atr 0)) Se) ++ ((kX4 cs atr (.ref (af 0)) (.ref (ac 0)) .null Tr))))) (st1 := [.int r7]) [.int x2] hx hb hml hown hu (tX7_isOne l D cs ama are are2 are3 ach ata asa af ac atr ase x2 Ma Fo r7 hg8) q352 q54 q349 q351 q1 pdX7_isOne ⟨rfl, rfl, Nat.le_of_ble_eq_true rfl, Nat.le_of_ble_eq_true rfl⟩ hK hZ hP hD hS hA [0, 1, 2, 3, 4, 5, 6, 7, 8, 9] [10, 11, 12, 13, 14, 15, 16, 17, 18, 19, 20] [11, 12, 13, 14, 15, 16, 17, 18, 19, 20, 0, 1, 2, 3, 4, 5, 6, 7, 8, 9, 10] rfl rfl rfl rfl rfl rfl rfl rfl rfl rfl hl.1 rfl (Nat.le_of_ble_eq_true rfl) dX7_follows_10 rfl (fun H locs hP hD hS => ?_)
    refine lv_if_ne (tgt := 23) hx hb dX7_follows_13 (by decide) (fun hc9 => ?_) (fun hc9 => ?_)
    · have hf := in_el hc9 hf
      refine lv_aload_n hx hb dX7_follows_23 rfl (lv_at hl 0 rfl) ?_
      refine va_get (D := D) (ci := 7) (v := .ref (are 0)) (C := RX7) (T := TX7) (N := 8) hx hb hu inX7 hown hK.1 hP 0 rfl rfl 0 (by decide) (hu _ q300) (fun _ h9 => h9) rfl dX7_follows_24 ?_
      refine va_get (D := D) (ci := 2) (v := .ref (af 0)) (C := RX2) (T := TX2) (N := 4) hx hb hu inX2 hown hK.1 hP 2 rfl rfl 0 (by decide) (hu _ q196) (fun _ h9 => h9) rfl dX7_follows_27 ?_
      refine lv_iload_n hx hb dX7_follows_30 rfl (lv_at hl 1 rfl) ?_
      obtain ⟨r10, hg11, hf⟩ := b1_el hf
      refine cc_V (w' := ((kX7 cs ama (.ref (are 0)) (.ref (are2 0)) (.ref (are3 0)) (.ref (ach 0)) (.ref (ata 0)) (.ref (asa 0)) Ma) ++ ((kX2 cs are (.ref (af 0)) (.ref (ac 0)) (.ref (atr 0)) (.ref (ase 0)) ) ++ ((kX1 cs af  Fo) ++ ((kX3 cs ac  Sc) ++ ((kX4 cs ase (.ref (af 0)) (.ref (ac 0)) (.ref (atr 0)) Se) ++ ((kX4 cs atr (.ref (af 0)) (.ref (ac 0)) .null Tr)))))))) (wr := ((kX7 cs ama (.ref (are 0)) (.ref (are2 0)) (.ref (are3 0)) (.ref (ach 0)) (.ref (ata 0)) (.ref (asa 0)) Ma) ++ ((kX2 cs are (.ref (af 0)) (.ref (ac 0)) (.ref (atr 0)) (.ref (ase 0)) ) ++ ((kX3 cs ac  Sc) ++ ((kX4 cs ase (.ref (af 0)) (.ref (ac 0)) (.ref (atr 0)) Se) ++ ((kX4 cs atr (.ref (af 0)) (.ref (ac 0)) .null Tr))))))) (st1 := [.int r10]) [.int x1] hx hb hml hown hu (tX1_isAlive l D cs af x1 Fo r10 hg11) q356 q56 q353 q354 q355 pdX1_isAlive ⟨rfl, rfl, Nat.le_of_ble_eq_true rfl, Nat.le_of_ble_eq_true rfl⟩ hK hZ hP hD hS hA [3, 4, 5, 6, 7, 8, 9] [0, 1, 2, 10, 11, 12, 13, 14, 15, 16, 17, 18, 19, 20] [0, 1, 2, 14, 15, 16, 17, 18, 19, 20, 3, 4, 5, 6, 7, 8, 9, 10, 11, 12, 13] rfl rfl rfl rfl rfl rfl rfl rfl rfl rfl hl.1 rfl (Nat.le_of_ble_eq_true rfl) dX7_follows_31 rfl (fun H locs hP hD hS => ?_)
      refine lv_if_eq (tgt := 55) hx hb dX7_follows_34 (by decide) (fun hc12 => ?_) (fun hc12 => ?_)
      · have hf := ip_el hc12 hf
        exact h55 Ma Sc Tr _ _ _ hP hD hS (lv_sub hl [0] rfl) hf
      · have hf := in_el hc12 hf
        refine lv_aload_n hx hb dX7_follows_37 rfl (lv_at hl 0 rfl) ?_
        refine va_get (D := D) (ci := 7) (v := .ref (are 0)) (C := RX7) (T := TX7) (N := 8) hx hb hu inX7 hown hK.1 hP 0 rfl rfl 0 (by decide) (hu _ q300) (fun _ h9 => h9) rfl dX7_follows_38 ?_
        refine va_get (D := D) (ci := 2) (v := .ref (ase 0)) (C := RX2) (T := TX2) (N := 4) hx hb hu inX2 hown hK.1 hP 2 rfl rfl 3 (by decide) (hu _ q204) (fun _ h9 => h9) rfl dX7_follows_41 ?_
        refine lv_iload_n hx hb dX7_follows_44 rfl (lv_at hl 1 rfl) ?_
        obtain ⟨r16, hg17, hf⟩ := b1_el hf
        refine cc_V (w' := ((kX7 cs ama (.ref (are 0)) (.ref (are2 0)) (.ref (are3 0)) (.ref (ach 0)) (.ref (ata 0)) (.ref (asa 0)) Ma) ++ ((kX2 cs are (.ref (af 0)) (.ref (ac 0)) (.ref (atr 0)) (.ref (ase 0)) ) ++ ((kX1 cs af  Fo) ++ ((kX3 cs ac  Sc) ++ ((kX4 cs ase (.ref (af 0)) (.ref (ac 0)) (.ref (atr 0)) Se) ++ ((kX4 cs atr (.ref (af 0)) (.ref (ac 0)) .null Tr)))))))) (wr := ((kX7 cs ama (.ref (are 0)) (.ref (are2 0)) (.ref (are3 0)) (.ref (ach 0)) (.ref (ata 0)) (.ref (asa 0)) Ma) ++ ((kX2 cs are (.ref (af 0)) (.ref (ac 0)) (.ref (atr 0)) (.ref (ase 0)) ) ++ ((kX3 cs ac  Sc) ++ ((kX4 cs atr (.ref (af 0)) (.ref (ac 0)) .null Tr)))))) (st1 := [.int r16]) [.int x1] hx hb hml hown hu (tX4_allowed l D cs ase af ac (.ref (atr 0)) x1 Se Fo r16 hg17) q375 q58 q517 q373 q374 pdX4_allowed ⟨rfl, rfl, Nat.le_of_ble_eq_true rfl, Nat.le_of_ble_eq_true rfl⟩ hK hZ hP hD hS hA [13, 14, 15, 16, 3, 4, 5, 6, 7, 8, 9] [0, 1, 2, 10, 11, 12, 17, 18, 19, 20] [0, 1, 2, 14, 15, 16, 17, 18, 19, 20, 3, 4, 5, 10, 11, 12, 13, 6, 7, 8, 9] rfl rfl rfl rfl rfl rfl rfl rfl rfl rfl hl.1 rfl (Nat.le_of_ble_eq_true rfl) dX7_follows_45 rfl (fun H locs hP hD hS => ?_)
        refine lv_iload_n hx hb dX7_follows_48 rfl (lv_at hl 2 rfl) ?_
        obtain ⟨r18, hg19, hf⟩ := b1_el hf
        refine cc_S0 (st1 := [.int r18]) [.int r16, .int x2] hx hb hml hown hu (tX7_isIn l D cs r16 x2 r18 hg19) q363 q54 q522 q362 pdX7_isIn ⟨rfl, rfl, Nat.le_of_ble_eq_true rfl, Nat.le_of_ble_eq_true rfl⟩ hK hZ hP hD hS hA rfl hl.1 rfl (Nat.le_of_ble_eq_true rfl) dX7_follows_49 rfl (fun H locs hP hD hS => ?_)
        refine lv_if_ne (tgt := 62) hx hb dX7_follows_52 (by decide) (fun hc20 => ?_) (fun hc20 => ?_)
        · have hf := in_el hc20 hf
          refine lv_aload_n hx hb dX7_follows_62 rfl (lv_at hl 0 rfl) ?_
          refine va_get (D := D) (ci := 7) (v := .ref (are 0)) (C := RX7) (T := TX7) (N := 8) hx hb hu inX7 hown hK.1 hP 0 rfl rfl 0 (by decide) (hu _ q300) (fun _ h9 => h9) rfl dX7_follows_63 ?_
          refine va_get (D := D) (ci := 2) (v := .ref (ase 0)) (C := RX2) (T := TX2) (N := 4) hx hb hu inX2 hown hK.1 hP 2 rfl rfl 3 (by decide) (hu _ q204) (fun _ h9 => h9) rfl dX7_follows_66 ?_
          refine lv_iload_n hx hb dX7_follows_69 rfl (lv_at hl 1 rfl) ?_
          refine lv_iload_n hx hb dX7_follows_70 rfl (lv_at hl 2 rfl) ?_
          refine lv_iconst (v := 1) hx hb dX7_follows_71 (by decide) ?_
          obtain ⟨r21, Sc_22, Tr_23, hg24, hf⟩ := b3_el hf
          refine cc_V (w' := ((kX7 cs ama (.ref (are 0)) (.ref (are2 0)) (.ref (are3 0)) (.ref (ach 0)) (.ref (ata 0)) (.ref (asa 0)) Ma) ++ ((kX2 cs are (.ref (af 0)) (.ref (ac 0)) (.ref (atr 0)) (.ref (ase 0)) ) ++ ((kX1 cs af  Fo) ++ ((kX3 cs ac  Sc_22) ++ ((kX4 cs ase (.ref (af 0)) (.ref (ac 0)) (.ref (atr 0)) Se) ++ ((kX4 cs atr (.ref (af 0)) (.ref (ac 0)) .null Tr_23)))))))) (wr := ((kX7 cs ama (.ref (are 0)) (.ref (are2 0)) (.ref (are3 0)) (.ref (ach 0)) (.ref (ata 0)) (.ref (asa 0)) Ma) ++ ((kX2 cs are (.ref (af 0)) (.ref (ac 0)) (.ref (atr 0)) (.ref (ase 0)) )))) (st1 := [.int r21]) [.int x1, .int x2, .int 1] hx hb hml hown hu (tX4_whatFollows l D cs ase af ac atr x1 x2 1 Se Fo Sc Tr r21 Sc_22 Tr_23 hg24) q424 q58 q523 q422 q423 pdX4_whatFollows ⟨rfl, rfl, Nat.le_of_ble_eq_true rfl, Nat.le_of_ble_eq_true rfl⟩ hK hZ hP hD hS hA [13, 14, 15, 16, 3, 4, 5, 6, 7, 8, 9, 10, 11, 12, 17, 18, 19, 20] [0, 1, 2] [0, 1, 2, 7, 8, 9, 10, 11, 12, 13, 14, 15, 16, 3, 4, 5, 6, 17, 18, 19, 20] rfl rfl rfl rfl rfl rfl rfl rfl rfl rfl hl.1 rfl (Nat.le_of_ble_eq_true rfl) dX7_follows_72 rfl (fun H locs hP hD hS => ?_)
          have he := Option.some.inj hf
          obtain ⟨e0, ht0⟩ := Prod.mk.inj he
          obtain ⟨e1, ht1⟩ := Prod.mk.inj ht0
          obtain ⟨e2, e3⟩ := Prod.mk.inj ht1
          exact hri _ _ _ rfl (congrArg (fun z => some (Value.int z)) e0.symm) dX7_follows_75 _ _ _ (by rw [e1, e2, e3]) hP hD hS
        · have hf := ip_el hc20 hf
          exact h55 Ma Sc Tr _ _ _ hP hD hS (lv_sub hl [0] rfl) hf
    · have hf := ip_el hc9 hf
      exact h16 Ma Sc Tr _ _ _ hP hD hS (lv_sub hl [0] rfl) hf

def fX7_come (Ma : ST) (Fo : ST) (Sc : ST) (Se : ST) (Tr : ST) : Option (Int32 × ST × ST × ST) :=
  dc_b4 (fX4_next 1 Se Fo Sc Tr) (fun r1 Se_2 Sc_3 Tr_4 => some (r1, Sc_3, Se_2, Tr_4))
abbrev rmX7_come : Room := { frames := 10, cells := 0, slots := 0, locals := 256 }
set_option maxRecDepth 100000 in
set_option maxHeartbeats 4000000 in
theorem tX7_come (l : Launch) (D : va_G) (cs : Nat → ClassId) (ama : Nat → Nat) (are : Nat → Nat) (are2 : Nat → Nat) (are3 : Nat → Nat) (ach : Nat → Nat) (ata : Nat → Nat) (asa : Nat → Nat) (af : Nat → Nat) (ac : Nat → Nat) (atr : Nat → Nat) (ase : Nat → Nat) (Ma : ST) (Fo : ST) (Sc : ST) (Se : ST) (Tr : ST) (r0 : Int32) (Scz : ST) (Sez : ST) (Trz : ST) (hf : fX7_come Ma Fo Sc Se Tr = some (r0, Scz, Sez, Trz)) : CG l yX7_come (wsm yX7_come cX7_come 1 (some .int)) rmX7_come D cs [.ref (ama 0)] (some (.int r0)) ((kX7 cs ama (.ref (are 0)) (.ref (are2 0)) (.ref (are3 0)) (.ref (ach 0)) (.ref (ata 0)) (.ref (asa 0)) Ma) ++ ((kX2 cs are (.ref (af 0)) (.ref (ac 0)) (.ref (atr 0)) (.ref (ase 0)) ) ++ ((kX1 cs af  Fo) ++ ((kX3 cs ac  Sc) ++ ((kX4 cs ase (.ref (af 0)) (.ref (ac 0)) (.ref (atr 0)) Se) ++ ((kX4 cs atr (.ref (af 0)) (.ref (ac 0)) .null Tr))))))) ((kX7 cs ama (.ref (are 0)) (.ref (are2 0)) (.ref (are3 0)) (.ref (ach 0)) (.ref (ata 0)) (.ref (asa 0)) Ma) ++ ((kX2 cs are (.ref (af 0)) (.ref (ac 0)) (.ref (atr 0)) (.ref (ase 0)) ) ++ ((kX1 cs af  Fo) ++ ((kX3 cs ac  Scz) ++ ((kX4 cs ase (.ref (af 0)) (.ref (ac 0)) (.ref (atr 0)) Sez) ++ ((kX4 cs atr (.ref (af 0)) (.ref (ac 0)) .null Trz))))))) := by
  refine CG.intro (by decide) (Nat.le_of_ble_eq_true rfl) ?_
  intro p e s m below meth c A Q hx hb hml hown hu hK hZ hP0 hD0 hS0 hA hri hrz hrl hrv hra ls0 hl0
  have hl : lv_has ls0 1 [(0, .ref (ama 0))] := hl0
  have hP := hP0
  have hD := hD0
  have hS := hS0
  unfold fX7_come at hf
  refine lv_aload_n hx hb dX7_come_0 rfl (lv_at hl 0 rfl) ?_
  refine va_get (D := D) (ci := 7) (v := .ref (are 0)) (C := RX7) (T := TX7) (N := 8) hx hb hu inX7 hown hK.1 hP 0 rfl rfl 0 (by decide) (hu _ q300) (fun _ h9 => h9) rfl dX7_come_1 ?_
  refine va_get (D := D) (ci := 2) (v := .ref (ase 0)) (C := RX2) (T := TX2) (N := 4) hx hb hu inX2 hown hK.1 hP 2 rfl rfl 3 (by decide) (hu _ q204) (fun _ h9 => h9) rfl dX7_come_4 ?_
  refine lv_iconst (v := 1) hx hb dX7_come_7 (by decide) ?_
  obtain ⟨r1, Se_2, Sc_3, Tr_4, hg5, hf⟩ := b4_el hf
  refine cc_V (w' := ((kX7 cs ama (.ref (are 0)) (.ref (are2 0)) (.ref (are3 0)) (.ref (ach 0)) (.ref (ata 0)) (.ref (asa 0)) Ma) ++ ((kX2 cs are (.ref (af 0)) (.ref (ac 0)) (.ref (atr 0)) (.ref (ase 0)) ) ++ ((kX1 cs af  Fo) ++ ((kX3 cs ac  Sc_3) ++ ((kX4 cs ase (.ref (af 0)) (.ref (ac 0)) (.ref (atr 0)) Se_2) ++ ((kX4 cs atr (.ref (af 0)) (.ref (ac 0)) .null Tr_4)))))))) (wr := ((kX7 cs ama (.ref (are 0)) (.ref (are2 0)) (.ref (are3 0)) (.ref (ach 0)) (.ref (ata 0)) (.ref (asa 0)) Ma) ++ ((kX2 cs are (.ref (af 0)) (.ref (ac 0)) (.ref (atr 0)) (.ref (ase 0)) )))) (st1 := [.int r1]) [.int 1] hx hb hml hown hu (tX4_next l D cs ase af ac atr 1 Se Fo Sc Tr r1 Se_2 Sc_3 Tr_4 hg5) q439 q58 q528 q437 q438 pdX4_next ⟨rfl, rfl, Nat.le_of_ble_eq_true rfl, Nat.le_of_ble_eq_true rfl⟩ hK hZ hP hD hS hA [13, 14, 15, 16, 3, 4, 5, 6, 7, 8, 9, 10, 11, 12, 17, 18, 19, 20] [0, 1, 2] [0, 1, 2, 7, 8, 9, 10, 11, 12, 13, 14, 15, 16, 3, 4, 5, 6, 17, 18, 19, 20] rfl rfl rfl rfl rfl rfl rfl rfl rfl rfl hl.1 rfl (Nat.le_of_ble_eq_true rfl) dX7_come_8 rfl (fun H locs hP hD hS => ?_)
  have he := Option.some.inj hf
  obtain ⟨e0, ht0⟩ := Prod.mk.inj he
  obtain ⟨e1, ht1⟩ := Prod.mk.inj ht0
  obtain ⟨e2, e3⟩ := Prod.mk.inj ht1
  exact hri _ _ _ rfl (congrArg (fun z => some (Value.int z)) e0.symm) dX7_come_11 _ _ _ (by rw [e1, e2, e3]) hP hD hS

def fX7_years_21_s (k21 : Int32 → Int32 → Int32 → ST → ST → ST → ST → ST → Option (Int32 × ST × ST × ST × ST × ST)) (y1 : Int32) (y2 : Int32) (y3 : Int32) (Ma : ST) (Fo : ST) (Sc : ST) (Se : ST) (Tr : ST) : Option (Int32 × ST × ST × ST × ST × ST) :=
  (if y1 ≤ y3 then some (y2, Ma, Fo, Sc, Se, Tr) else dc_b5 (fX4_year Se Fo Sc Tr) (fun r5 Se_6 Fo_7 Sc_8 Tr_9 => (if r5 = 0 then dc_lt (y3 + 1) (fun v12 => k21 y1 y2 v12 Ma Fo_7 Sc_8 Se_6 Tr_9) else dc_lt (y2 + 1) (fun v13 => dc_lt (y3 + 1) (fun v14 => k21 y1 v13 v14 Ma Fo_7 Sc_8 Se_6 Tr_9)))))
def fX7_years_21 : Nat → Int32 → Int32 → Int32 → ST → ST → ST → ST → ST → Option (Int32 × ST × ST × ST × ST × ST)
  | 0 => fun _ _ _ _ _ _ _ _ => none
  | n + 1 => fX7_years_21_s (fX7_years_21 n)
def fX7_years (x1 : Int32) (Ma : ST) (Fo : ST) (Sc : ST) (Se : ST) (Tr : ST) : Option (Int32 × ST × ST × ST × ST × ST) :=
  dc_b1 (fX7_within x1 1 50) (fun r1 => (if r1 = 0 then dc_b2 (fX7_finding (-1000000001) Ma) (fun r15 Ma_16 => some (r15, Ma_16, Fo, Sc, Se, Tr)) else fX7_years_21 400 x1 0 0 Ma Fo Sc Se Tr))
abbrev rmX7_years : Room := { frames := 11, cells := 0, slots := 0, locals := 276 }
set_option maxRecDepth 100000 in
set_option maxHeartbeats 4000000 in
theorem tX7_years (l : Launch) (D : va_G) (cs : Nat → ClassId) (ama : Nat → Nat) (are : Nat → Nat) (are2 : Nat → Nat) (are3 : Nat → Nat) (ach : Nat → Nat) (ata : Nat → Nat) (asa : Nat → Nat) (af : Nat → Nat) (ac : Nat → Nat) (atr : Nat → Nat) (ase : Nat → Nat) (x1 : Int32) (Ma : ST) (Fo : ST) (Sc : ST) (Se : ST) (Tr : ST) (r0 : Int32) (Maz : ST) (Foz : ST) (Scz : ST) (Sez : ST) (Trz : ST) (hf : fX7_years x1 Ma Fo Sc Se Tr = some (r0, Maz, Foz, Scz, Sez, Trz)) : CG l yX7_years (wsm yX7_years cX7_years 4 (some .int)) rmX7_years D cs [.ref (ama 0), .int x1] (some (.int r0)) ((kX7 cs ama (.ref (are 0)) (.ref (are2 0)) (.ref (are3 0)) (.ref (ach 0)) (.ref (ata 0)) (.ref (asa 0)) Ma) ++ ((kX2 cs are (.ref (af 0)) (.ref (ac 0)) (.ref (atr 0)) (.ref (ase 0)) ) ++ ((kX1 cs af  Fo) ++ ((kX3 cs ac  Sc) ++ ((kX4 cs ase (.ref (af 0)) (.ref (ac 0)) (.ref (atr 0)) Se) ++ ((kX4 cs atr (.ref (af 0)) (.ref (ac 0)) .null Tr))))))) ((kX7 cs ama (.ref (are 0)) (.ref (are2 0)) (.ref (are3 0)) (.ref (ach 0)) (.ref (ata 0)) (.ref (asa 0)) Maz) ++ ((kX2 cs are (.ref (af 0)) (.ref (ac 0)) (.ref (atr 0)) (.ref (ase 0)) ) ++ ((kX1 cs af  Foz) ++ ((kX3 cs ac  Scz) ++ ((kX4 cs ase (.ref (af 0)) (.ref (ac 0)) (.ref (atr 0)) Sez) ++ ((kX4 cs atr (.ref (af 0)) (.ref (ac 0)) .null Trz))))))) := by
  refine CG.intro (by decide) (Nat.le_of_ble_eq_true rfl) ?_
  intro p e s m below meth c A Q hx hb hml hown hu hK hZ hP0 hD0 hS0 hA hri hrz hrl hrv hra ls0 hl0
  have hs21 : ∀ (k21 : Int32 → Int32 → Int32 → ST → ST → ST → ST → ST → Option (Int32 × ST × ST × ST × ST × ST)), (∀ (y1 : Int32) (y2 : Int32) (y3 : Int32) (Ma : ST) (Fo : ST) (Sc : ST) (Se : ST) (Tr : ST) (H : Heap) (locs : List Loc) (ls : Array Slot), va_P D vwCl ((kX7 cs ama (.ref (are 0)) (.ref (are2 0)) (.ref (are3 0)) (.ref (ach 0)) (.ref (ata 0)) (.ref (asa 0)) Ma) ++ ((kX2 cs are (.ref (af 0)) (.ref (ac 0)) (.ref (atr 0)) (.ref (ase 0)) ) ++ ((kX1 cs af  Fo) ++ ((kX3 cs ac  Sc) ++ ((kX4 cs ase (.ref (af 0)) (.ref (ac 0)) (.ref (atr 0)) Se) ++ ((kX4 cs atr (.ref (af 0)) (.ref (ac 0)) .null Tr))))))) H → va_D A ((kX7 cs ama (.ref (are 0)) (.ref (are2 0)) (.ref (are3 0)) (.ref (ach 0)) (.ref (ata 0)) (.ref (asa 0)) Ma) ++ ((kX2 cs are (.ref (af 0)) (.ref (ac 0)) (.ref (atr 0)) (.ref (ase 0)) ) ++ ((kX1 cs af  Fo) ++ ((kX3 cs ac  Sc) ++ ((kX4 cs ase (.ref (af 0)) (.ref (ac 0)) (.ref (atr 0)) Se) ++ ((kX4 cs atr (.ref (af 0)) (.ref (ac 0)) .null Tr))))))) → va_S A s.heap H locs → lv_has ls 4 [(0, .ref (ama 0)), (1, .int y1), (2, .int y2), (3, .int y3)] → k21 y1 y2 y3 Ma Fo Sc Se Tr = some (r0, Maz, Foz, Scz, Sez, Trz) → W p l e rmX7_years s m [.ref (ama 0), .int x1].toArray below meth c H locs 0 0 Q (F0 m 21 ls [])) → ∀ (y1 : Int32) (y2 : Int32) (y3 : Int32) (Ma : ST) (Fo : ST) (Sc : ST) (Se : ST) (Tr : ST) (H : Heap) (locs : List Loc) (ls : Array Slot), va_P D vwCl ((kX7 cs ama (.ref (are 0)) (.ref (are2 0)) (.ref (are3 0)) (.ref (ach 0)) (.ref (ata 0)) (.ref (asa 0)) Ma) ++ ((kX2 cs are (.ref (af 0)) (.ref (ac 0)) (.ref (atr 0)) (.ref (ase 0)) ) ++ ((kX1 cs af  Fo) ++ ((kX3 cs ac  Sc) ++ ((kX4 cs ase (.ref (af 0)) (.ref (ac 0)) (.ref (atr 0)) Se) ++ ((kX4 cs atr (.ref (af 0)) (.ref (ac 0)) .null Tr))))))) H → va_D A ((kX7 cs ama (.ref (are 0)) (.ref (are2 0)) (.ref (are3 0)) (.ref (ach 0)) (.ref (ata 0)) (.ref (asa 0)) Ma) ++ ((kX2 cs are (.ref (af 0)) (.ref (ac 0)) (.ref (atr 0)) (.ref (ase 0)) ) ++ ((kX1 cs af  Fo) ++ ((kX3 cs ac  Sc) ++ ((kX4 cs ase (.ref (af 0)) (.ref (ac 0)) (.ref (atr 0)) Se) ++ ((kX4 cs atr (.ref (af 0)) (.ref (ac 0)) .null Tr))))))) → va_S A s.heap H locs → lv_has ls 4 [(0, .ref (ama 0)), (1, .int y1), (2, .int y2), (3, .int y3)] → fX7_years_21_s k21 y1 y2 y3 Ma Fo Sc Se Tr = some (r0, Maz, Foz, Scz, Sez, Trz) → W p l e rmX7_years s m [.ref (ama 0), .int x1].toArray below meth c H locs 0 0 Q (F0 m 21 ls []) := by
    intro k21 hk21 y1 y2 y3 Ma Fo Sc Se Tr H locs ls hP hD hS hl hf
    unfold fX7_years_21_s at hf
    refine lv_iload_n hx hb dX7_years_21 rfl (lv_at hl 3 rfl) ?_
    refine lv_iload_n hx hb dX7_years_22 rfl (lv_at hl 1 rfl) ?_
    refine lv_icmp_ge (tgt := 48) hx hb dX7_years_23 (by decide) (fun hc4 => ?_) (fun hc4 => ?_)
    · have hf := ip_el hc4 hf
      refine lv_iload_n hx hb dX7_years_48 rfl (lv_at hl 2 rfl) ?_
      have he := Option.some.inj hf
      obtain ⟨e0, ht0⟩ := Prod.mk.inj he
      obtain ⟨e1, ht1⟩ := Prod.mk.inj ht0
      obtain ⟨e2, ht2⟩ := Prod.mk.inj ht1
      obtain ⟨e3, ht3⟩ := Prod.mk.inj ht2
      obtain ⟨e4, e5⟩ := Prod.mk.inj ht3
      exact hri _ _ _ rfl (congrArg (fun z => some (Value.int z)) e0.symm) dX7_years_49 _ _ _ (by rw [e1, e2, e3, e4, e5]) hP hD hS
    · have hf := in_el hc4 hf
      refine lv_aload_n hx hb dX7_years_26 rfl (lv_at hl 0 rfl) ?_
      refine va_get (D := D) (ci := 7) (v := .ref (are 0)) (C := RX7) (T := TX7) (N := 8) hx hb hu inX7 hown hK.1 hP 0 rfl rfl 0 (by decide) (hu _ q300) (fun _ h9 => h9) rfl dX7_years_27 ?_
      refine va_get (D := D) (ci := 2) (v := .ref (ase 0)) (C := RX2) (T := TX2) (N := 4) hx hb hu inX2 hown hK.1 hP 2 rfl rfl 3 (by decide) (hu _ q204) (fun _ h9 => h9) rfl dX7_years_30 ?_
      obtain ⟨r5, Se_6, Fo_7, Sc_8, Tr_9, hg10, hf⟩ := b5_el hf
      refine cc_V (w' := ((kX7 cs ama (.ref (are 0)) (.ref (are2 0)) (.ref (are3 0)) (.ref (ach 0)) (.ref (ata 0)) (.ref (asa 0)) Ma) ++ ((kX2 cs are (.ref (af 0)) (.ref (ac 0)) (.ref (atr 0)) (.ref (ase 0)) ) ++ ((kX1 cs af  Fo_7) ++ ((kX3 cs ac  Sc_8) ++ ((kX4 cs ase (.ref (af 0)) (.ref (ac 0)) (.ref (atr 0)) Se_6) ++ ((kX4 cs atr (.ref (af 0)) (.ref (ac 0)) .null Tr_9)))))))) (wr := ((kX7 cs ama (.ref (are 0)) (.ref (are2 0)) (.ref (are3 0)) (.ref (ach 0)) (.ref (ata 0)) (.ref (asa 0)) Ma) ++ ((kX2 cs are (.ref (af 0)) (.ref (ac 0)) (.ref (atr 0)) (.ref (ase 0)) )))) (st1 := [.int r5]) [] hx hb hml hown hu (tX4_year l D cs ase af ac atr Se Fo Sc Tr r5 Se_6 Fo_7 Sc_8 Tr_9 hg10) q536 q58 q533 q534 q535 pdX4_year ⟨rfl, rfl, Nat.le_of_ble_eq_true rfl, Nat.le_of_ble_eq_true rfl⟩ hK hZ hP hD hS hA [13, 14, 15, 16, 3, 4, 5, 6, 7, 8, 9, 10, 11, 12, 17, 18, 19, 20] [0, 1, 2] [0, 1, 2, 7, 8, 9, 10, 11, 12, 13, 14, 15, 16, 3, 4, 5, 6, 17, 18, 19, 20] rfl rfl rfl rfl rfl rfl rfl rfl rfl rfl hl.1 rfl (Nat.le_of_ble_eq_true rfl) dX7_years_33 rfl (fun H locs hP hD hS => ?_)
      refine lv_if_eq (tgt := 42) hx hb dX7_years_36 (by decide) (fun hc11 => ?_) (fun hc11 => ?_)
      · have hf := ip_el hc11 hf
        obtain ⟨v12, hv12, hf⟩ := lt_el hf
        refine lv_iinc (v := v12) (lv' := [(3, .int v12), (0, .ref (ama 0)), (1, .int y1), (2, .int y2)]) hx hb dX7_years_42 hl (k := 3) rfl (by rw [hv12]; rfl) (by decide) rfl (fun ls hl => ?_)
        refine lv_goto (tgt := 21) hx hb dX7_years_45 (by decide) ?_
        exact hk21 y1 y2 v12 Ma Fo_7 Sc_8 Se_6 Tr_9 _ _ _ hP hD hS (lv_sub hl [1, 2, 3, 0] rfl) hf
      · have hf := in_el hc11 hf
        obtain ⟨v13, hv13, hf⟩ := lt_el hf
        refine lv_iinc (v := v13) (lv' := [(2, .int v13), (0, .ref (ama 0)), (1, .int y1), (3, .int y3)]) hx hb dX7_years_39 hl (k := 2) rfl (by rw [hv13]; rfl) (by decide) rfl (fun ls hl => ?_)
        obtain ⟨v14, hv14, hf⟩ := lt_el hf
        refine lv_iinc (v := v14) (lv' := [(3, .int v14), (2, .int v13), (0, .ref (ama 0)), (1, .int y1)]) hx hb dX7_years_42 hl (k := 3) rfl (by rw [hv14]; rfl) (by decide) rfl (fun ls hl => ?_)
        refine lv_goto (tgt := 21) hx hb dX7_years_45 (by decide) ?_
        exact hk21 y1 v13 v14 Ma Fo_7 Sc_8 Se_6 Tr_9 _ _ _ hP hD hS (lv_sub hl [2, 3, 1, 0] rfl) hf
  have h21 : ∀ (n : Nat), ∀ (y1 : Int32) (y2 : Int32) (y3 : Int32) (Ma : ST) (Fo : ST) (Sc : ST) (Se : ST) (Tr : ST) (H : Heap) (locs : List Loc) (ls : Array Slot), va_P D vwCl ((kX7 cs ama (.ref (are 0)) (.ref (are2 0)) (.ref (are3 0)) (.ref (ach 0)) (.ref (ata 0)) (.ref (asa 0)) Ma) ++ ((kX2 cs are (.ref (af 0)) (.ref (ac 0)) (.ref (atr 0)) (.ref (ase 0)) ) ++ ((kX1 cs af  Fo) ++ ((kX3 cs ac  Sc) ++ ((kX4 cs ase (.ref (af 0)) (.ref (ac 0)) (.ref (atr 0)) Se) ++ ((kX4 cs atr (.ref (af 0)) (.ref (ac 0)) .null Tr))))))) H → va_D A ((kX7 cs ama (.ref (are 0)) (.ref (are2 0)) (.ref (are3 0)) (.ref (ach 0)) (.ref (ata 0)) (.ref (asa 0)) Ma) ++ ((kX2 cs are (.ref (af 0)) (.ref (ac 0)) (.ref (atr 0)) (.ref (ase 0)) ) ++ ((kX1 cs af  Fo) ++ ((kX3 cs ac  Sc) ++ ((kX4 cs ase (.ref (af 0)) (.ref (ac 0)) (.ref (atr 0)) Se) ++ ((kX4 cs atr (.ref (af 0)) (.ref (ac 0)) .null Tr))))))) → va_S A s.heap H locs → lv_has ls 4 [(0, .ref (ama 0)), (1, .int y1), (2, .int y2), (3, .int y3)] → fX7_years_21 n y1 y2 y3 Ma Fo Sc Se Tr = some (r0, Maz, Foz, Scz, Sez, Trz) → W p l e rmX7_years s m [.ref (ama 0), .int x1].toArray below meth c H locs 0 0 Q (F0 m 21 ls []) := by
    intro n
    induction n with
    | zero => intro y1 y2 y3 Ma Fo Sc Se Tr H locs ls hP hD hS hl hf; exact no_el hf
    | succ n ih => intro y1 y2 y3 Ma Fo Sc Se Tr H locs ls hP hD hS hl hf; exact hs21 _ ih y1 y2 y3 Ma Fo Sc Se Tr _ _ _ hP hD hS hl hf
  have hl : lv_has ls0 4 [(0, .ref (ama 0)), (1, .int x1)] := hl0
  have hP := hP0
  have hD := hD0
  have hS := hS0
  unfold fX7_years at hf
  refine lv_iload_n hx hb dX7_years_0 rfl (lv_at hl 1 rfl) ?_
  refine lv_iconst (v := 1) hx hb dX7_years_1 (by decide) ?_
  refine lv_bipush (v := 50) hx hb dX7_years_2 (by decide) ?_
  obtain ⟨r1, hg2, hf⟩ := b1_el hf
  refine cc_S0 (st1 := [.int r1]) [.int x1, .int 1, .int 50] hx hb hml hown hu (tX7_within l D cs x1 1 50 r1 hg2) q331 q54 q329 q330 pdX7_within ⟨rfl, rfl, Nat.le_of_ble_eq_true rfl, Nat.le_of_ble_eq_true rfl⟩ hK hZ hP hD hS hA rfl hl.1 rfl (Nat.le_of_ble_eq_true rfl) dX7_years_4 rfl (fun H locs hP hD hS => ?_)
  refine lv_if_ne (tgt := 17) hx hb dX7_years_7 (by decide) (fun hc3 => ?_) (fun hc3 => ?_)
  · have hf := in_el hc3 hf
    refine lv_iconst (v := 0) hx hb dX7_years_17 (by decide) ?_
    refine lv_istore_n (lv' := [(2, .int 0), (0, .ref (ama 0)), (1, .int x1)]) hx hb dX7_years_18 rfl hl (by decide) rfl (fun ls hl => ?_)
    refine lv_iconst (v := 0) hx hb dX7_years_19 (by decide) ?_
    refine lv_istore_n (lv' := [(3, .int 0), (2, .int 0), (0, .ref (ama 0)), (1, .int x1)]) hx hb dX7_years_20 rfl hl (by decide) rfl (fun ls hl => ?_)
    exact h21 400 x1 0 0 Ma Fo Sc Se Tr _ _ _ hP hD hS (lv_sub hl [2, 3, 1, 0] rfl) hf
  · have hf := ip_el hc3 hf
    refine lv_aload_n hx hb dX7_years_10 rfl (lv_at hl 0 rfl) ?_
    refine lv_ldc (v := (-1000000001)) hx hb hown (hu _ q335) dX7_years_11 ?_
    obtain ⟨r15, Ma_16, hg17, hf⟩ := b2_el hf
    refine cc_V (w' := ((kX7 cs ama (.ref (are 0)) (.ref (are2 0)) (.ref (are3 0)) (.ref (ach 0)) (.ref (ata 0)) (.ref (asa 0)) Ma_16) ++ ((kX2 cs are (.ref (af 0)) (.ref (ac 0)) (.ref (atr 0)) (.ref (ase 0)) ) ++ ((kX1 cs af  Fo) ++ ((kX3 cs ac  Sc) ++ ((kX4 cs ase (.ref (af 0)) (.ref (ac 0)) (.ref (atr 0)) Se) ++ ((kX4 cs atr (.ref (af 0)) (.ref (ac 0)) .null Tr)))))))) (wr := ((kX2 cs are (.ref (af 0)) (.ref (ac 0)) (.ref (atr 0)) (.ref (ase 0)) ) ++ ((kX1 cs af  Fo) ++ ((kX3 cs ac  Sc) ++ ((kX4 cs ase (.ref (af 0)) (.ref (ac 0)) (.ref (atr 0)) Se) ++ ((kX4 cs atr (.ref (af 0)) (.ref (ac 0)) .null Tr))))))) (st1 := [.int r15]) [.int (-1000000001)] hx hb hml hown hu (tX7_finding l D cs ama are are2 are3 ach ata asa (-1000000001) Ma r15 Ma_16 hg17) q339 q54 q336 q338 q0 pdX7_finding ⟨rfl, rfl, Nat.le_of_ble_eq_true rfl, Nat.le_of_ble_eq_true rfl⟩ hK hZ hP hD hS hA [0, 1] [2, 3, 4, 5, 6, 7, 8, 9, 10, 11, 12, 13, 14, 15, 16, 17, 18, 19, 20] [19, 20, 0, 1, 2, 3, 4, 5, 6, 7, 8, 9, 10, 11, 12, 13, 14, 15, 16, 17, 18] rfl rfl rfl rfl rfl rfl rfl rfl rfl rfl hl.1 rfl (Nat.le_of_ble_eq_true rfl) dX7_years_13 rfl (fun H locs hP hD hS => ?_)
    have he := Option.some.inj hf
    obtain ⟨e0, ht0⟩ := Prod.mk.inj he
    obtain ⟨e1, ht1⟩ := Prod.mk.inj ht0
    obtain ⟨e2, ht2⟩ := Prod.mk.inj ht1
    obtain ⟨e3, ht3⟩ := Prod.mk.inj ht2
    obtain ⟨e4, e5⟩ := Prod.mk.inj ht3
    exact hri _ _ _ rfl (congrArg (fun z => some (Value.int z)) e0.symm) dX7_years_16 _ _ _ (by rw [e1, e2, e3, e4, e5]) hP hD hS

def fX7_ahead_25_s (Fo : ST) (Se : ST) (Ch : ST) (k25 : Int32 → Int32 → Int32 → ST → ST → ST → ST → Option (Int32 × ST × ST × ST × ST)) (y1 : Int32) (y2 : Int32) (y3 : Int32) (Ma : ST) (Sc : ST) (Tr : ST) (Us : ST) : Option (Int32 × ST × ST × ST × ST) :=
  (if y1 ≤ y3 then some (y2, Ma, Sc, Tr, Us) else dc_b4 (fX4_next 1 Us Fo Sc Tr) (fun r7 Us_8 Sc_9 Tr_10 => dc_lt (y3 + 1) (fun v12 => k25 y1 r7 v12 Ma Sc_9 Tr_10 Us_8)))
def fX7_ahead_25 (Fo : ST) (Se : ST) (Ch : ST) : Nat → Int32 → Int32 → Int32 → ST → ST → ST → ST → Option (Int32 × ST × ST × ST × ST)
  | 0 => fun _ _ _ _ _ _ _ => none
  | n + 1 => fX7_ahead_25_s Fo Se Ch (fX7_ahead_25 Fo Se Ch n)
def fX7_ahead (x1 : Int32) (Ma : ST) (Fo : ST) (Sc : ST) (Se : ST) (Tr : ST) (Ch : ST) (Us : ST) : Option (Int32 × ST × ST × ST × ST) :=
  dc_b1 (fX7_isChairs x1) (fun r1 => (if r1 = 0 then dc_b2 (fX7_finding (-1000000001) Ma) (fun r13 Ma_14 => some (r13, Ma_14, Sc, Tr, Us)) else dc_b1 (fX0_start Ch Se Us) (fun Us_4 => fX7_ahead_25 Fo Se Ch 400 x1 (-1) 0 Ma Sc Tr Us_4)))
abbrev rmX7_ahead : Room := { frames := 10, cells := 0, slots := 0, locals := 256 }
set_option maxRecDepth 100000 in
set_option maxHeartbeats 4000000 in
theorem tX7_ahead (l : Launch) (D : va_G) (cs : Nat → ClassId) (ama : Nat → Nat) (are : Nat → Nat) (are2 : Nat → Nat) (are3 : Nat → Nat) (ach : Nat → Nat) (ata : Nat → Nat) (asa : Nat → Nat) (af : Nat → Nat) (ac : Nat → Nat) (atr : Nat → Nat) (ase : Nat → Nat) (aus : Nat → Nat) (x1 : Int32) (Ma : ST) (Fo : ST) (Sc : ST) (Se : ST) (Tr : ST) (Ch : ST) (Us : ST) (r0 : Int32) (Maz : ST) (Scz : ST) (Trz : ST) (Usz : ST) (hf : fX7_ahead x1 Ma Fo Sc Se Tr Ch Us = some (r0, Maz, Scz, Trz, Usz)) : CG l yX7_ahead (wsm yX7_ahead cX7_ahead 4 (some .int)) rmX7_ahead D cs [.ref (ama 0), .int x1] (some (.int r0)) ((kX7 cs ama (.ref (are 0)) (.ref (are2 0)) (.ref (are3 0)) (.ref (ach 0)) (.ref (ata 0)) (.ref (asa 0)) Ma) ++ ((kX2 cs are (.ref (af 0)) (.ref (ac 0)) (.ref (atr 0)) (.ref (ase 0)) ) ++ ((kX1 cs af  Fo) ++ ((kX3 cs ac  Sc) ++ ((kX4 cs ase (.ref (af 0)) (.ref (ac 0)) (.ref (atr 0)) Se) ++ ((kX4 cs atr (.ref (af 0)) (.ref (ac 0)) .null Tr) ++ ((kX0 cs ach (.ref (are 0)) (.ref (aus 0)) Ch) ++ ((kX4 cs aus (.ref (af 0)) (.ref (ac 0)) (.ref (atr 0)) Us))))))))) ((kX7 cs ama (.ref (are 0)) (.ref (are2 0)) (.ref (are3 0)) (.ref (ach 0)) (.ref (ata 0)) (.ref (asa 0)) Maz) ++ ((kX2 cs are (.ref (af 0)) (.ref (ac 0)) (.ref (atr 0)) (.ref (ase 0)) ) ++ ((kX1 cs af  Fo) ++ ((kX3 cs ac  Scz) ++ ((kX4 cs ase (.ref (af 0)) (.ref (ac 0)) (.ref (atr 0)) Se) ++ ((kX4 cs atr (.ref (af 0)) (.ref (ac 0)) .null Trz) ++ ((kX0 cs ach (.ref (are 0)) (.ref (aus 0)) Ch) ++ ((kX4 cs aus (.ref (af 0)) (.ref (ac 0)) (.ref (atr 0)) Usz))))))))) := by
  refine CG.intro (by decide) (Nat.le_of_ble_eq_true rfl) ?_
  intro p e s m below meth c A Q hx hb hml hown hu hK hZ hP0 hD0 hS0 hA hri hrz hrl hrv hra ls0 hl0
  have hs25 : ∀ (k25 : Int32 → Int32 → Int32 → ST → ST → ST → ST → Option (Int32 × ST × ST × ST × ST)), (∀ (y1 : Int32) (y2 : Int32) (y3 : Int32) (Ma : ST) (Sc : ST) (Tr : ST) (Us : ST) (H : Heap) (locs : List Loc) (ls : Array Slot), va_P D vwCl ((kX7 cs ama (.ref (are 0)) (.ref (are2 0)) (.ref (are3 0)) (.ref (ach 0)) (.ref (ata 0)) (.ref (asa 0)) Ma) ++ ((kX2 cs are (.ref (af 0)) (.ref (ac 0)) (.ref (atr 0)) (.ref (ase 0)) ) ++ ((kX1 cs af  Fo) ++ ((kX3 cs ac  Sc) ++ ((kX4 cs ase (.ref (af 0)) (.ref (ac 0)) (.ref (atr 0)) Se) ++ ((kX4 cs atr (.ref (af 0)) (.ref (ac 0)) .null Tr) ++ ((kX0 cs ach (.ref (are 0)) (.ref (aus 0)) Ch) ++ ((kX4 cs aus (.ref (af 0)) (.ref (ac 0)) (.ref (atr 0)) Us))))))))) H → va_D A ((kX7 cs ama (.ref (are 0)) (.ref (are2 0)) (.ref (are3 0)) (.ref (ach 0)) (.ref (ata 0)) (.ref (asa 0)) Ma) ++ ((kX2 cs are (.ref (af 0)) (.ref (ac 0)) (.ref (atr 0)) (.ref (ase 0)) ) ++ ((kX1 cs af  Fo) ++ ((kX3 cs ac  Sc) ++ ((kX4 cs ase (.ref (af 0)) (.ref (ac 0)) (.ref (atr 0)) Se) ++ ((kX4 cs atr (.ref (af 0)) (.ref (ac 0)) .null Tr) ++ ((kX0 cs ach (.ref (are 0)) (.ref (aus 0)) Ch) ++ ((kX4 cs aus (.ref (af 0)) (.ref (ac 0)) (.ref (atr 0)) Us))))))))) → va_S A s.heap H locs → lv_has ls 4 [(0, .ref (ama 0)), (1, .int y1), (2, .int y2), (3, .int y3)] → k25 y1 y2 y3 Ma Sc Tr Us = some (r0, Maz, Scz, Trz, Usz) → W p l e rmX7_ahead s m [.ref (ama 0), .int x1].toArray below meth c H locs 0 0 Q (F0 m 25 ls [])) → ∀ (y1 : Int32) (y2 : Int32) (y3 : Int32) (Ma : ST) (Sc : ST) (Tr : ST) (Us : ST) (H : Heap) (locs : List Loc) (ls : Array Slot), va_P D vwCl ((kX7 cs ama (.ref (are 0)) (.ref (are2 0)) (.ref (are3 0)) (.ref (ach 0)) (.ref (ata 0)) (.ref (asa 0)) Ma) ++ ((kX2 cs are (.ref (af 0)) (.ref (ac 0)) (.ref (atr 0)) (.ref (ase 0)) ) ++ ((kX1 cs af  Fo) ++ ((kX3 cs ac  Sc) ++ ((kX4 cs ase (.ref (af 0)) (.ref (ac 0)) (.ref (atr 0)) Se) ++ ((kX4 cs atr (.ref (af 0)) (.ref (ac 0)) .null Tr) ++ ((kX0 cs ach (.ref (are 0)) (.ref (aus 0)) Ch) ++ ((kX4 cs aus (.ref (af 0)) (.ref (ac 0)) (.ref (atr 0)) Us))))))))) H → va_D A ((kX7 cs ama (.ref (are 0)) (.ref (are2 0)) (.ref (are3 0)) (.ref (ach 0)) (.ref (ata 0)) (.ref (asa 0)) Ma) ++ ((kX2 cs are (.ref (af 0)) (.ref (ac 0)) (.ref (atr 0)) (.ref (ase 0)) ) ++ ((kX1 cs af  Fo) ++ ((kX3 cs ac  Sc) ++ ((kX4 cs ase (.ref (af 0)) (.ref (ac 0)) (.ref (atr 0)) Se) ++ ((kX4 cs atr (.ref (af 0)) (.ref (ac 0)) .null Tr) ++ ((kX0 cs ach (.ref (are 0)) (.ref (aus 0)) Ch) ++ ((kX4 cs aus (.ref (af 0)) (.ref (ac 0)) (.ref (atr 0)) Us))))))))) → va_S A s.heap H locs → lv_has ls 4 [(0, .ref (ama 0)), (1, .int y1), (2, .int y2), (3, .int y3)] → fX7_ahead_25_s Fo Se Ch k25 y1 y2 y3 Ma Sc Tr Us = some (r0, Maz, Scz, Trz, Usz) → W p l e rmX7_ahead s m [.ref (ama 0), .int x1].toArray below meth c H locs 0 0 Q (F0 m 25 ls []) := by
    intro k25 hk25 y1 y2 y3 Ma Sc Tr Us H locs ls hP hD hS hl hf
    unfold fX7_ahead_25_s at hf
    refine lv_iload_n hx hb dX7_ahead_25 rfl (lv_at hl 3 rfl) ?_
    refine lv_iload_n hx hb dX7_ahead_26 rfl (lv_at hl 1 rfl) ?_
    refine lv_icmp_ge (tgt := 48) hx hb dX7_ahead_27 (by decide) (fun hc6 => ?_) (fun hc6 => ?_)
    · have hf := ip_el hc6 hf
      refine lv_iload_n hx hb dX7_ahead_48 rfl (lv_at hl 2 rfl) ?_
      have he := Option.some.inj hf
      obtain ⟨e0, ht0⟩ := Prod.mk.inj he
      obtain ⟨e1, ht1⟩ := Prod.mk.inj ht0
      obtain ⟨e2, ht2⟩ := Prod.mk.inj ht1
      obtain ⟨e3, e4⟩ := Prod.mk.inj ht2
      exact hri _ _ _ rfl (congrArg (fun z => some (Value.int z)) e0.symm) dX7_ahead_49 _ _ _ (by rw [e1, e2, e3, e4]) hP hD hS
    · have hf := in_el hc6 hf
      refine lv_aload_n hx hb dX7_ahead_30 rfl (lv_at hl 0 rfl) ?_
      refine va_get (D := D) (ci := 7) (v := .ref (ach 0)) (C := RX7) (T := TX7) (N := 8) hx hb hu inX7 hown hK.1 hP 0 rfl rfl 3 (by decide) (hu _ q303) (fun _ h9 => h9) rfl dX7_ahead_31 ?_
      refine va_get (D := D) (ci := 0) (v := .ref (aus 0)) (C := RX0) (T := TX0) (N := 8) hx hb hu inX0 hown hK.1 hP 21 rfl rfl 1 (by decide) (hu _ q224) (fun _ h9 => h9) rfl dX7_ahead_34 ?_
      refine lv_iconst (v := 1) hx hb dX7_ahead_37 (by decide) ?_
      obtain ⟨r7, Us_8, Sc_9, Tr_10, hg11, hf⟩ := b4_el hf
      refine cc_V (w' := ((kX7 cs ama (.ref (are 0)) (.ref (are2 0)) (.ref (are3 0)) (.ref (ach 0)) (.ref (ata 0)) (.ref (asa 0)) Ma) ++ ((kX2 cs are (.ref (af 0)) (.ref (ac 0)) (.ref (atr 0)) (.ref (ase 0)) ) ++ ((kX1 cs af  Fo) ++ ((kX3 cs ac  Sc_9) ++ ((kX4 cs ase (.ref (af 0)) (.ref (ac 0)) (.ref (atr 0)) Se) ++ ((kX4 cs atr (.ref (af 0)) (.ref (ac 0)) .null Tr_10) ++ ((kX0 cs ach (.ref (are 0)) (.ref (aus 0)) Ch) ++ ((kX4 cs aus (.ref (af 0)) (.ref (ac 0)) (.ref (atr 0)) Us_8)))))))))) (wr := ((kX7 cs ama (.ref (are 0)) (.ref (are2 0)) (.ref (are3 0)) (.ref (ach 0)) (.ref (ata 0)) (.ref (asa 0)) Ma) ++ ((kX2 cs are (.ref (af 0)) (.ref (ac 0)) (.ref (atr 0)) (.ref (ase 0)) ) ++ ((kX4 cs ase (.ref (af 0)) (.ref (ac 0)) (.ref (atr 0)) Se) ++ ((kX0 cs ach (.ref (are 0)) (.ref (aus 0)) Ch)))))) (st1 := [.int r7]) [.int 1] hx hb hml hown hu (tX4_next l D cs aus af ac atr 1 Us Fo Sc Tr r7 Us_8 Sc_9 Tr_10 hg11) q439 q58 q528 q437 q438 pdX4_next ⟨rfl, rfl, Nat.le_of_ble_eq_true rfl, Nat.le_of_ble_eq_true rfl⟩ hK hZ hP hD hS hA [26, 27, 28, 29, 3, 4, 5, 6, 7, 8, 9, 10, 11, 12, 17, 18, 19, 20] [0, 1, 2, 13, 14, 15, 16, 21, 22, 23, 24, 25] [0, 1, 2, 16, 17, 18, 19, 20, 21, 22, 23, 24, 25, 3, 4, 5, 6, 26, 27, 28, 29, 7, 8, 9, 10, 11, 12, 13, 14, 15] rfl rfl rfl rfl rfl rfl rfl rfl rfl rfl hl.1 rfl (Nat.le_of_ble_eq_true rfl) dX7_ahead_38 rfl (fun H locs hP hD hS => ?_)
      refine lv_istore_n (lv' := [(2, .int r7), (0, .ref (ama 0)), (1, .int y1), (3, .int y3)]) hx hb dX7_ahead_41 rfl hl (by decide) rfl (fun ls hl => ?_)
      obtain ⟨v12, hv12, hf⟩ := lt_el hf
      refine lv_iinc (v := v12) (lv' := [(3, .int v12), (2, .int r7), (0, .ref (ama 0)), (1, .int y1)]) hx hb dX7_ahead_42 hl (k := 3) rfl (by rw [hv12]; rfl) (by decide) rfl (fun ls hl => ?_)
      refine lv_goto (tgt := 25) hx hb dX7_ahead_45 (by decide) ?_
      exact hk25 y1 r7 v12 Ma Sc_9 Tr_10 Us_8 _ _ _ hP hD hS (lv_sub hl [2, 3, 1, 0] rfl) hf
  have h25 : ∀ (n : Nat), ∀ (y1 : Int32) (y2 : Int32) (y3 : Int32) (Ma : ST) (Sc : ST) (Tr : ST) (Us : ST) (H : Heap) (locs : List Loc) (ls : Array Slot), va_P D vwCl ((kX7 cs ama (.ref (are 0)) (.ref (are2 0)) (.ref (are3 0)) (.ref (ach 0)) (.ref (ata 0)) (.ref (asa 0)) Ma) ++ ((kX2 cs are (.ref (af 0)) (.ref (ac 0)) (.ref (atr 0)) (.ref (ase 0)) ) ++ ((kX1 cs af  Fo) ++ ((kX3 cs ac  Sc) ++ ((kX4 cs ase (.ref (af 0)) (.ref (ac 0)) (.ref (atr 0)) Se) ++ ((kX4 cs atr (.ref (af 0)) (.ref (ac 0)) .null Tr) ++ ((kX0 cs ach (.ref (are 0)) (.ref (aus 0)) Ch) ++ ((kX4 cs aus (.ref (af 0)) (.ref (ac 0)) (.ref (atr 0)) Us))))))))) H → va_D A ((kX7 cs ama (.ref (are 0)) (.ref (are2 0)) (.ref (are3 0)) (.ref (ach 0)) (.ref (ata 0)) (.ref (asa 0)) Ma) ++ ((kX2 cs are (.ref (af 0)) (.ref (ac 0)) (.ref (atr 0)) (.ref (ase 0)) ) ++ ((kX1 cs af  Fo) ++ ((kX3 cs ac  Sc) ++ ((kX4 cs ase (.ref (af 0)) (.ref (ac 0)) (.ref (atr 0)) Se) ++ ((kX4 cs atr (.ref (af 0)) (.ref (ac 0)) .null Tr) ++ ((kX0 cs ach (.ref (are 0)) (.ref (aus 0)) Ch) ++ ((kX4 cs aus (.ref (af 0)) (.ref (ac 0)) (.ref (atr 0)) Us))))))))) → va_S A s.heap H locs → lv_has ls 4 [(0, .ref (ama 0)), (1, .int y1), (2, .int y2), (3, .int y3)] → fX7_ahead_25 Fo Se Ch n y1 y2 y3 Ma Sc Tr Us = some (r0, Maz, Scz, Trz, Usz) → W p l e rmX7_ahead s m [.ref (ama 0), .int x1].toArray below meth c H locs 0 0 Q (F0 m 25 ls []) := by
    intro n
    induction n with
    | zero => intro y1 y2 y3 Ma Sc Tr Us H locs ls hP hD hS hl hf; exact no_el hf
    | succ n ih => intro y1 y2 y3 Ma Sc Tr Us H locs ls hP hD hS hl hf; exact hs25 _ ih y1 y2 y3 Ma Sc Tr Us _ _ _ hP hD hS hl hf
  have hl : lv_has ls0 4 [(0, .ref (ama 0)), (1, .int x1)] := hl0
  have hP := hP0
  have hD := hD0
  have hS := hS0
  unfold fX7_ahead at hf
  refine lv_iload_n hx hb dX7_ahead_0 rfl (lv_at hl 1 rfl) ?_
  obtain ⟨r1, hg2, hf⟩ := b1_el hf
  refine cc_S0 (st1 := [.int r1]) [.int x1] hx hb hml hown hu (tX7_isChairs l D cs x1 r1 hg2) q566 q54 q564 q565 pdX7_isChairs ⟨rfl, rfl, Nat.le_of_ble_eq_true rfl, Nat.le_of_ble_eq_true rfl⟩ hK hZ hP hD hS hA rfl hl.1 rfl (Nat.le_of_ble_eq_true rfl) dX7_ahead_1 rfl (fun H locs hP hD hS => ?_)
  refine lv_if_ne (tgt := 14) hx hb dX7_ahead_4 (by decide) (fun hc3 => ?_) (fun hc3 => ?_)
  · have hf := in_el hc3 hf
    refine lv_aload_n hx hb dX7_ahead_14 rfl (lv_at hl 0 rfl) ?_
    refine va_get (D := D) (ci := 7) (v := .ref (ach 0)) (C := RX7) (T := TX7) (N := 8) hx hb hu inX7 hown hK.1 hP 0 rfl rfl 3 (by decide) (hu _ q303) (fun _ h9 => h9) rfl dX7_ahead_15 ?_
    obtain ⟨Us_4, hg5, hf⟩ := b1_el hf
    refine cc_V (w' := ((kX7 cs ama (.ref (are 0)) (.ref (are2 0)) (.ref (are3 0)) (.ref (ach 0)) (.ref (ata 0)) (.ref (asa 0)) Ma) ++ ((kX2 cs are (.ref (af 0)) (.ref (ac 0)) (.ref (atr 0)) (.ref (ase 0)) ) ++ ((kX1 cs af  Fo) ++ ((kX3 cs ac  Sc) ++ ((kX4 cs ase (.ref (af 0)) (.ref (ac 0)) (.ref (atr 0)) Se) ++ ((kX4 cs atr (.ref (af 0)) (.ref (ac 0)) .null Tr) ++ ((kX0 cs ach (.ref (are 0)) (.ref (aus 0)) Ch) ++ ((kX4 cs aus (.ref (af 0)) (.ref (ac 0)) (.ref (atr 0)) Us_4)))))))))) (wr := ((kX7 cs ama (.ref (are 0)) (.ref (are2 0)) (.ref (are3 0)) (.ref (ach 0)) (.ref (ata 0)) (.ref (asa 0)) Ma) ++ ((kX1 cs af  Fo) ++ ((kX3 cs ac  Sc) ++ ((kX4 cs atr (.ref (af 0)) (.ref (ac 0)) .null Tr)))))) (st1 := []) [] hx hb hml hown hu (tX0_start l D cs ach are aus af ac atr ase Ch Se Us Us_4 hg5) q570 q59 q567 q568 q569 pdX0_start ⟨rfl, rfl, Nat.le_of_ble_eq_true rfl, Nat.le_of_ble_eq_true rfl⟩ hK hZ hP hD hS hA [21, 22, 23, 24, 25, 2, 13, 14, 15, 16, 26, 27, 28, 29] [0, 1, 3, 4, 5, 6, 7, 8, 9, 10, 11, 12, 17, 18, 19, 20] [0, 1, 21, 2, 3, 4, 5, 6, 7, 8, 9, 10, 11, 22, 23, 24, 25, 12, 13, 14, 15, 16, 17, 18, 19, 20, 26, 27, 28, 29] rfl rfl rfl rfl rfl rfl rfl rfl rfl rfl hl.1 rfl (Nat.le_of_ble_eq_true rfl) dX7_ahead_18 rfl (fun H locs hP hD hS => ?_)
    refine lv_iconst (v := (-1)) hx hb dX7_ahead_21 (by decide) ?_
    refine lv_istore_n (lv' := [(2, .int (-1)), (0, .ref (ama 0)), (1, .int x1)]) hx hb dX7_ahead_22 rfl hl (by decide) rfl (fun ls hl => ?_)
    refine lv_iconst (v := 0) hx hb dX7_ahead_23 (by decide) ?_
    refine lv_istore_n (lv' := [(3, .int 0), (2, .int (-1)), (0, .ref (ama 0)), (1, .int x1)]) hx hb dX7_ahead_24 rfl hl (by decide) rfl (fun ls hl => ?_)
    exact h25 400 x1 (-1) 0 Ma Sc Tr Us_4 _ _ _ hP hD hS (lv_sub hl [2, 3, 1, 0] rfl) hf
  · have hf := ip_el hc3 hf
    refine lv_aload_n hx hb dX7_ahead_7 rfl (lv_at hl 0 rfl) ?_
    refine lv_ldc (v := (-1000000001)) hx hb hown (hu _ q335) dX7_ahead_8 ?_
    obtain ⟨r13, Ma_14, hg15, hf⟩ := b2_el hf
    refine cc_V (w' := ((kX7 cs ama (.ref (are 0)) (.ref (are2 0)) (.ref (are3 0)) (.ref (ach 0)) (.ref (ata 0)) (.ref (asa 0)) Ma_14) ++ ((kX2 cs are (.ref (af 0)) (.ref (ac 0)) (.ref (atr 0)) (.ref (ase 0)) ) ++ ((kX1 cs af  Fo) ++ ((kX3 cs ac  Sc) ++ ((kX4 cs ase (.ref (af 0)) (.ref (ac 0)) (.ref (atr 0)) Se) ++ ((kX4 cs atr (.ref (af 0)) (.ref (ac 0)) .null Tr) ++ ((kX0 cs ach (.ref (are 0)) (.ref (aus 0)) Ch) ++ ((kX4 cs aus (.ref (af 0)) (.ref (ac 0)) (.ref (atr 0)) Us)))))))))) (wr := ((kX2 cs are (.ref (af 0)) (.ref (ac 0)) (.ref (atr 0)) (.ref (ase 0)) ) ++ ((kX1 cs af  Fo) ++ ((kX3 cs ac  Sc) ++ ((kX4 cs ase (.ref (af 0)) (.ref (ac 0)) (.ref (atr 0)) Se) ++ ((kX4 cs atr (.ref (af 0)) (.ref (ac 0)) .null Tr) ++ ((kX0 cs ach (.ref (are 0)) (.ref (aus 0)) Ch) ++ ((kX4 cs aus (.ref (af 0)) (.ref (ac 0)) (.ref (atr 0)) Us))))))))) (st1 := [.int r13]) [.int (-1000000001)] hx hb hml hown hu (tX7_finding l D cs ama are are2 are3 ach ata asa (-1000000001) Ma r13 Ma_14 hg15) q339 q54 q336 q338 q0 pdX7_finding ⟨rfl, rfl, Nat.le_of_ble_eq_true rfl, Nat.le_of_ble_eq_true rfl⟩ hK hZ hP hD hS hA [0, 1] [2, 3, 4, 5, 6, 7, 8, 9, 10, 11, 12, 13, 14, 15, 16, 17, 18, 19, 20, 21, 22, 23, 24, 25, 26, 27, 28, 29] [28, 29, 0, 1, 2, 3, 4, 5, 6, 7, 8, 9, 10, 11, 12, 13, 14, 15, 16, 17, 18, 19, 20, 21, 22, 23, 24, 25, 26, 27] rfl rfl rfl rfl rfl rfl rfl rfl rfl rfl hl.1 rfl (Nat.le_of_ble_eq_true rfl) dX7_ahead_10 rfl (fun H locs hP hD hS => ?_)
    have he := Option.some.inj hf
    obtain ⟨e0, ht0⟩ := Prod.mk.inj he
    obtain ⟨e1, ht1⟩ := Prod.mk.inj ht0
    obtain ⟨e2, ht2⟩ := Prod.mk.inj ht1
    obtain ⟨e3, e4⟩ := Prod.mk.inj ht2
    exact hri _ _ _ rfl (congrArg (fun z => some (Value.int z)) e0.symm) dX7_ahead_13 _ _ _ (by rw [e1, e2, e3, e4]) hP hD hS

def fX7_ever (Ma : ST) (Fo : ST) (Sc : ST) (Se : ST) (Tr : ST) (Ch : ST) (Us : ST) : Option (Int32 × ST × ST × ST × ST × ST) :=
  dc_b5 (fX0_goRound Ch Fo Sc Se Tr Us) (fun r1 Ch_2 Sc_3 Tr_4 Us_5 => (if r1 = 0 then dc_b2 (fX7_finding (-1000000004) Ma) (fun r10 Ma_11 => some (r10, Ma_11, Sc_3, Tr_4, Ch_2, Us_5)) else dc_b1 (fX0_whoGoesRound Ch_2) (fun r8 => some (r8, Ma, Sc_3, Tr_4, Ch_2, Us_5))))
abbrev rmX7_ever : Room := { frames := 11, cells := 0, slots := 0, locals := 278 }
set_option maxRecDepth 100000 in
set_option maxHeartbeats 4000000 in
theorem tX7_ever (l : Launch) (D : va_G) (cs : Nat → ClassId) (ama : Nat → Nat) (are : Nat → Nat) (are2 : Nat → Nat) (are3 : Nat → Nat) (ach : Nat → Nat) (ata : Nat → Nat) (asa : Nat → Nat) (af : Nat → Nat) (ac : Nat → Nat) (atr : Nat → Nat) (ase : Nat → Nat) (aus : Nat → Nat) (Ma : ST) (Fo : ST) (Sc : ST) (Se : ST) (Tr : ST) (Ch : ST) (Us : ST) (r0 : Int32) (Maz : ST) (Scz : ST) (Trz : ST) (Chz : ST) (Usz : ST) (hf : fX7_ever Ma Fo Sc Se Tr Ch Us = some (r0, Maz, Scz, Trz, Chz, Usz)) : CG l yX7_ever (wsm yX7_ever cX7_ever 1 (some .int)) rmX7_ever D cs [.ref (ama 0)] (some (.int r0)) ((kX7 cs ama (.ref (are 0)) (.ref (are2 0)) (.ref (are3 0)) (.ref (ach 0)) (.ref (ata 0)) (.ref (asa 0)) Ma) ++ ((kX2 cs are (.ref (af 0)) (.ref (ac 0)) (.ref (atr 0)) (.ref (ase 0)) ) ++ ((kX1 cs af  Fo) ++ ((kX3 cs ac  Sc) ++ ((kX4 cs ase (.ref (af 0)) (.ref (ac 0)) (.ref (atr 0)) Se) ++ ((kX4 cs atr (.ref (af 0)) (.ref (ac 0)) .null Tr) ++ ((kX0 cs ach (.ref (are 0)) (.ref (aus 0)) Ch) ++ ((kX4 cs aus (.ref (af 0)) (.ref (ac 0)) (.ref (atr 0)) Us))))))))) ((kX7 cs ama (.ref (are 0)) (.ref (are2 0)) (.ref (are3 0)) (.ref (ach 0)) (.ref (ata 0)) (.ref (asa 0)) Maz) ++ ((kX2 cs are (.ref (af 0)) (.ref (ac 0)) (.ref (atr 0)) (.ref (ase 0)) ) ++ ((kX1 cs af  Fo) ++ ((kX3 cs ac  Scz) ++ ((kX4 cs ase (.ref (af 0)) (.ref (ac 0)) (.ref (atr 0)) Se) ++ ((kX4 cs atr (.ref (af 0)) (.ref (ac 0)) .null Trz) ++ ((kX0 cs ach (.ref (are 0)) (.ref (aus 0)) Chz) ++ ((kX4 cs aus (.ref (af 0)) (.ref (ac 0)) (.ref (atr 0)) Usz))))))))) := by
  refine CG.intro (by decide) (Nat.le_of_ble_eq_true rfl) ?_
  intro p e s m below meth c A Q hx hb hml hown hu hK hZ hP0 hD0 hS0 hA hri hrz hrl hrv hra ls0 hl0
  have hl : lv_has ls0 1 [(0, .ref (ama 0))] := hl0
  have hP := hP0
  have hD := hD0
  have hS := hS0
  unfold fX7_ever at hf
  refine lv_aload_n hx hb dX7_ever_0 rfl (lv_at hl 0 rfl) ?_
  refine va_get (D := D) (ci := 7) (v := .ref (ach 0)) (C := RX7) (T := TX7) (N := 8) hx hb hu inX7 hown hK.1 hP 0 rfl rfl 3 (by decide) (hu _ q303) (fun _ h9 => h9) rfl dX7_ever_1 ?_
  obtain ⟨r1, Ch_2, Sc_3, Tr_4, Us_5, hg6, hf⟩ := b5_el hf
  refine cc_V (w' := ((kX7 cs ama (.ref (are 0)) (.ref (are2 0)) (.ref (are3 0)) (.ref (ach 0)) (.ref (ata 0)) (.ref (asa 0)) Ma) ++ ((kX2 cs are (.ref (af 0)) (.ref (ac 0)) (.ref (atr 0)) (.ref (ase 0)) ) ++ ((kX1 cs af  Fo) ++ ((kX3 cs ac  Sc_3) ++ ((kX4 cs ase (.ref (af 0)) (.ref (ac 0)) (.ref (atr 0)) Se) ++ ((kX4 cs atr (.ref (af 0)) (.ref (ac 0)) .null Tr_4) ++ ((kX0 cs ach (.ref (are 0)) (.ref (aus 0)) Ch_2) ++ ((kX4 cs aus (.ref (af 0)) (.ref (ac 0)) (.ref (atr 0)) Us_5)))))))))) (wr := (kX7 cs ama (.ref (are 0)) (.ref (are2 0)) (.ref (are3 0)) (.ref (ach 0)) (.ref (ata 0)) (.ref (asa 0)) Ma)) (st1 := [.int r1]) [] hx hb hml hown hu (tX0_goRound l D cs ach are aus af ac atr ase Ch Fo Sc Se Tr Us r1 Ch_2 Sc_3 Tr_4 Us_5 hg6) q579 q59 q576 q577 q578 pdX0_goRound ⟨rfl, rfl, Nat.le_of_ble_eq_true rfl, Nat.le_of_ble_eq_true rfl⟩ hK hZ hP hD hS hA [21, 22, 23, 24, 25, 2, 3, 4, 5, 6, 7, 8, 9, 10, 11, 12, 13, 14, 15, 16, 17, 18, 19, 20, 26, 27, 28, 29] [0, 1] [0, 1, 7, 8, 9, 10, 11, 12, 13, 14, 15, 16, 17, 18, 19, 20, 21, 22, 23, 24, 25, 2, 3, 4, 5, 6, 26, 27, 28, 29] rfl rfl rfl rfl rfl rfl rfl rfl rfl rfl hl.1 rfl (Nat.le_of_ble_eq_true rfl) dX7_ever_4 rfl (fun H locs hP hD hS => ?_)
  refine lv_if_ne (tgt := 17) hx hb dX7_ever_7 (by decide) (fun hc7 => ?_) (fun hc7 => ?_)
  · have hf := in_el hc7 hf
    refine lv_aload_n hx hb dX7_ever_17 rfl (lv_at hl 0 rfl) ?_
    refine va_get (D := D) (ci := 7) (v := .ref (ach 0)) (C := RX7) (T := TX7) (N := 8) hx hb hu inX7 hown hK.1 hP 0 rfl rfl 3 (by decide) (hu _ q303) (fun _ h9 => h9) rfl dX7_ever_18 ?_
    obtain ⟨r8, hg9, hf⟩ := b1_el hf
    refine cc_V (w' := ((kX7 cs ama (.ref (are 0)) (.ref (are2 0)) (.ref (are3 0)) (.ref (ach 0)) (.ref (ata 0)) (.ref (asa 0)) Ma) ++ ((kX2 cs are (.ref (af 0)) (.ref (ac 0)) (.ref (atr 0)) (.ref (ase 0)) ) ++ ((kX1 cs af  Fo) ++ ((kX3 cs ac  Sc_3) ++ ((kX4 cs ase (.ref (af 0)) (.ref (ac 0)) (.ref (atr 0)) Se) ++ ((kX4 cs atr (.ref (af 0)) (.ref (ac 0)) .null Tr_4) ++ ((kX0 cs ach (.ref (are 0)) (.ref (aus 0)) Ch_2) ++ ((kX4 cs aus (.ref (af 0)) (.ref (ac 0)) (.ref (atr 0)) Us_5)))))))))) (wr := ((kX7 cs ama (.ref (are 0)) (.ref (are2 0)) (.ref (are3 0)) (.ref (ach 0)) (.ref (ata 0)) (.ref (asa 0)) Ma) ++ ((kX2 cs are (.ref (af 0)) (.ref (ac 0)) (.ref (atr 0)) (.ref (ase 0)) ) ++ ((kX1 cs af  Fo) ++ ((kX3 cs ac  Sc_3) ++ ((kX4 cs ase (.ref (af 0)) (.ref (ac 0)) (.ref (atr 0)) Se) ++ ((kX4 cs atr (.ref (af 0)) (.ref (ac 0)) .null Tr_4) ++ ((kX4 cs aus (.ref (af 0)) (.ref (ac 0)) (.ref (atr 0)) Us_5))))))))) (st1 := [.int r8]) [] hx hb hml hown hu (tX0_whoGoesRound l D cs ach are aus Ch_2 r8 hg9) q590 q59 q587 q588 q589 pdX0_whoGoesRound ⟨rfl, rfl, Nat.le_of_ble_eq_true rfl, Nat.le_of_ble_eq_true rfl⟩ hK hZ hP hD hS hA [21, 22, 23, 24, 25] [0, 1, 2, 3, 4, 5, 6, 7, 8, 9, 10, 11, 12, 13, 14, 15, 16, 17, 18, 19, 20, 26, 27, 28, 29] [0, 1, 2, 3, 4, 5, 6, 7, 8, 9, 10, 11, 12, 13, 14, 15, 16, 17, 18, 19, 20, 25, 26, 27, 28, 29, 21, 22, 23, 24] rfl rfl rfl rfl rfl rfl rfl rfl rfl rfl hl.1 rfl (Nat.le_of_ble_eq_true rfl) dX7_ever_21 rfl (fun H locs hP hD hS => ?_)
    have he := Option.some.inj hf
    obtain ⟨e0, ht0⟩ := Prod.mk.inj he
    obtain ⟨e1, ht1⟩ := Prod.mk.inj ht0
    obtain ⟨e2, ht2⟩ := Prod.mk.inj ht1
    obtain ⟨e3, ht3⟩ := Prod.mk.inj ht2
    obtain ⟨e4, e5⟩ := Prod.mk.inj ht3
    exact hri _ _ _ rfl (congrArg (fun z => some (Value.int z)) e0.symm) dX7_ever_24 _ _ _ (by rw [e1, e2, e3, e4, e5]) hP hD hS
  · have hf := ip_el hc7 hf
    refine lv_aload_n hx hb dX7_ever_10 rfl (lv_at hl 0 rfl) ?_
    refine lv_ldc (v := (-1000000004)) hx hb hown (hu _ q586) dX7_ever_11 ?_
    obtain ⟨r10, Ma_11, hg12, hf⟩ := b2_el hf
    refine cc_V (w' := ((kX7 cs ama (.ref (are 0)) (.ref (are2 0)) (.ref (are3 0)) (.ref (ach 0)) (.ref (ata 0)) (.ref (asa 0)) Ma_11) ++ ((kX2 cs are (.ref (af 0)) (.ref (ac 0)) (.ref (atr 0)) (.ref (ase 0)) ) ++ ((kX1 cs af  Fo) ++ ((kX3 cs ac  Sc_3) ++ ((kX4 cs ase (.ref (af 0)) (.ref (ac 0)) (.ref (atr 0)) Se) ++ ((kX4 cs atr (.ref (af 0)) (.ref (ac 0)) .null Tr_4) ++ ((kX0 cs ach (.ref (are 0)) (.ref (aus 0)) Ch_2) ++ ((kX4 cs aus (.ref (af 0)) (.ref (ac 0)) (.ref (atr 0)) Us_5)))))))))) (wr := ((kX2 cs are (.ref (af 0)) (.ref (ac 0)) (.ref (atr 0)) (.ref (ase 0)) ) ++ ((kX1 cs af  Fo) ++ ((kX3 cs ac  Sc_3) ++ ((kX4 cs ase (.ref (af 0)) (.ref (ac 0)) (.ref (atr 0)) Se) ++ ((kX4 cs atr (.ref (af 0)) (.ref (ac 0)) .null Tr_4) ++ ((kX0 cs ach (.ref (are 0)) (.ref (aus 0)) Ch_2) ++ ((kX4 cs aus (.ref (af 0)) (.ref (ac 0)) (.ref (atr 0)) Us_5))))))))) (st1 := [.int r10]) [.int (-1000000004)] hx hb hml hown hu (tX7_finding l D cs ama are are2 are3 ach ata asa (-1000000004) Ma r10 Ma_11 hg12) q339 q54 q336 q338 q0 pdX7_finding ⟨rfl, rfl, Nat.le_of_ble_eq_true rfl, Nat.le_of_ble_eq_true rfl⟩ hK hZ hP hD hS hA [0, 1] [2, 3, 4, 5, 6, 7, 8, 9, 10, 11, 12, 13, 14, 15, 16, 17, 18, 19, 20, 21, 22, 23, 24, 25, 26, 27, 28, 29] [28, 29, 0, 1, 2, 3, 4, 5, 6, 7, 8, 9, 10, 11, 12, 13, 14, 15, 16, 17, 18, 19, 20, 21, 22, 23, 24, 25, 26, 27] rfl rfl rfl rfl rfl rfl rfl rfl rfl rfl hl.1 rfl (Nat.le_of_ble_eq_true rfl) dX7_ever_13 rfl (fun H locs hP hD hS => ?_)
    have he := Option.some.inj hf
    obtain ⟨e0, ht0⟩ := Prod.mk.inj he
    obtain ⟨e1, ht1⟩ := Prod.mk.inj ht0
    obtain ⟨e2, ht2⟩ := Prod.mk.inj ht1
    obtain ⟨e3, ht3⟩ := Prod.mk.inj ht2
    obtain ⟨e4, e5⟩ := Prod.mk.inj ht3
    exact hri _ _ _ rfl (congrArg (fun z => some (Value.int z)) e0.symm) dX7_ever_16 _ _ _ (by rw [e1, e2, e3, e4, e5]) hP hD hS

def fX7_turns (x1 : Int32) (Ma : ST) (Fo : ST) (Sc : ST) (Se : ST) (Tr : ST) (Ch : ST) (Us : ST) : Option (Int32 × ST × ST × ST × ST × ST) :=
  dc_b1 (fX7_within x1 0 1) (fun r1 => (if r1 = 0 then dc_b2 (fX7_finding (-1000000001) Ma) (fun r15 Ma_16 => some (r15, Ma_16, Sc, Tr, Ch, Us)) else dc_b5 (fX0_goRound Ch Fo Sc Se Tr Us) (fun r4 Ch_5 Sc_6 Tr_7 Us_8 => (if r4 = 0 then dc_b2 (fX7_finding (-1000000004) Ma) (fun r12 Ma_13 => some (r12, Ma_13, Sc_6, Tr_7, Ch_5, Us_8)) else (if x1 = 0 then some ((Ch_5 0 6), Ma, Sc_6, Tr_7, Ch_5, Us_8) else some (((Ch_5 0 7) - (Ch_5 0 6)), Ma, Sc_6, Tr_7, Ch_5, Us_8))))))
abbrev rmX7_turns : Room := { frames := 11, cells := 0, slots := 0, locals := 278 }
set_option maxRecDepth 100000 in
set_option maxHeartbeats 4000000 in
theorem tX7_turns (l : Launch) (D : va_G) (cs : Nat → ClassId) (ama : Nat → Nat) (are : Nat → Nat) (are2 : Nat → Nat) (are3 : Nat → Nat) (ach : Nat → Nat) (ata : Nat → Nat) (asa : Nat → Nat) (af : Nat → Nat) (ac : Nat → Nat) (atr : Nat → Nat) (ase : Nat → Nat) (aus : Nat → Nat) (x1 : Int32) (Ma : ST) (Fo : ST) (Sc : ST) (Se : ST) (Tr : ST) (Ch : ST) (Us : ST) (r0 : Int32) (Maz : ST) (Scz : ST) (Trz : ST) (Chz : ST) (Usz : ST) (hf : fX7_turns x1 Ma Fo Sc Se Tr Ch Us = some (r0, Maz, Scz, Trz, Chz, Usz)) : CG l yX7_turns (wsm yX7_turns cX7_turns 2 (some .int)) rmX7_turns D cs [.ref (ama 0), .int x1] (some (.int r0)) ((kX7 cs ama (.ref (are 0)) (.ref (are2 0)) (.ref (are3 0)) (.ref (ach 0)) (.ref (ata 0)) (.ref (asa 0)) Ma) ++ ((kX2 cs are (.ref (af 0)) (.ref (ac 0)) (.ref (atr 0)) (.ref (ase 0)) ) ++ ((kX1 cs af  Fo) ++ ((kX3 cs ac  Sc) ++ ((kX4 cs ase (.ref (af 0)) (.ref (ac 0)) (.ref (atr 0)) Se) ++ ((kX4 cs atr (.ref (af 0)) (.ref (ac 0)) .null Tr) ++ ((kX0 cs ach (.ref (are 0)) (.ref (aus 0)) Ch) ++ ((kX4 cs aus (.ref (af 0)) (.ref (ac 0)) (.ref (atr 0)) Us))))))))) ((kX7 cs ama (.ref (are 0)) (.ref (are2 0)) (.ref (are3 0)) (.ref (ach 0)) (.ref (ata 0)) (.ref (asa 0)) Maz) ++ ((kX2 cs are (.ref (af 0)) (.ref (ac 0)) (.ref (atr 0)) (.ref (ase 0)) ) ++ ((kX1 cs af  Fo) ++ ((kX3 cs ac  Scz) ++ ((kX4 cs ase (.ref (af 0)) (.ref (ac 0)) (.ref (atr 0)) Se) ++ ((kX4 cs atr (.ref (af 0)) (.ref (ac 0)) .null Trz) ++ ((kX0 cs ach (.ref (are 0)) (.ref (aus 0)) Chz) ++ ((kX4 cs aus (.ref (af 0)) (.ref (ac 0)) (.ref (atr 0)) Usz))))))))) := by
  refine CG.intro (by decide) (Nat.le_of_ble_eq_true rfl) ?_
  intro p e s m below meth c A Q hx hb hml hown hu hK hZ hP0 hD0 hS0 hA hri hrz hrl hrv hra ls0 hl0
  have hl : lv_has ls0 2 [(0, .ref (ama 0)), (1, .int x1)] := hl0
  have hP := hP0
  have hD := hD0
  have hS := hS0
  unfold fX7_turns at hf
  refine lv_iload_n hx hb dX7_turns_0 rfl (lv_at hl 1 rfl) ?_
  refine lv_iconst (v := 0) hx hb dX7_turns_1 (by decide) ?_
  refine lv_iconst (v := 1) hx hb dX7_turns_2 (by decide) ?_
  obtain ⟨r1, hg2, hf⟩ := b1_el hf
  refine cc_S0 (st1 := [.int r1]) [.int x1, .int 0, .int 1] hx hb hml hown hu (tX7_within l D cs x1 0 1 r1 hg2) q331 q54 q329 q330 pdX7_within ⟨rfl, rfl, Nat.le_of_ble_eq_true rfl, Nat.le_of_ble_eq_true rfl⟩ hK hZ hP hD hS hA rfl hl.1 rfl (Nat.le_of_ble_eq_true rfl) dX7_turns_3 rfl (fun H locs hP hD hS => ?_)
  refine lv_if_ne (tgt := 16) hx hb dX7_turns_6 (by decide) (fun hc3 => ?_) (fun hc3 => ?_)
  · have hf := in_el hc3 hf
    refine lv_aload_n hx hb dX7_turns_16 rfl (lv_at hl 0 rfl) ?_
    refine va_get (D := D) (ci := 7) (v := .ref (ach 0)) (C := RX7) (T := TX7) (N := 8) hx hb hu inX7 hown hK.1 hP 0 rfl rfl 3 (by decide) (hu _ q303) (fun _ h9 => h9) rfl dX7_turns_17 ?_
    obtain ⟨r4, Ch_5, Sc_6, Tr_7, Us_8, hg9, hf⟩ := b5_el hf
    refine cc_V (w' := ((kX7 cs ama (.ref (are 0)) (.ref (are2 0)) (.ref (are3 0)) (.ref (ach 0)) (.ref (ata 0)) (.ref (asa 0)) Ma) ++ ((kX2 cs are (.ref (af 0)) (.ref (ac 0)) (.ref (atr 0)) (.ref (ase 0)) ) ++ ((kX1 cs af  Fo) ++ ((kX3 cs ac  Sc_6) ++ ((kX4 cs ase (.ref (af 0)) (.ref (ac 0)) (.ref (atr 0)) Se) ++ ((kX4 cs atr (.ref (af 0)) (.ref (ac 0)) .null Tr_7) ++ ((kX0 cs ach (.ref (are 0)) (.ref (aus 0)) Ch_5) ++ ((kX4 cs aus (.ref (af 0)) (.ref (ac 0)) (.ref (atr 0)) Us_8)))))))))) (wr := (kX7 cs ama (.ref (are 0)) (.ref (are2 0)) (.ref (are3 0)) (.ref (ach 0)) (.ref (ata 0)) (.ref (asa 0)) Ma)) (st1 := [.int r4]) [] hx hb hml hown hu (tX0_goRound l D cs ach are aus af ac atr ase Ch Fo Sc Se Tr Us r4 Ch_5 Sc_6 Tr_7 Us_8 hg9) q579 q59 q576 q577 q578 pdX0_goRound ⟨rfl, rfl, Nat.le_of_ble_eq_true rfl, Nat.le_of_ble_eq_true rfl⟩ hK hZ hP hD hS hA [21, 22, 23, 24, 25, 2, 3, 4, 5, 6, 7, 8, 9, 10, 11, 12, 13, 14, 15, 16, 17, 18, 19, 20, 26, 27, 28, 29] [0, 1] [0, 1, 7, 8, 9, 10, 11, 12, 13, 14, 15, 16, 17, 18, 19, 20, 21, 22, 23, 24, 25, 2, 3, 4, 5, 6, 26, 27, 28, 29] rfl rfl rfl rfl rfl rfl rfl rfl rfl rfl hl.1 rfl (Nat.le_of_ble_eq_true rfl) dX7_turns_20 rfl (fun H locs hP hD hS => ?_)
    refine lv_if_ne (tgt := 33) hx hb dX7_turns_23 (by decide) (fun hc10 => ?_) (fun hc10 => ?_)
    · have hf := in_el hc10 hf
      refine lv_iload_n hx hb dX7_turns_33 rfl (lv_at hl 1 rfl) ?_
      refine lv_if_ne (tgt := 47) hx hb dX7_turns_34 (by decide) (fun hc11 => ?_) (fun hc11 => ?_)
      · have hf := in_el hc11 hf
        refine lv_aload_n hx hb dX7_turns_47 rfl (lv_at hl 0 rfl) ?_
        refine va_get (D := D) (ci := 7) (v := .ref (ach 0)) (C := RX7) (T := TX7) (N := 8) hx hb hu inX7 hown hK.1 hP 0 rfl rfl 3 (by decide) (hu _ q303) (fun _ h9 => h9) rfl dX7_turns_48 ?_
        refine va_get (D := D) (ci := 0) (v := .int (Ch_5 0 7)) (C := RX0) (T := TX0) (N := 8) hx hb hu inX0 hown hK.1 hP 21 rfl rfl 7 (by decide) (hu _ q233) (fun _ h9 => h9) rfl dX7_turns_51 ?_
        refine lv_aload_n hx hb dX7_turns_54 rfl (lv_at hl 0 rfl) ?_
        refine va_get (D := D) (ci := 7) (v := .ref (ach 0)) (C := RX7) (T := TX7) (N := 8) hx hb hu inX7 hown hK.1 hP 0 rfl rfl 3 (by decide) (hu _ q303) (fun _ h9 => h9) rfl dX7_turns_55 ?_
        refine va_get (D := D) (ci := 0) (v := .int (Ch_5 0 6)) (C := RX0) (T := TX0) (N := 8) hx hb hu inX0 hown hK.1 hP 21 rfl rfl 6 (by decide) (hu _ q231) (fun _ h9 => h9) rfl dX7_turns_58 ?_
        refine lv_isub hx hb dX7_turns_61 ?_
        have he := Option.some.inj hf
        obtain ⟨e0, ht0⟩ := Prod.mk.inj he
        obtain ⟨e1, ht1⟩ := Prod.mk.inj ht0
        obtain ⟨e2, ht2⟩ := Prod.mk.inj ht1
        obtain ⟨e3, ht3⟩ := Prod.mk.inj ht2
        obtain ⟨e4, e5⟩ := Prod.mk.inj ht3
        exact hri _ _ _ rfl (congrArg (fun z => some (Value.int z)) e0.symm) dX7_turns_62 _ _ _ (by rw [e1, e2, e3, e4, e5]) hP hD hS
      · have hf := ip_el hc11 hf
        refine lv_aload_n hx hb dX7_turns_37 rfl (lv_at hl 0 rfl) ?_
        refine va_get (D := D) (ci := 7) (v := .ref (ach 0)) (C := RX7) (T := TX7) (N := 8) hx hb hu inX7 hown hK.1 hP 0 rfl rfl 3 (by decide) (hu _ q303) (fun _ h9 => h9) rfl dX7_turns_38 ?_
        refine va_get (D := D) (ci := 0) (v := .int (Ch_5 0 6)) (C := RX0) (T := TX0) (N := 8) hx hb hu inX0 hown hK.1 hP 21 rfl rfl 6 (by decide) (hu _ q231) (fun _ h9 => h9) rfl dX7_turns_41 ?_
        refine lv_goto (tgt := 62) hx hb dX7_turns_44 (by decide) ?_
        have he := Option.some.inj hf
        obtain ⟨e0, ht0⟩ := Prod.mk.inj he
        obtain ⟨e1, ht1⟩ := Prod.mk.inj ht0
        obtain ⟨e2, ht2⟩ := Prod.mk.inj ht1
        obtain ⟨e3, ht3⟩ := Prod.mk.inj ht2
        obtain ⟨e4, e5⟩ := Prod.mk.inj ht3
        exact hri _ _ _ rfl (congrArg (fun z => some (Value.int z)) e0.symm) dX7_turns_62 _ _ _ (by rw [e1, e2, e3, e4, e5]) hP hD hS
    · have hf := ip_el hc10 hf
      refine lv_aload_n hx hb dX7_turns_26 rfl (lv_at hl 0 rfl) ?_
      refine lv_ldc (v := (-1000000004)) hx hb hown (hu _ q586) dX7_turns_27 ?_
      obtain ⟨r12, Ma_13, hg14, hf⟩ := b2_el hf
      refine cc_V (w' := ((kX7 cs ama (.ref (are 0)) (.ref (are2 0)) (.ref (are3 0)) (.ref (ach 0)) (.ref (ata 0)) (.ref (asa 0)) Ma_13) ++ ((kX2 cs are (.ref (af 0)) (.ref (ac 0)) (.ref (atr 0)) (.ref (ase 0)) ) ++ ((kX1 cs af  Fo) ++ ((kX3 cs ac  Sc_6) ++ ((kX4 cs ase (.ref (af 0)) (.ref (ac 0)) (.ref (atr 0)) Se) ++ ((kX4 cs atr (.ref (af 0)) (.ref (ac 0)) .null Tr_7) ++ ((kX0 cs ach (.ref (are 0)) (.ref (aus 0)) Ch_5) ++ ((kX4 cs aus (.ref (af 0)) (.ref (ac 0)) (.ref (atr 0)) Us_8)))))))))) (wr := ((kX2 cs are (.ref (af 0)) (.ref (ac 0)) (.ref (atr 0)) (.ref (ase 0)) ) ++ ((kX1 cs af  Fo) ++ ((kX3 cs ac  Sc_6) ++ ((kX4 cs ase (.ref (af 0)) (.ref (ac 0)) (.ref (atr 0)) Se) ++ ((kX4 cs atr (.ref (af 0)) (.ref (ac 0)) .null Tr_7) ++ ((kX0 cs ach (.ref (are 0)) (.ref (aus 0)) Ch_5) ++ ((kX4 cs aus (.ref (af 0)) (.ref (ac 0)) (.ref (atr 0)) Us_8))))))))) (st1 := [.int r12]) [.int (-1000000004)] hx hb hml hown hu (tX7_finding l D cs ama are are2 are3 ach ata asa (-1000000004) Ma r12 Ma_13 hg14) q339 q54 q336 q338 q0 pdX7_finding ⟨rfl, rfl, Nat.le_of_ble_eq_true rfl, Nat.le_of_ble_eq_true rfl⟩ hK hZ hP hD hS hA [0, 1] [2, 3, 4, 5, 6, 7, 8, 9, 10, 11, 12, 13, 14, 15, 16, 17, 18, 19, 20, 21, 22, 23, 24, 25, 26, 27, 28, 29] [28, 29, 0, 1, 2, 3, 4, 5, 6, 7, 8, 9, 10, 11, 12, 13, 14, 15, 16, 17, 18, 19, 20, 21, 22, 23, 24, 25, 26, 27] rfl rfl rfl rfl rfl rfl rfl rfl rfl rfl hl.1 rfl (Nat.le_of_ble_eq_true rfl) dX7_turns_29 rfl (fun H locs hP hD hS => ?_)
      have he := Option.some.inj hf
      obtain ⟨e0, ht0⟩ := Prod.mk.inj he
      obtain ⟨e1, ht1⟩ := Prod.mk.inj ht0
      obtain ⟨e2, ht2⟩ := Prod.mk.inj ht1
      obtain ⟨e3, ht3⟩ := Prod.mk.inj ht2
      obtain ⟨e4, e5⟩ := Prod.mk.inj ht3
      exact hri _ _ _ rfl (congrArg (fun z => some (Value.int z)) e0.symm) dX7_turns_32 _ _ _ (by rw [e1, e2, e3, e4, e5]) hP hD hS
  · have hf := ip_el hc3 hf
    refine lv_aload_n hx hb dX7_turns_9 rfl (lv_at hl 0 rfl) ?_
    refine lv_ldc (v := (-1000000001)) hx hb hown (hu _ q335) dX7_turns_10 ?_
    obtain ⟨r15, Ma_16, hg17, hf⟩ := b2_el hf
    refine cc_V (w' := ((kX7 cs ama (.ref (are 0)) (.ref (are2 0)) (.ref (are3 0)) (.ref (ach 0)) (.ref (ata 0)) (.ref (asa 0)) Ma_16) ++ ((kX2 cs are (.ref (af 0)) (.ref (ac 0)) (.ref (atr 0)) (.ref (ase 0)) ) ++ ((kX1 cs af  Fo) ++ ((kX3 cs ac  Sc) ++ ((kX4 cs ase (.ref (af 0)) (.ref (ac 0)) (.ref (atr 0)) Se) ++ ((kX4 cs atr (.ref (af 0)) (.ref (ac 0)) .null Tr) ++ ((kX0 cs ach (.ref (are 0)) (.ref (aus 0)) Ch) ++ ((kX4 cs aus (.ref (af 0)) (.ref (ac 0)) (.ref (atr 0)) Us)))))))))) (wr := ((kX2 cs are (.ref (af 0)) (.ref (ac 0)) (.ref (atr 0)) (.ref (ase 0)) ) ++ ((kX1 cs af  Fo) ++ ((kX3 cs ac  Sc) ++ ((kX4 cs ase (.ref (af 0)) (.ref (ac 0)) (.ref (atr 0)) Se) ++ ((kX4 cs atr (.ref (af 0)) (.ref (ac 0)) .null Tr) ++ ((kX0 cs ach (.ref (are 0)) (.ref (aus 0)) Ch) ++ ((kX4 cs aus (.ref (af 0)) (.ref (ac 0)) (.ref (atr 0)) Us))))))))) (st1 := [.int r15]) [.int (-1000000001)] hx hb hml hown hu (tX7_finding l D cs ama are are2 are3 ach ata asa (-1000000001) Ma r15 Ma_16 hg17) q339 q54 q336 q338 q0 pdX7_finding ⟨rfl, rfl, Nat.le_of_ble_eq_true rfl, Nat.le_of_ble_eq_true rfl⟩ hK hZ hP hD hS hA [0, 1] [2, 3, 4, 5, 6, 7, 8, 9, 10, 11, 12, 13, 14, 15, 16, 17, 18, 19, 20, 21, 22, 23, 24, 25, 26, 27, 28, 29] [28, 29, 0, 1, 2, 3, 4, 5, 6, 7, 8, 9, 10, 11, 12, 13, 14, 15, 16, 17, 18, 19, 20, 21, 22, 23, 24, 25, 26, 27] rfl rfl rfl rfl rfl rfl rfl rfl rfl rfl hl.1 rfl (Nat.le_of_ble_eq_true rfl) dX7_turns_12 rfl (fun H locs hP hD hS => ?_)
    have he := Option.some.inj hf
    obtain ⟨e0, ht0⟩ := Prod.mk.inj he
    obtain ⟨e1, ht1⟩ := Prod.mk.inj ht0
    obtain ⟨e2, ht2⟩ := Prod.mk.inj ht1
    obtain ⟨e3, ht3⟩ := Prod.mk.inj ht2
    obtain ⟨e4, e5⟩ := Prod.mk.inj ht3
    exact hri _ _ _ rfl (congrArg (fun z => some (Value.int z)) e0.symm) dX7_turns_15 _ _ _ (by rw [e1, e2, e3, e4, e5]) hP hD hS

def fX7_share_14 (Fo : ST) (Se : ST) (Ma : ST) (Sc : ST) (Tr : ST) (Ch : ST) (Us : ST) : Option (Int32 × ST × ST × ST × ST × ST) :=
  dc_b2 (fX7_finding (-1000000001) Ma) (fun r4 Ma_5 => some (r4, Ma_5, Sc, Tr, Ch, Us))
def fX7_share (x1 : Int32) (x2 : Int32) (Ma : ST) (Fo : ST) (Sc : ST) (Se : ST) (Tr : ST) (Ch : ST) (Us : ST) : Option (Int32 × ST × ST × ST × ST × ST) :=
  dc_b1 (fX7_isSort x1) (fun r1 => (if r1 = 0 then fX7_share_14 Fo Se Ma Sc Tr Ch Us else dc_b1 (fX7_isChairs x2) (fun r7 => (if r7 = 0 then fX7_share_14 Fo Se Ma Sc Tr Ch Us else dc_b1 (fX0_start Ch Se Us) (fun Us_10 => dc_b4 (fX0_tally x2 Ch Fo Sc Tr Us_10) (fun Ch_12 Sc_13 Tr_14 Us_15 => dc_ck x1 4 (some ((Ch_12 3 (Int32.toNatClampNeg x1)), Ma, Sc_13, Tr_14, Ch_12, Us_15))))))))
abbrev rmX7_share : Room := { frames := 11, cells := 0, slots := 0, locals := 279 }
set_option maxRecDepth 100000 in
set_option maxHeartbeats 4000000 in
theorem tX7_share (l : Launch) (D : va_G) (cs : Nat → ClassId) (ama : Nat → Nat) (are : Nat → Nat) (are2 : Nat → Nat) (are3 : Nat → Nat) (ach : Nat → Nat) (ata : Nat → Nat) (asa : Nat → Nat) (af : Nat → Nat) (ac : Nat → Nat) (atr : Nat → Nat) (ase : Nat → Nat) (aus : Nat → Nat) (x1 : Int32) (x2 : Int32) (Ma : ST) (Fo : ST) (Sc : ST) (Se : ST) (Tr : ST) (Ch : ST) (Us : ST) (r0 : Int32) (Maz : ST) (Scz : ST) (Trz : ST) (Chz : ST) (Usz : ST) (hf : fX7_share x1 x2 Ma Fo Sc Se Tr Ch Us = some (r0, Maz, Scz, Trz, Chz, Usz)) : CG l yX7_share (wsm yX7_share cX7_share 3 (some .int)) rmX7_share D cs [.ref (ama 0), .int x1, .int x2] (some (.int r0)) ((kX7 cs ama (.ref (are 0)) (.ref (are2 0)) (.ref (are3 0)) (.ref (ach 0)) (.ref (ata 0)) (.ref (asa 0)) Ma) ++ ((kX2 cs are (.ref (af 0)) (.ref (ac 0)) (.ref (atr 0)) (.ref (ase 0)) ) ++ ((kX1 cs af  Fo) ++ ((kX3 cs ac  Sc) ++ ((kX4 cs ase (.ref (af 0)) (.ref (ac 0)) (.ref (atr 0)) Se) ++ ((kX4 cs atr (.ref (af 0)) (.ref (ac 0)) .null Tr) ++ ((kX0 cs ach (.ref (are 0)) (.ref (aus 0)) Ch) ++ ((kX4 cs aus (.ref (af 0)) (.ref (ac 0)) (.ref (atr 0)) Us))))))))) ((kX7 cs ama (.ref (are 0)) (.ref (are2 0)) (.ref (are3 0)) (.ref (ach 0)) (.ref (ata 0)) (.ref (asa 0)) Maz) ++ ((kX2 cs are (.ref (af 0)) (.ref (ac 0)) (.ref (atr 0)) (.ref (ase 0)) ) ++ ((kX1 cs af  Fo) ++ ((kX3 cs ac  Scz) ++ ((kX4 cs ase (.ref (af 0)) (.ref (ac 0)) (.ref (atr 0)) Se) ++ ((kX4 cs atr (.ref (af 0)) (.ref (ac 0)) .null Trz) ++ ((kX0 cs ach (.ref (are 0)) (.ref (aus 0)) Chz) ++ ((kX4 cs aus (.ref (af 0)) (.ref (ac 0)) (.ref (atr 0)) Usz))))))))) := by
  refine CG.intro (by decide) (Nat.le_of_ble_eq_true rfl) ?_
  intro p e s m below meth c A Q hx hb hml hown hu hK hZ hP0 hD0 hS0 hA hri hrz hrl hrv hra ls0 hl0
  have h14 : ∀ (Ma : ST) (Sc : ST) (Tr : ST) (Ch : ST) (Us : ST) (H : Heap) (locs : List Loc) (ls : Array Slot), va_P D vwCl ((kX7 cs ama (.ref (are 0)) (.ref (are2 0)) (.ref (are3 0)) (.ref (ach 0)) (.ref (ata 0)) (.ref (asa 0)) Ma) ++ ((kX2 cs are (.ref (af 0)) (.ref (ac 0)) (.ref (atr 0)) (.ref (ase 0)) ) ++ ((kX1 cs af  Fo) ++ ((kX3 cs ac  Sc) ++ ((kX4 cs ase (.ref (af 0)) (.ref (ac 0)) (.ref (atr 0)) Se) ++ ((kX4 cs atr (.ref (af 0)) (.ref (ac 0)) .null Tr) ++ ((kX0 cs ach (.ref (are 0)) (.ref (aus 0)) Ch) ++ ((kX4 cs aus (.ref (af 0)) (.ref (ac 0)) (.ref (atr 0)) Us))))))))) H → va_D A ((kX7 cs ama (.ref (are 0)) (.ref (are2 0)) (.ref (are3 0)) (.ref (ach 0)) (.ref (ata 0)) (.ref (asa 0)) Ma) ++ ((kX2 cs are (.ref (af 0)) (.ref (ac 0)) (.ref (atr 0)) (.ref (ase 0)) ) ++ ((kX1 cs af  Fo) ++ ((kX3 cs ac  Sc) ++ ((kX4 cs ase (.ref (af 0)) (.ref (ac 0)) (.ref (atr 0)) Se) ++ ((kX4 cs atr (.ref (af 0)) (.ref (ac 0)) .null Tr) ++ ((kX0 cs ach (.ref (are 0)) (.ref (aus 0)) Ch) ++ ((kX4 cs aus (.ref (af 0)) (.ref (ac 0)) (.ref (atr 0)) Us))))))))) → va_S A s.heap H locs → lv_has ls 3 [(0, .ref (ama 0))] → fX7_share_14 Fo Se Ma Sc Tr Ch Us = some (r0, Maz, Scz, Trz, Chz, Usz) → W p l e rmX7_share s m [.ref (ama 0), .int x1, .int x2].toArray below meth c H locs 0 0 Q (F0 m 14 ls []) := by
    intro Ma Sc Tr Ch Us H locs ls hP hD hS hl hf
    unfold fX7_share_14 at hf
    refine lv_aload_n hx hb dX7_share_14 rfl (lv_at hl 0 rfl) ?_
    refine lv_ldc (v := (-1000000001)) hx hb hown (hu _ q335) dX7_share_15 ?_
    obtain ⟨r4, Ma_5, hg6, hf⟩ := b2_el hf
    refine cc_V (w' := ((kX7 cs ama (.ref (are 0)) (.ref (are2 0)) (.ref (are3 0)) (.ref (ach 0)) (.ref (ata 0)) (.ref (asa 0)) Ma_5) ++ ((kX2 cs are (.ref (af 0)) (.ref (ac 0)) (.ref (atr 0)) (.ref (ase 0)) ) ++ ((kX1 cs af  Fo) ++ ((kX3 cs ac  Sc) ++ ((kX4 cs ase (.ref (af 0)) (.ref (ac 0)) (.ref (atr 0)) Se) ++ ((kX4 cs atr (.ref (af 0)) (.ref (ac 0)) .null Tr) ++ ((kX0 cs ach (.ref (are 0)) (.ref (aus 0)) Ch) ++ ((kX4 cs aus (.ref (af 0)) (.ref (ac 0)) (.ref (atr 0)) Us)))))))))) (wr := ((kX2 cs are (.ref (af 0)) (.ref (ac 0)) (.ref (atr 0)) (.ref (ase 0)) ) ++ ((kX1 cs af  Fo) ++ ((kX3 cs ac  Sc) ++ ((kX4 cs ase (.ref (af 0)) (.ref (ac 0)) (.ref (atr 0)) Se) ++ ((kX4 cs atr (.ref (af 0)) (.ref (ac 0)) .null Tr) ++ ((kX0 cs ach (.ref (are 0)) (.ref (aus 0)) Ch) ++ ((kX4 cs aus (.ref (af 0)) (.ref (ac 0)) (.ref (atr 0)) Us))))))))) (st1 := [.int r4]) [.int (-1000000001)] hx hb hml hown hu (tX7_finding l D cs ama are are2 are3 ach ata asa (-1000000001) Ma r4 Ma_5 hg6) q339 q54 q336 q338 q0 pdX7_finding ⟨rfl, rfl, Nat.le_of_ble_eq_true rfl, Nat.le_of_ble_eq_true rfl⟩ hK hZ hP hD hS hA [0, 1] [2, 3, 4, 5, 6, 7, 8, 9, 10, 11, 12, 13, 14, 15, 16, 17, 18, 19, 20, 21, 22, 23, 24, 25, 26, 27, 28, 29] [28, 29, 0, 1, 2, 3, 4, 5, 6, 7, 8, 9, 10, 11, 12, 13, 14, 15, 16, 17, 18, 19, 20, 21, 22, 23, 24, 25, 26, 27] rfl rfl rfl rfl rfl rfl rfl rfl rfl rfl hl.1 rfl (Nat.le_of_ble_eq_true rfl) dX7_share_17 rfl (fun H locs hP hD hS => ?_)
    have he := Option.some.inj hf
    obtain ⟨e0, ht0⟩ := Prod.mk.inj he
    obtain ⟨e1, ht1⟩ := Prod.mk.inj ht0
    obtain ⟨e2, ht2⟩ := Prod.mk.inj ht1
    obtain ⟨e3, ht3⟩ := Prod.mk.inj ht2
    obtain ⟨e4, e5⟩ := Prod.mk.inj ht3
    exact hri _ _ _ rfl (congrArg (fun z => some (Value.int z)) e0.symm) dX7_share_20 _ _ _ (by rw [e1, e2, e3, e4, e5]) hP hD hS
  have hl : lv_has ls0 3 [(0, .ref (ama 0)), (1, .int x1), (2, .int x2)] := hl0
  have hP := hP0
  have hD := hD0
  have hS := hS0
  unfold fX7_share at hf
  refine lv_iload_n hx hb dX7_share_0 rfl (lv_at hl 1 rfl) ?_
  obtain ⟨r1, hg2, hf⟩ := b1_el hf
  refine cc_S0 (st1 := [.int r1]) [.int x1] hx hb hml hown hu (tX7_isSort l D cs x1 r1 hg2) q334 q54 q332 q333 pdX7_isSort ⟨rfl, rfl, Nat.le_of_ble_eq_true rfl, Nat.le_of_ble_eq_true rfl⟩ hK hZ hP hD hS hA rfl hl.1 rfl (Nat.le_of_ble_eq_true rfl) dX7_share_1 rfl (fun H locs hP hD hS => ?_)
  refine lv_if_eq (tgt := 14) hx hb dX7_share_4 (by decide) (fun hc3 => ?_) (fun hc3 => ?_)
  · have hf := ip_el hc3 hf
    exact h14 Ma Sc Tr Ch Us _ _ _ hP hD hS (lv_sub hl [0] rfl) hf
  · have hf := in_el hc3 hf
    refine lv_iload_n hx hb dX7_share_7 rfl (lv_at hl 2 rfl) ?_
    obtain ⟨r7, hg8, hf⟩ := b1_el hf
    refine cc_S0 (st1 := [.int r7]) [.int x2] hx hb hml hown hu (tX7_isChairs l D cs x2 r7 hg8) q566 q54 q564 q565 pdX7_isChairs ⟨rfl, rfl, Nat.le_of_ble_eq_true rfl, Nat.le_of_ble_eq_true rfl⟩ hK hZ hP hD hS hA rfl hl.1 rfl (Nat.le_of_ble_eq_true rfl) dX7_share_8 rfl (fun H locs hP hD hS => ?_)
    refine lv_if_ne (tgt := 21) hx hb dX7_share_11 (by decide) (fun hc9 => ?_) (fun hc9 => ?_)
    · have hf := in_el hc9 hf
      refine lv_aload_n hx hb dX7_share_21 rfl (lv_at hl 0 rfl) ?_
      refine va_get (D := D) (ci := 7) (v := .ref (ach 0)) (C := RX7) (T := TX7) (N := 8) hx hb hu inX7 hown hK.1 hP 0 rfl rfl 3 (by decide) (hu _ q303) (fun _ h9 => h9) rfl dX7_share_22 ?_
      obtain ⟨Us_10, hg11, hf⟩ := b1_el hf
      refine cc_V (w' := ((kX7 cs ama (.ref (are 0)) (.ref (are2 0)) (.ref (are3 0)) (.ref (ach 0)) (.ref (ata 0)) (.ref (asa 0)) Ma) ++ ((kX2 cs are (.ref (af 0)) (.ref (ac 0)) (.ref (atr 0)) (.ref (ase 0)) ) ++ ((kX1 cs af  Fo) ++ ((kX3 cs ac  Sc) ++ ((kX4 cs ase (.ref (af 0)) (.ref (ac 0)) (.ref (atr 0)) Se) ++ ((kX4 cs atr (.ref (af 0)) (.ref (ac 0)) .null Tr) ++ ((kX0 cs ach (.ref (are 0)) (.ref (aus 0)) Ch) ++ ((kX4 cs aus (.ref (af 0)) (.ref (ac 0)) (.ref (atr 0)) Us_10)))))))))) (wr := ((kX7 cs ama (.ref (are 0)) (.ref (are2 0)) (.ref (are3 0)) (.ref (ach 0)) (.ref (ata 0)) (.ref (asa 0)) Ma) ++ ((kX1 cs af  Fo) ++ ((kX3 cs ac  Sc) ++ ((kX4 cs atr (.ref (af 0)) (.ref (ac 0)) .null Tr)))))) (st1 := []) [] hx hb hml hown hu (tX0_start l D cs ach are aus af ac atr ase Ch Se Us Us_10 hg11) q570 q59 q567 q568 q569 pdX0_start ⟨rfl, rfl, Nat.le_of_ble_eq_true rfl, Nat.le_of_ble_eq_true rfl⟩ hK hZ hP hD hS hA [21, 22, 23, 24, 25, 2, 13, 14, 15, 16, 26, 27, 28, 29] [0, 1, 3, 4, 5, 6, 7, 8, 9, 10, 11, 12, 17, 18, 19, 20] [0, 1, 21, 2, 3, 4, 5, 6, 7, 8, 9, 10, 11, 22, 23, 24, 25, 12, 13, 14, 15, 16, 17, 18, 19, 20, 26, 27, 28, 29] rfl rfl rfl rfl rfl rfl rfl rfl rfl rfl hl.1 rfl (Nat.le_of_ble_eq_true rfl) dX7_share_25 rfl (fun H locs hP hD hS => ?_)
      refine lv_aload_n hx hb dX7_share_28 rfl (lv_at hl 0 rfl) ?_
      refine va_get (D := D) (ci := 7) (v := .ref (ach 0)) (C := RX7) (T := TX7) (N := 8) hx hb hu inX7 hown hK.1 hP 0 rfl rfl 3 (by decide) (hu _ q303) (fun _ h9 => h9) rfl dX7_share_29 ?_
      refine lv_iload_n hx hb dX7_share_32 rfl (lv_at hl 2 rfl) ?_
      obtain ⟨Ch_12, Sc_13, Tr_14, Us_15, hg16, hf⟩ := b4_el hf
      refine cc_V (w' := ((kX7 cs ama (.ref (are 0)) (.ref (are2 0)) (.ref (are3 0)) (.ref (ach 0)) (.ref (ata 0)) (.ref (asa 0)) Ma) ++ ((kX2 cs are (.ref (af 0)) (.ref (ac 0)) (.ref (atr 0)) (.ref (ase 0)) ) ++ ((kX1 cs af  Fo) ++ ((kX3 cs ac  Sc_13) ++ ((kX4 cs ase (.ref (af 0)) (.ref (ac 0)) (.ref (atr 0)) Se) ++ ((kX4 cs atr (.ref (af 0)) (.ref (ac 0)) .null Tr_14) ++ ((kX0 cs ach (.ref (are 0)) (.ref (aus 0)) Ch_12) ++ ((kX4 cs aus (.ref (af 0)) (.ref (ac 0)) (.ref (atr 0)) Us_15)))))))))) (wr := ((kX7 cs ama (.ref (are 0)) (.ref (are2 0)) (.ref (are3 0)) (.ref (ach 0)) (.ref (ata 0)) (.ref (asa 0)) Ma) ++ ((kX4 cs ase (.ref (af 0)) (.ref (ac 0)) (.ref (atr 0)) Se)))) (st1 := []) [.int x2] hx hb hml hown hu (tX0_tally l D cs ach are aus af ac atr ase x2 Ch Fo Sc Tr Us_10 Ch_12 Sc_13 Tr_14 Us_15 hg16) q602 q59 q599 q600 q601 pdX0_tally ⟨rfl, rfl, Nat.le_of_ble_eq_true rfl, Nat.le_of_ble_eq_true rfl⟩ hK hZ hP hD hS hA [21, 22, 23, 24, 25, 2, 3, 4, 5, 6, 7, 8, 9, 10, 11, 12, 17, 18, 19, 20, 26, 27, 28, 29] [0, 1, 13, 14, 15, 16] [0, 1, 11, 12, 13, 14, 15, 16, 17, 18, 19, 20, 21, 2, 3, 4, 5, 22, 23, 24, 25, 6, 7, 8, 9, 10, 26, 27, 28, 29] rfl rfl rfl rfl rfl rfl rfl rfl rfl rfl hl.1 rfl (Nat.le_of_ble_eq_true rfl) dX7_share_33 rfl (fun H locs hP hD hS => ?_)
      refine lv_aload_n hx hb dX7_share_36 rfl (lv_at hl 0 rfl) ?_
      refine va_get (D := D) (ci := 7) (v := .ref (ach 0)) (C := RX7) (T := TX7) (N := 8) hx hb hu inX7 hown hK.1 hP 0 rfl rfl 3 (by decide) (hu _ q303) (fun _ h9 => h9) rfl dX7_share_37 ?_
      refine va_get (D := D) (ci := 0) (v := .ref (ach 3)) (C := RX0) (T := TX0) (N := 8) hx hb hu inX0 hown hK.1 hP 21 rfl rfl 2 (by decide) (hu _ q226) (fun _ h9 => h9) rfl dX7_share_40 ?_
      refine lv_iload_n hx hb dX7_share_43 rfl (lv_at hl 1 rfl) ?_
      obtain ⟨hi17, hf⟩ := ck_el hf
      refine va_iald hx hb hK.1 hP 22 0 rfl rfl hi17 dX7_share_44 ?_
      have he := Option.some.inj hf
      obtain ⟨e0, ht0⟩ := Prod.mk.inj he
      obtain ⟨e1, ht1⟩ := Prod.mk.inj ht0
      obtain ⟨e2, ht2⟩ := Prod.mk.inj ht1
      obtain ⟨e3, ht3⟩ := Prod.mk.inj ht2
      obtain ⟨e4, e5⟩ := Prod.mk.inj ht3
      exact hri _ _ _ rfl (congrArg (fun z => some (Value.int z)) e0.symm) dX7_share_45 _ _ _ (by rw [e1, e2, e3, e4, e5]) hP hD hS
    · have hf := ip_el hc9 hf
      exact h14 Ma Sc Tr Ch Us _ _ _ hP hD hS (lv_sub hl [0] rfl) hf

def fX7_has_14 (Fo : ST) (Se : ST) (Ma : ST) (Sc : ST) (Tr : ST) (Ch : ST) (Us : ST) : Option (Int32 × ST × ST × ST × ST × ST) :=
  dc_b2 (fX7_finding (-1000000001) Ma) (fun r4 Ma_5 => some (r4, Ma_5, Sc, Tr, Ch, Us))
def fX7_has (x1 : Int32) (x2 : Int32) (Ma : ST) (Fo : ST) (Sc : ST) (Se : ST) (Tr : ST) (Ch : ST) (Us : ST) : Option (Int32 × ST × ST × ST × ST × ST) :=
  dc_b1 (fX7_isSort x1) (fun r1 => (if r1 = 0 then fX7_has_14 Fo Se Ma Sc Tr Ch Us else dc_b1 (fX7_isChairs x2) (fun r7 => (if r7 = 0 then fX7_has_14 Fo Se Ma Sc Tr Ch Us else dc_b1 (fX0_start Ch Se Us) (fun Us_10 => dc_b4 (fX0_tally x2 Ch Fo Sc Tr Us_10) (fun Ch_12 Sc_13 Tr_14 Us_15 => dc_b1 (fX0_worthFor x1 Ch_12 Fo) (fun r17 => some (r17, Ma, Sc_13, Tr_14, Ch_12, Us_15))))))))
abbrev rmX7_has : Room := { frames := 11, cells := 0, slots := 0, locals := 279 }
set_option maxRecDepth 100000 in
set_option maxHeartbeats 4000000 in
theorem tX7_has (l : Launch) (D : va_G) (cs : Nat → ClassId) (ama : Nat → Nat) (are : Nat → Nat) (are2 : Nat → Nat) (are3 : Nat → Nat) (ach : Nat → Nat) (ata : Nat → Nat) (asa : Nat → Nat) (af : Nat → Nat) (ac : Nat → Nat) (atr : Nat → Nat) (ase : Nat → Nat) (aus : Nat → Nat) (x1 : Int32) (x2 : Int32) (Ma : ST) (Fo : ST) (Sc : ST) (Se : ST) (Tr : ST) (Ch : ST) (Us : ST) (r0 : Int32) (Maz : ST) (Scz : ST) (Trz : ST) (Chz : ST) (Usz : ST) (hf : fX7_has x1 x2 Ma Fo Sc Se Tr Ch Us = some (r0, Maz, Scz, Trz, Chz, Usz)) : CG l yX7_has (wsm yX7_has cX7_has 3 (some .int)) rmX7_has D cs [.ref (ama 0), .int x1, .int x2] (some (.int r0)) ((kX7 cs ama (.ref (are 0)) (.ref (are2 0)) (.ref (are3 0)) (.ref (ach 0)) (.ref (ata 0)) (.ref (asa 0)) Ma) ++ ((kX2 cs are (.ref (af 0)) (.ref (ac 0)) (.ref (atr 0)) (.ref (ase 0)) ) ++ ((kX1 cs af  Fo) ++ ((kX3 cs ac  Sc) ++ ((kX4 cs ase (.ref (af 0)) (.ref (ac 0)) (.ref (atr 0)) Se) ++ ((kX4 cs atr (.ref (af 0)) (.ref (ac 0)) .null Tr) ++ ((kX0 cs ach (.ref (are 0)) (.ref (aus 0)) Ch) ++ ((kX4 cs aus (.ref (af 0)) (.ref (ac 0)) (.ref (atr 0)) Us))))))))) ((kX7 cs ama (.ref (are 0)) (.ref (are2 0)) (.ref (are3 0)) (.ref (ach 0)) (.ref (ata 0)) (.ref (asa 0)) Maz) ++ ((kX2 cs are (.ref (af 0)) (.ref (ac 0)) (.ref (atr 0)) (.ref (ase 0)) ) ++ ((kX1 cs af  Fo) ++ ((kX3 cs ac  Scz) ++ ((kX4 cs ase (.ref (af 0)) (.ref (ac 0)) (.ref (atr 0)) Se) ++ ((kX4 cs atr (.ref (af 0)) (.ref (ac 0)) .null Trz) ++ ((kX0 cs ach (.ref (are 0)) (.ref (aus 0)) Chz) ++ ((kX4 cs aus (.ref (af 0)) (.ref (ac 0)) (.ref (atr 0)) Usz))))))))) := by
  refine CG.intro (by decide) (Nat.le_of_ble_eq_true rfl) ?_
  intro p e s m below meth c A Q hx hb hml hown hu hK hZ hP0 hD0 hS0 hA hri hrz hrl hrv hra ls0 hl0
  have h14 : ∀ (Ma : ST) (Sc : ST) (Tr : ST) (Ch : ST) (Us : ST) (H : Heap) (locs : List Loc) (ls : Array Slot), va_P D vwCl ((kX7 cs ama (.ref (are 0)) (.ref (are2 0)) (.ref (are3 0)) (.ref (ach 0)) (.ref (ata 0)) (.ref (asa 0)) Ma) ++ ((kX2 cs are (.ref (af 0)) (.ref (ac 0)) (.ref (atr 0)) (.ref (ase 0)) ) ++ ((kX1 cs af  Fo) ++ ((kX3 cs ac  Sc) ++ ((kX4 cs ase (.ref (af 0)) (.ref (ac 0)) (.ref (atr 0)) Se) ++ ((kX4 cs atr (.ref (af 0)) (.ref (ac 0)) .null Tr) ++ ((kX0 cs ach (.ref (are 0)) (.ref (aus 0)) Ch) ++ ((kX4 cs aus (.ref (af 0)) (.ref (ac 0)) (.ref (atr 0)) Us))))))))) H → va_D A ((kX7 cs ama (.ref (are 0)) (.ref (are2 0)) (.ref (are3 0)) (.ref (ach 0)) (.ref (ata 0)) (.ref (asa 0)) Ma) ++ ((kX2 cs are (.ref (af 0)) (.ref (ac 0)) (.ref (atr 0)) (.ref (ase 0)) ) ++ ((kX1 cs af  Fo) ++ ((kX3 cs ac  Sc) ++ ((kX4 cs ase (.ref (af 0)) (.ref (ac 0)) (.ref (atr 0)) Se) ++ ((kX4 cs atr (.ref (af 0)) (.ref (ac 0)) .null Tr) ++ ((kX0 cs ach (.ref (are 0)) (.ref (aus 0)) Ch) ++ ((kX4 cs aus (.ref (af 0)) (.ref (ac 0)) (.ref (atr 0)) Us))))))))) → va_S A s.heap H locs → lv_has ls 3 [(0, .ref (ama 0))] → fX7_has_14 Fo Se Ma Sc Tr Ch Us = some (r0, Maz, Scz, Trz, Chz, Usz) → W p l e rmX7_has s m [.ref (ama 0), .int x1, .int x2].toArray below meth c H locs 0 0 Q (F0 m 14 ls []) := by
    intro Ma Sc Tr Ch Us H locs ls hP hD hS hl hf
    unfold fX7_has_14 at hf
    refine lv_aload_n hx hb dX7_has_14 rfl (lv_at hl 0 rfl) ?_
    refine lv_ldc (v := (-1000000001)) hx hb hown (hu _ q335) dX7_has_15 ?_
    obtain ⟨r4, Ma_5, hg6, hf⟩ := b2_el hf
    refine cc_V (w' := ((kX7 cs ama (.ref (are 0)) (.ref (are2 0)) (.ref (are3 0)) (.ref (ach 0)) (.ref (ata 0)) (.ref (asa 0)) Ma_5) ++ ((kX2 cs are (.ref (af 0)) (.ref (ac 0)) (.ref (atr 0)) (.ref (ase 0)) ) ++ ((kX1 cs af  Fo) ++ ((kX3 cs ac  Sc) ++ ((kX4 cs ase (.ref (af 0)) (.ref (ac 0)) (.ref (atr 0)) Se) ++ ((kX4 cs atr (.ref (af 0)) (.ref (ac 0)) .null Tr) ++ ((kX0 cs ach (.ref (are 0)) (.ref (aus 0)) Ch) ++ ((kX4 cs aus (.ref (af 0)) (.ref (ac 0)) (.ref (atr 0)) Us)))))))))) (wr := ((kX2 cs are (.ref (af 0)) (.ref (ac 0)) (.ref (atr 0)) (.ref (ase 0)) ) ++ ((kX1 cs af  Fo) ++ ((kX3 cs ac  Sc) ++ ((kX4 cs ase (.ref (af 0)) (.ref (ac 0)) (.ref (atr 0)) Se) ++ ((kX4 cs atr (.ref (af 0)) (.ref (ac 0)) .null Tr) ++ ((kX0 cs ach (.ref (are 0)) (.ref (aus 0)) Ch) ++ ((kX4 cs aus (.ref (af 0)) (.ref (ac 0)) (.ref (atr 0)) Us))))))))) (st1 := [.int r4]) [.int (-1000000001)] hx hb hml hown hu (tX7_finding l D cs ama are are2 are3 ach ata asa (-1000000001) Ma r4 Ma_5 hg6) q339 q54 q336 q338 q0 pdX7_finding ⟨rfl, rfl, Nat.le_of_ble_eq_true rfl, Nat.le_of_ble_eq_true rfl⟩ hK hZ hP hD hS hA [0, 1] [2, 3, 4, 5, 6, 7, 8, 9, 10, 11, 12, 13, 14, 15, 16, 17, 18, 19, 20, 21, 22, 23, 24, 25, 26, 27, 28, 29] [28, 29, 0, 1, 2, 3, 4, 5, 6, 7, 8, 9, 10, 11, 12, 13, 14, 15, 16, 17, 18, 19, 20, 21, 22, 23, 24, 25, 26, 27] rfl rfl rfl rfl rfl rfl rfl rfl rfl rfl hl.1 rfl (Nat.le_of_ble_eq_true rfl) dX7_has_17 rfl (fun H locs hP hD hS => ?_)
    have he := Option.some.inj hf
    obtain ⟨e0, ht0⟩ := Prod.mk.inj he
    obtain ⟨e1, ht1⟩ := Prod.mk.inj ht0
    obtain ⟨e2, ht2⟩ := Prod.mk.inj ht1
    obtain ⟨e3, ht3⟩ := Prod.mk.inj ht2
    obtain ⟨e4, e5⟩ := Prod.mk.inj ht3
    exact hri _ _ _ rfl (congrArg (fun z => some (Value.int z)) e0.symm) dX7_has_20 _ _ _ (by rw [e1, e2, e3, e4, e5]) hP hD hS
  have hl : lv_has ls0 3 [(0, .ref (ama 0)), (1, .int x1), (2, .int x2)] := hl0
  have hP := hP0
  have hD := hD0
  have hS := hS0
  unfold fX7_has at hf
  refine lv_iload_n hx hb dX7_has_0 rfl (lv_at hl 1 rfl) ?_
  obtain ⟨r1, hg2, hf⟩ := b1_el hf
  refine cc_S0 (st1 := [.int r1]) [.int x1] hx hb hml hown hu (tX7_isSort l D cs x1 r1 hg2) q334 q54 q332 q333 pdX7_isSort ⟨rfl, rfl, Nat.le_of_ble_eq_true rfl, Nat.le_of_ble_eq_true rfl⟩ hK hZ hP hD hS hA rfl hl.1 rfl (Nat.le_of_ble_eq_true rfl) dX7_has_1 rfl (fun H locs hP hD hS => ?_)
  refine lv_if_eq (tgt := 14) hx hb dX7_has_4 (by decide) (fun hc3 => ?_) (fun hc3 => ?_)
  · have hf := ip_el hc3 hf
    exact h14 Ma Sc Tr Ch Us _ _ _ hP hD hS (lv_sub hl [0] rfl) hf
  · have hf := in_el hc3 hf
    refine lv_iload_n hx hb dX7_has_7 rfl (lv_at hl 2 rfl) ?_
    obtain ⟨r7, hg8, hf⟩ := b1_el hf
    refine cc_S0 (st1 := [.int r7]) [.int x2] hx hb hml hown hu (tX7_isChairs l D cs x2 r7 hg8) q566 q54 q564 q565 pdX7_isChairs ⟨rfl, rfl, Nat.le_of_ble_eq_true rfl, Nat.le_of_ble_eq_true rfl⟩ hK hZ hP hD hS hA rfl hl.1 rfl (Nat.le_of_ble_eq_true rfl) dX7_has_8 rfl (fun H locs hP hD hS => ?_)
    refine lv_if_ne (tgt := 21) hx hb dX7_has_11 (by decide) (fun hc9 => ?_) (fun hc9 => ?_)
    · have hf := in_el hc9 hf
      refine lv_aload_n hx hb dX7_has_21 rfl (lv_at hl 0 rfl) ?_
      refine va_get (D := D) (ci := 7) (v := .ref (ach 0)) (C := RX7) (T := TX7) (N := 8) hx hb hu inX7 hown hK.1 hP 0 rfl rfl 3 (by decide) (hu _ q303) (fun _ h9 => h9) rfl dX7_has_22 ?_
      obtain ⟨Us_10, hg11, hf⟩ := b1_el hf
      refine cc_V (w' := ((kX7 cs ama (.ref (are 0)) (.ref (are2 0)) (.ref (are3 0)) (.ref (ach 0)) (.ref (ata 0)) (.ref (asa 0)) Ma) ++ ((kX2 cs are (.ref (af 0)) (.ref (ac 0)) (.ref (atr 0)) (.ref (ase 0)) ) ++ ((kX1 cs af  Fo) ++ ((kX3 cs ac  Sc) ++ ((kX4 cs ase (.ref (af 0)) (.ref (ac 0)) (.ref (atr 0)) Se) ++ ((kX4 cs atr (.ref (af 0)) (.ref (ac 0)) .null Tr) ++ ((kX0 cs ach (.ref (are 0)) (.ref (aus 0)) Ch) ++ ((kX4 cs aus (.ref (af 0)) (.ref (ac 0)) (.ref (atr 0)) Us_10)))))))))) (wr := ((kX7 cs ama (.ref (are 0)) (.ref (are2 0)) (.ref (are3 0)) (.ref (ach 0)) (.ref (ata 0)) (.ref (asa 0)) Ma) ++ ((kX1 cs af  Fo) ++ ((kX3 cs ac  Sc) ++ ((kX4 cs atr (.ref (af 0)) (.ref (ac 0)) .null Tr)))))) (st1 := []) [] hx hb hml hown hu (tX0_start l D cs ach are aus af ac atr ase Ch Se Us Us_10 hg11) q570 q59 q567 q568 q569 pdX0_start ⟨rfl, rfl, Nat.le_of_ble_eq_true rfl, Nat.le_of_ble_eq_true rfl⟩ hK hZ hP hD hS hA [21, 22, 23, 24, 25, 2, 13, 14, 15, 16, 26, 27, 28, 29] [0, 1, 3, 4, 5, 6, 7, 8, 9, 10, 11, 12, 17, 18, 19, 20] [0, 1, 21, 2, 3, 4, 5, 6, 7, 8, 9, 10, 11, 22, 23, 24, 25, 12, 13, 14, 15, 16, 17, 18, 19, 20, 26, 27, 28, 29] rfl rfl rfl rfl rfl rfl rfl rfl rfl rfl hl.1 rfl (Nat.le_of_ble_eq_true rfl) dX7_has_25 rfl (fun H locs hP hD hS => ?_)
      refine lv_aload_n hx hb dX7_has_28 rfl (lv_at hl 0 rfl) ?_
      refine va_get (D := D) (ci := 7) (v := .ref (ach 0)) (C := RX7) (T := TX7) (N := 8) hx hb hu inX7 hown hK.1 hP 0 rfl rfl 3 (by decide) (hu _ q303) (fun _ h9 => h9) rfl dX7_has_29 ?_
      refine lv_iload_n hx hb dX7_has_32 rfl (lv_at hl 2 rfl) ?_
      obtain ⟨Ch_12, Sc_13, Tr_14, Us_15, hg16, hf⟩ := b4_el hf
      refine cc_V (w' := ((kX7 cs ama (.ref (are 0)) (.ref (are2 0)) (.ref (are3 0)) (.ref (ach 0)) (.ref (ata 0)) (.ref (asa 0)) Ma) ++ ((kX2 cs are (.ref (af 0)) (.ref (ac 0)) (.ref (atr 0)) (.ref (ase 0)) ) ++ ((kX1 cs af  Fo) ++ ((kX3 cs ac  Sc_13) ++ ((kX4 cs ase (.ref (af 0)) (.ref (ac 0)) (.ref (atr 0)) Se) ++ ((kX4 cs atr (.ref (af 0)) (.ref (ac 0)) .null Tr_14) ++ ((kX0 cs ach (.ref (are 0)) (.ref (aus 0)) Ch_12) ++ ((kX4 cs aus (.ref (af 0)) (.ref (ac 0)) (.ref (atr 0)) Us_15)))))))))) (wr := ((kX7 cs ama (.ref (are 0)) (.ref (are2 0)) (.ref (are3 0)) (.ref (ach 0)) (.ref (ata 0)) (.ref (asa 0)) Ma) ++ ((kX4 cs ase (.ref (af 0)) (.ref (ac 0)) (.ref (atr 0)) Se)))) (st1 := []) [.int x2] hx hb hml hown hu (tX0_tally l D cs ach are aus af ac atr ase x2 Ch Fo Sc Tr Us_10 Ch_12 Sc_13 Tr_14 Us_15 hg16) q602 q59 q599 q600 q601 pdX0_tally ⟨rfl, rfl, Nat.le_of_ble_eq_true rfl, Nat.le_of_ble_eq_true rfl⟩ hK hZ hP hD hS hA [21, 22, 23, 24, 25, 2, 3, 4, 5, 6, 7, 8, 9, 10, 11, 12, 17, 18, 19, 20, 26, 27, 28, 29] [0, 1, 13, 14, 15, 16] [0, 1, 11, 12, 13, 14, 15, 16, 17, 18, 19, 20, 21, 2, 3, 4, 5, 22, 23, 24, 25, 6, 7, 8, 9, 10, 26, 27, 28, 29] rfl rfl rfl rfl rfl rfl rfl rfl rfl rfl hl.1 rfl (Nat.le_of_ble_eq_true rfl) dX7_has_33 rfl (fun H locs hP hD hS => ?_)
      refine lv_aload_n hx hb dX7_has_36 rfl (lv_at hl 0 rfl) ?_
      refine va_get (D := D) (ci := 7) (v := .ref (ach 0)) (C := RX7) (T := TX7) (N := 8) hx hb hu inX7 hown hK.1 hP 0 rfl rfl 3 (by decide) (hu _ q303) (fun _ h9 => h9) rfl dX7_has_37 ?_
      refine lv_iload_n hx hb dX7_has_40 rfl (lv_at hl 1 rfl) ?_
      obtain ⟨r17, hg18, hf⟩ := b1_el hf
      refine cc_V (w' := ((kX7 cs ama (.ref (are 0)) (.ref (are2 0)) (.ref (are3 0)) (.ref (ach 0)) (.ref (ata 0)) (.ref (asa 0)) Ma) ++ ((kX2 cs are (.ref (af 0)) (.ref (ac 0)) (.ref (atr 0)) (.ref (ase 0)) ) ++ ((kX1 cs af  Fo) ++ ((kX3 cs ac  Sc_13) ++ ((kX4 cs ase (.ref (af 0)) (.ref (ac 0)) (.ref (atr 0)) Se) ++ ((kX4 cs atr (.ref (af 0)) (.ref (ac 0)) .null Tr_14) ++ ((kX0 cs ach (.ref (are 0)) (.ref (aus 0)) Ch_12) ++ ((kX4 cs aus (.ref (af 0)) (.ref (ac 0)) (.ref (atr 0)) Us_15)))))))))) (wr := ((kX7 cs ama (.ref (are 0)) (.ref (are2 0)) (.ref (are3 0)) (.ref (ach 0)) (.ref (ata 0)) (.ref (asa 0)) Ma) ++ ((kX3 cs ac  Sc_13) ++ ((kX4 cs ase (.ref (af 0)) (.ref (ac 0)) (.ref (atr 0)) Se) ++ ((kX4 cs atr (.ref (af 0)) (.ref (ac 0)) .null Tr_14) ++ ((kX4 cs aus (.ref (af 0)) (.ref (ac 0)) (.ref (atr 0)) Us_15))))))) (st1 := [.int r17]) [.int x1] hx hb hml hown hu (tX0_worthFor l D cs ach are aus af ac atr ase x1 Ch_12 Fo r17 hg18) q613 q59 q610 q611 q612 pdX0_worthFor ⟨rfl, rfl, Nat.le_of_ble_eq_true rfl, Nat.le_of_ble_eq_true rfl⟩ hK hZ hP hD hS hA [21, 22, 23, 24, 25, 2, 3, 4, 5, 6, 7, 8, 9] [0, 1, 10, 11, 12, 13, 14, 15, 16, 17, 18, 19, 20, 26, 27, 28, 29] [0, 1, 22, 23, 24, 25, 26, 27, 28, 29, 2, 3, 4, 5, 6, 7, 8, 9, 10, 11, 12, 17, 18, 19, 20, 21, 13, 14, 15, 16] rfl rfl rfl rfl rfl rfl rfl rfl rfl rfl hl.1 rfl (Nat.le_of_ble_eq_true rfl) dX7_has_41 rfl (fun H locs hP hD hS => ?_)
      have he := Option.some.inj hf
      obtain ⟨e0, ht0⟩ := Prod.mk.inj he
      obtain ⟨e1, ht1⟩ := Prod.mk.inj ht0
      obtain ⟨e2, ht2⟩ := Prod.mk.inj ht1
      obtain ⟨e3, ht3⟩ := Prod.mk.inj ht2
      obtain ⟨e4, e5⟩ := Prod.mk.inj ht3
      exact hri _ _ _ rfl (congrArg (fun z => some (Value.int z)) e0.symm) dX7_has_44 _ _ _ (by rw [e1, e2, e3, e4, e5]) hP hD hS
    · have hf := ip_el hc9 hf
      exact h14 Ma Sc Tr Ch Us _ _ _ hP hD hS (lv_sub hl [0] rfl) hf

def fX7_but_31 (Fo : ST) (Se : ST) (Ma : ST) (Sc : ST) (Tr : ST) (Ch : ST) (Us : ST) : Option (Int32 × ST × ST × ST × ST × ST) :=
  dc_b2 (fX7_finding (-1000000001) Ma) (fun r6 Ma_7 => some (r6, Ma_7, Sc, Tr, Ch, Us))
def fX7_but (x1 : Int32) (x2 : Int32) (x3 : Int32) (Ma : ST) (Fo : ST) (Sc : ST) (Se : ST) (Tr : ST) (Ch : ST) (Us : ST) : Option (Int32 × ST × ST × ST × ST × ST) :=
  dc_ck 0 6 (dc_ck 0 6 (dc_b1 (fX7_within x1 (tabL (Int32.toNatClampNeg 0)) (tabM (Int32.toNatClampNeg 0))) (fun r3 => (if r3 = 0 then fX7_but_31 Fo Se Ma Sc Tr Ch Us else dc_b1 (fX7_isSort x2) (fun r9 => (if r9 = 0 then fX7_but_31 Fo Se Ma Sc Tr Ch Us else dc_b1 (fX7_isChairs x3) (fun r12 => (if r12 = 0 then fX7_but_31 Fo Se Ma Sc Tr Ch Us else dc_b1 (fX0_start Ch Se Us) (fun Us_15 => dc_b1 (fX4_giveRule 0 x1 Us_15) (fun Us_17 => dc_b4 (fX0_tally x3 Ch Fo Sc Tr Us_17) (fun Ch_19 Sc_20 Tr_21 Us_22 => dc_b1 (fX0_worthFor x2 Ch_19 Fo) (fun r24 => some (r24, Ma, Sc_20, Tr_21, Ch_19, Us_22)))))))))))))
abbrev rmX7_but : Room := { frames := 11, cells := 0, slots := 0, locals := 279 }
set_option maxRecDepth 100000 in
set_option maxHeartbeats 4000000 in
theorem tX7_but (l : Launch) (D : va_G) (cs : Nat → ClassId) (ama : Nat → Nat) (are : Nat → Nat) (are2 : Nat → Nat) (are3 : Nat → Nat) (ach : Nat → Nat) (ata : Nat → Nat) (asa : Nat → Nat) (af : Nat → Nat) (ac : Nat → Nat) (atr : Nat → Nat) (ase : Nat → Nat) (aus : Nat → Nat) (x1 : Int32) (x2 : Int32) (x3 : Int32) (Ma : ST) (Fo : ST) (Sc : ST) (Se : ST) (Tr : ST) (Ch : ST) (Us : ST) (r0 : Int32) (Maz : ST) (Scz : ST) (Trz : ST) (Chz : ST) (Usz : ST) (hf : fX7_but x1 x2 x3 Ma Fo Sc Se Tr Ch Us = some (r0, Maz, Scz, Trz, Chz, Usz)) : CG l yX7_but (wsm yX7_but cX7_but 4 (some .int)) rmX7_but D cs [.ref (ama 0), .int x1, .int x2, .int x3] (some (.int r0)) ((kX7 cs ama (.ref (are 0)) (.ref (are2 0)) (.ref (are3 0)) (.ref (ach 0)) (.ref (ata 0)) (.ref (asa 0)) Ma) ++ ((kX2 cs are (.ref (af 0)) (.ref (ac 0)) (.ref (atr 0)) (.ref (ase 0)) ) ++ ((kX1 cs af  Fo) ++ ((kX3 cs ac  Sc) ++ ((kX4 cs ase (.ref (af 0)) (.ref (ac 0)) (.ref (atr 0)) Se) ++ ((kX4 cs atr (.ref (af 0)) (.ref (ac 0)) .null Tr) ++ ((kX0 cs ach (.ref (are 0)) (.ref (aus 0)) Ch) ++ ((kX4 cs aus (.ref (af 0)) (.ref (ac 0)) (.ref (atr 0)) Us))))))))) ((kX7 cs ama (.ref (are 0)) (.ref (are2 0)) (.ref (are3 0)) (.ref (ach 0)) (.ref (ata 0)) (.ref (asa 0)) Maz) ++ ((kX2 cs are (.ref (af 0)) (.ref (ac 0)) (.ref (atr 0)) (.ref (ase 0)) ) ++ ((kX1 cs af  Fo) ++ ((kX3 cs ac  Scz) ++ ((kX4 cs ase (.ref (af 0)) (.ref (ac 0)) (.ref (atr 0)) Se) ++ ((kX4 cs atr (.ref (af 0)) (.ref (ac 0)) .null Trz) ++ ((kX0 cs ach (.ref (are 0)) (.ref (aus 0)) Chz) ++ ((kX4 cs aus (.ref (af 0)) (.ref (ac 0)) (.ref (atr 0)) Usz))))))))) := by
  refine CG.intro (by decide) (Nat.le_of_ble_eq_true rfl) ?_
  intro p e s m below meth c A Q hx hb hml hown hu hK hZ hP0 hD0 hS0 hA hri hrz hrl hrv hra ls0 hl0
  have h31 : ∀ (Ma : ST) (Sc : ST) (Tr : ST) (Ch : ST) (Us : ST) (H : Heap) (locs : List Loc) (ls : Array Slot), va_P D vwCl ((kX7 cs ama (.ref (are 0)) (.ref (are2 0)) (.ref (are3 0)) (.ref (ach 0)) (.ref (ata 0)) (.ref (asa 0)) Ma) ++ ((kX2 cs are (.ref (af 0)) (.ref (ac 0)) (.ref (atr 0)) (.ref (ase 0)) ) ++ ((kX1 cs af  Fo) ++ ((kX3 cs ac  Sc) ++ ((kX4 cs ase (.ref (af 0)) (.ref (ac 0)) (.ref (atr 0)) Se) ++ ((kX4 cs atr (.ref (af 0)) (.ref (ac 0)) .null Tr) ++ ((kX0 cs ach (.ref (are 0)) (.ref (aus 0)) Ch) ++ ((kX4 cs aus (.ref (af 0)) (.ref (ac 0)) (.ref (atr 0)) Us))))))))) H → va_D A ((kX7 cs ama (.ref (are 0)) (.ref (are2 0)) (.ref (are3 0)) (.ref (ach 0)) (.ref (ata 0)) (.ref (asa 0)) Ma) ++ ((kX2 cs are (.ref (af 0)) (.ref (ac 0)) (.ref (atr 0)) (.ref (ase 0)) ) ++ ((kX1 cs af  Fo) ++ ((kX3 cs ac  Sc) ++ ((kX4 cs ase (.ref (af 0)) (.ref (ac 0)) (.ref (atr 0)) Se) ++ ((kX4 cs atr (.ref (af 0)) (.ref (ac 0)) .null Tr) ++ ((kX0 cs ach (.ref (are 0)) (.ref (aus 0)) Ch) ++ ((kX4 cs aus (.ref (af 0)) (.ref (ac 0)) (.ref (atr 0)) Us))))))))) → va_S A s.heap H locs → lv_has ls 4 [(0, .ref (ama 0))] → fX7_but_31 Fo Se Ma Sc Tr Ch Us = some (r0, Maz, Scz, Trz, Chz, Usz) → W p l e rmX7_but s m [.ref (ama 0), .int x1, .int x2, .int x3].toArray below meth c H locs 0 0 Q (F0 m 31 ls []) := by
    intro Ma Sc Tr Ch Us H locs ls hP hD hS hl hf
    unfold fX7_but_31 at hf
    refine lv_aload_n hx hb dX7_but_31 rfl (lv_at hl 0 rfl) ?_
    refine lv_ldc (v := (-1000000001)) hx hb hown (hu _ q335) dX7_but_32 ?_
    obtain ⟨r6, Ma_7, hg8, hf⟩ := b2_el hf
    refine cc_V (w' := ((kX7 cs ama (.ref (are 0)) (.ref (are2 0)) (.ref (are3 0)) (.ref (ach 0)) (.ref (ata 0)) (.ref (asa 0)) Ma_7) ++ ((kX2 cs are (.ref (af 0)) (.ref (ac 0)) (.ref (atr 0)) (.ref (ase 0)) ) ++ ((kX1 cs af  Fo) ++ ((kX3 cs ac  Sc) ++ ((kX4 cs ase (.ref (af 0)) (.ref (ac 0)) (.ref (atr 0)) Se) ++ ((kX4 cs atr (.ref (af 0)) (.ref (ac 0)) .null Tr) ++ ((kX0 cs ach (.ref (are 0)) (.ref (aus 0)) Ch) ++ ((kX4 cs aus (.ref (af 0)) (.ref (ac 0)) (.ref (atr 0)) Us)))))))))) (wr := ((kX2 cs are (.ref (af 0)) (.ref (ac 0)) (.ref (atr 0)) (.ref (ase 0)) ) ++ ((kX1 cs af  Fo) ++ ((kX3 cs ac  Sc) ++ ((kX4 cs ase (.ref (af 0)) (.ref (ac 0)) (.ref (atr 0)) Se) ++ ((kX4 cs atr (.ref (af 0)) (.ref (ac 0)) .null Tr) ++ ((kX0 cs ach (.ref (are 0)) (.ref (aus 0)) Ch) ++ ((kX4 cs aus (.ref (af 0)) (.ref (ac 0)) (.ref (atr 0)) Us))))))))) (st1 := [.int r6]) [.int (-1000000001)] hx hb hml hown hu (tX7_finding l D cs ama are are2 are3 ach ata asa (-1000000001) Ma r6 Ma_7 hg8) q339 q54 q336 q338 q0 pdX7_finding ⟨rfl, rfl, Nat.le_of_ble_eq_true rfl, Nat.le_of_ble_eq_true rfl⟩ hK hZ hP hD hS hA [0, 1] [2, 3, 4, 5, 6, 7, 8, 9, 10, 11, 12, 13, 14, 15, 16, 17, 18, 19, 20, 21, 22, 23, 24, 25, 26, 27, 28, 29] [28, 29, 0, 1, 2, 3, 4, 5, 6, 7, 8, 9, 10, 11, 12, 13, 14, 15, 16, 17, 18, 19, 20, 21, 22, 23, 24, 25, 26, 27] rfl rfl rfl rfl rfl rfl rfl rfl rfl rfl hl.1 rfl (Nat.le_of_ble_eq_true rfl) dX7_but_34 rfl (fun H locs hP hD hS => ?_)
    have he := Option.some.inj hf
    obtain ⟨e0, ht0⟩ := Prod.mk.inj he
    obtain ⟨e1, ht1⟩ := Prod.mk.inj ht0
    obtain ⟨e2, ht2⟩ := Prod.mk.inj ht1
    obtain ⟨e3, ht3⟩ := Prod.mk.inj ht2
    obtain ⟨e4, e5⟩ := Prod.mk.inj ht3
    exact hri _ _ _ rfl (congrArg (fun z => some (Value.int z)) e0.symm) dX7_but_37 _ _ _ (by rw [e1, e2, e3, e4, e5]) hP hD hS
  have hl : lv_has ls0 4 [(0, .ref (ama 0)), (1, .int x1), (2, .int x2), (3, .int x3)] := hl0
  have hP := hP0
  have hD := hD0
  have hS := hS0
  unfold fX7_but at hf
  refine lv_iload_n hx hb dX7_but_0 rfl (lv_at hl 1 rfl) ?_
  refine va_gets hx hb hZ.2.1.1 hS hown (hu _ q482) (fun _ h9 => h9) dX7_but_1 ?_
  refine lv_iconst (v := 0) hx hb dX7_but_4 (by decide) ?_
  obtain ⟨hi1, hf⟩ := ck_el hf
  refine va_ti (v := .int (tabL (Int32.toNatClampNeg 0))) hx hb hZ.2.1.2 hS hi1 rfl dX7_but_5 ?_
  refine va_gets hx hb hZ.2.2.1.1 hS hown (hu _ q484) (fun _ h9 => h9) dX7_but_6 ?_
  refine lv_iconst (v := 0) hx hb dX7_but_9 (by decide) ?_
  obtain ⟨hi2, hf⟩ := ck_el hf
  refine va_ti (v := .int (tabM (Int32.toNatClampNeg 0))) hx hb hZ.2.2.1.2 hS hi2 rfl dX7_but_10 ?_
  obtain ⟨r3, hg4, hf⟩ := b1_el hf
  refine cc_S0 (st1 := [.int r3]) [.int x1, .int (tabL (Int32.toNatClampNeg 0)), .int (tabM (Int32.toNatClampNeg 0))] hx hb hml hown hu (tX7_within l D cs x1 (tabL (Int32.toNatClampNeg 0)) (tabM (Int32.toNatClampNeg 0)) r3 hg4) q331 q54 q329 q330 pdX7_within ⟨rfl, rfl, Nat.le_of_ble_eq_true rfl, Nat.le_of_ble_eq_true rfl⟩ hK hZ hP hD hS hA rfl hl.1 rfl (Nat.le_of_ble_eq_true rfl) dX7_but_11 rfl (fun H locs hP hD hS => ?_)
  refine lv_if_eq (tgt := 31) hx hb dX7_but_14 (by decide) (fun hc5 => ?_) (fun hc5 => ?_)
  · have hf := ip_el hc5 hf
    exact h31 Ma Sc Tr Ch Us _ _ _ hP hD hS (lv_sub hl [0] rfl) hf
  · have hf := in_el hc5 hf
    refine lv_iload_n hx hb dX7_but_17 rfl (lv_at hl 2 rfl) ?_
    obtain ⟨r9, hg10, hf⟩ := b1_el hf
    refine cc_S0 (st1 := [.int r9]) [.int x2] hx hb hml hown hu (tX7_isSort l D cs x2 r9 hg10) q334 q54 q332 q333 pdX7_isSort ⟨rfl, rfl, Nat.le_of_ble_eq_true rfl, Nat.le_of_ble_eq_true rfl⟩ hK hZ hP hD hS hA rfl hl.1 rfl (Nat.le_of_ble_eq_true rfl) dX7_but_18 rfl (fun H locs hP hD hS => ?_)
    refine lv_if_eq (tgt := 31) hx hb dX7_but_21 (by decide) (fun hc11 => ?_) (fun hc11 => ?_)
    · have hf := ip_el hc11 hf
      exact h31 Ma Sc Tr Ch Us _ _ _ hP hD hS (lv_sub hl [0] rfl) hf
    · have hf := in_el hc11 hf
      refine lv_iload_n hx hb dX7_but_24 rfl (lv_at hl 3 rfl) ?_
      obtain ⟨r12, hg13, hf⟩ := b1_el hf
      refine cc_S0 (st1 := [.int r12]) [.int x3] hx hb hml hown hu (tX7_isChairs l D cs x3 r12 hg13) q566 q54 q564 q565 pdX7_isChairs ⟨rfl, rfl, Nat.le_of_ble_eq_true rfl, Nat.le_of_ble_eq_true rfl⟩ hK hZ hP hD hS hA rfl hl.1 rfl (Nat.le_of_ble_eq_true rfl) dX7_but_25 rfl (fun H locs hP hD hS => ?_)
      refine lv_if_ne (tgt := 38) hx hb dX7_but_28 (by decide) (fun hc14 => ?_) (fun hc14 => ?_)
      · have hf := in_el hc14 hf
        refine lv_aload_n hx hb dX7_but_38 rfl (lv_at hl 0 rfl) ?_
        refine va_get (D := D) (ci := 7) (v := .ref (ach 0)) (C := RX7) (T := TX7) (N := 8) hx hb hu inX7 hown hK.1 hP 0 rfl rfl 3 (by decide) (hu _ q303) (fun _ h9 => h9) rfl dX7_but_39 ?_
        obtain ⟨Us_15, hg16, hf⟩ := b1_el hf
        refine cc_V (w' := ((kX7 cs ama (.ref (are 0)) (.ref (are2 0)) (.ref (are3 0)) (.ref (ach 0)) (.ref (ata 0)) (.ref (asa 0)) Ma) ++ ((kX2 cs are (.ref (af 0)) (.ref (ac 0)) (.ref (atr 0)) (.ref (ase 0)) ) ++ ((kX1 cs af  Fo) ++ ((kX3 cs ac  Sc) ++ ((kX4 cs ase (.ref (af 0)) (.ref (ac 0)) (.ref (atr 0)) Se) ++ ((kX4 cs atr (.ref (af 0)) (.ref (ac 0)) .null Tr) ++ ((kX0 cs ach (.ref (are 0)) (.ref (aus 0)) Ch) ++ ((kX4 cs aus (.ref (af 0)) (.ref (ac 0)) (.ref (atr 0)) Us_15)))))))))) (wr := ((kX7 cs ama (.ref (are 0)) (.ref (are2 0)) (.ref (are3 0)) (.ref (ach 0)) (.ref (ata 0)) (.ref (asa 0)) Ma) ++ ((kX1 cs af  Fo) ++ ((kX3 cs ac  Sc) ++ ((kX4 cs atr (.ref (af 0)) (.ref (ac 0)) .null Tr)))))) (st1 := []) [] hx hb hml hown hu (tX0_start l D cs ach are aus af ac atr ase Ch Se Us Us_15 hg16) q570 q59 q567 q568 q569 pdX0_start ⟨rfl, rfl, Nat.le_of_ble_eq_true rfl, Nat.le_of_ble_eq_true rfl⟩ hK hZ hP hD hS hA [21, 22, 23, 24, 25, 2, 13, 14, 15, 16, 26, 27, 28, 29] [0, 1, 3, 4, 5, 6, 7, 8, 9, 10, 11, 12, 17, 18, 19, 20] [0, 1, 21, 2, 3, 4, 5, 6, 7, 8, 9, 10, 11, 22, 23, 24, 25, 12, 13, 14, 15, 16, 17, 18, 19, 20, 26, 27, 28, 29] rfl rfl rfl rfl rfl rfl rfl rfl rfl rfl hl.1 rfl (Nat.le_of_ble_eq_true rfl) dX7_but_42 rfl (fun H locs hP hD hS => ?_)
        refine lv_aload_n hx hb dX7_but_45 rfl (lv_at hl 0 rfl) ?_
        refine va_get (D := D) (ci := 7) (v := .ref (ach 0)) (C := RX7) (T := TX7) (N := 8) hx hb hu inX7 hown hK.1 hP 0 rfl rfl 3 (by decide) (hu _ q303) (fun _ h9 => h9) rfl dX7_but_46 ?_
        refine va_get (D := D) (ci := 0) (v := .ref (aus 0)) (C := RX0) (T := TX0) (N := 8) hx hb hu inX0 hown hK.1 hP 21 rfl rfl 1 (by decide) (hu _ q224) (fun _ h9 => h9) rfl dX7_but_49 ?_
        refine lv_iconst (v := 0) hx hb dX7_but_52 (by decide) ?_
        refine lv_iload_n hx hb dX7_but_53 rfl (lv_at hl 1 rfl) ?_
        obtain ⟨Us_17, hg18, hf⟩ := b1_el hf
        refine cc_V (w' := ((kX7 cs ama (.ref (are 0)) (.ref (are2 0)) (.ref (are3 0)) (.ref (ach 0)) (.ref (ata 0)) (.ref (asa 0)) Ma) ++ ((kX2 cs are (.ref (af 0)) (.ref (ac 0)) (.ref (atr 0)) (.ref (ase 0)) ) ++ ((kX1 cs af  Fo) ++ ((kX3 cs ac  Sc) ++ ((kX4 cs ase (.ref (af 0)) (.ref (ac 0)) (.ref (atr 0)) Se) ++ ((kX4 cs atr (.ref (af 0)) (.ref (ac 0)) .null Tr) ++ ((kX0 cs ach (.ref (are 0)) (.ref (aus 0)) Ch) ++ ((kX4 cs aus (.ref (af 0)) (.ref (ac 0)) (.ref (atr 0)) Us_17)))))))))) (wr := ((kX7 cs ama (.ref (are 0)) (.ref (are2 0)) (.ref (are3 0)) (.ref (ach 0)) (.ref (ata 0)) (.ref (asa 0)) Ma) ++ ((kX2 cs are (.ref (af 0)) (.ref (ac 0)) (.ref (atr 0)) (.ref (ase 0)) ) ++ ((kX1 cs af  Fo) ++ ((kX3 cs ac  Sc) ++ ((kX4 cs ase (.ref (af 0)) (.ref (ac 0)) (.ref (atr 0)) Se) ++ ((kX4 cs atr (.ref (af 0)) (.ref (ac 0)) .null Tr) ++ ((kX0 cs ach (.ref (are 0)) (.ref (aus 0)) Ch))))))))) (st1 := []) [.int 0, .int x1] hx hb hml hown hu (tX4_giveRule l D cs aus (.ref (af 0)) (.ref (ac 0)) (.ref (atr 0)) 0 x1 Us_15 Us_17 hg18) q489 q58 q486 q487 q488 pdX4_giveRule ⟨rfl, rfl, Nat.le_of_ble_eq_true rfl, Nat.le_of_ble_eq_true rfl⟩ hK hZ hP hD hS hA [26, 27, 28, 29] [0, 1, 2, 3, 4, 5, 6, 7, 8, 9, 10, 11, 12, 13, 14, 15, 16, 17, 18, 19, 20, 21, 22, 23, 24, 25] [0, 1, 2, 3, 4, 5, 6, 7, 8, 9, 10, 11, 12, 13, 14, 15, 16, 17, 18, 19, 20, 21, 22, 23, 24, 25, 26, 27, 28, 29] rfl rfl rfl rfl rfl rfl rfl rfl rfl rfl hl.1 rfl (Nat.le_of_ble_eq_true rfl) dX7_but_54 rfl (fun H locs hP hD hS => ?_)
        refine lv_aload_n hx hb dX7_but_57 rfl (lv_at hl 0 rfl) ?_
        refine va_get (D := D) (ci := 7) (v := .ref (ach 0)) (C := RX7) (T := TX7) (N := 8) hx hb hu inX7 hown hK.1 hP 0 rfl rfl 3 (by decide) (hu _ q303) (fun _ h9 => h9) rfl dX7_but_58 ?_
        refine lv_iload_n hx hb dX7_but_61 rfl (lv_at hl 3 rfl) ?_
        obtain ⟨Ch_19, Sc_20, Tr_21, Us_22, hg23, hf⟩ := b4_el hf
        refine cc_V (w' := ((kX7 cs ama (.ref (are 0)) (.ref (are2 0)) (.ref (are3 0)) (.ref (ach 0)) (.ref (ata 0)) (.ref (asa 0)) Ma) ++ ((kX2 cs are (.ref (af 0)) (.ref (ac 0)) (.ref (atr 0)) (.ref (ase 0)) ) ++ ((kX1 cs af  Fo) ++ ((kX3 cs ac  Sc_20) ++ ((kX4 cs ase (.ref (af 0)) (.ref (ac 0)) (.ref (atr 0)) Se) ++ ((kX4 cs atr (.ref (af 0)) (.ref (ac 0)) .null Tr_21) ++ ((kX0 cs ach (.ref (are 0)) (.ref (aus 0)) Ch_19) ++ ((kX4 cs aus (.ref (af 0)) (.ref (ac 0)) (.ref (atr 0)) Us_22)))))))))) (wr := ((kX7 cs ama (.ref (are 0)) (.ref (are2 0)) (.ref (are3 0)) (.ref (ach 0)) (.ref (ata 0)) (.ref (asa 0)) Ma) ++ ((kX4 cs ase (.ref (af 0)) (.ref (ac 0)) (.ref (atr 0)) Se)))) (st1 := []) [.int x3] hx hb hml hown hu (tX0_tally l D cs ach are aus af ac atr ase x3 Ch Fo Sc Tr Us_17 Ch_19 Sc_20 Tr_21 Us_22 hg23) q602 q59 q599 q600 q601 pdX0_tally ⟨rfl, rfl, Nat.le_of_ble_eq_true rfl, Nat.le_of_ble_eq_true rfl⟩ hK hZ hP hD hS hA [21, 22, 23, 24, 25, 2, 3, 4, 5, 6, 7, 8, 9, 10, 11, 12, 17, 18, 19, 20, 26, 27, 28, 29] [0, 1, 13, 14, 15, 16] [0, 1, 11, 12, 13, 14, 15, 16, 17, 18, 19, 20, 21, 2, 3, 4, 5, 22, 23, 24, 25, 6, 7, 8, 9, 10, 26, 27, 28, 29] rfl rfl rfl rfl rfl rfl rfl rfl rfl rfl hl.1 rfl (Nat.le_of_ble_eq_true rfl) dX7_but_62 rfl (fun H locs hP hD hS => ?_)
        refine lv_aload_n hx hb dX7_but_65 rfl (lv_at hl 0 rfl) ?_
        refine va_get (D := D) (ci := 7) (v := .ref (ach 0)) (C := RX7) (T := TX7) (N := 8) hx hb hu inX7 hown hK.1 hP 0 rfl rfl 3 (by decide) (hu _ q303) (fun _ h9 => h9) rfl dX7_but_66 ?_
        refine lv_iload_n hx hb dX7_but_69 rfl (lv_at hl 2 rfl) ?_
        obtain ⟨r24, hg25, hf⟩ := b1_el hf
        refine cc_V (w' := ((kX7 cs ama (.ref (are 0)) (.ref (are2 0)) (.ref (are3 0)) (.ref (ach 0)) (.ref (ata 0)) (.ref (asa 0)) Ma) ++ ((kX2 cs are (.ref (af 0)) (.ref (ac 0)) (.ref (atr 0)) (.ref (ase 0)) ) ++ ((kX1 cs af  Fo) ++ ((kX3 cs ac  Sc_20) ++ ((kX4 cs ase (.ref (af 0)) (.ref (ac 0)) (.ref (atr 0)) Se) ++ ((kX4 cs atr (.ref (af 0)) (.ref (ac 0)) .null Tr_21) ++ ((kX0 cs ach (.ref (are 0)) (.ref (aus 0)) Ch_19) ++ ((kX4 cs aus (.ref (af 0)) (.ref (ac 0)) (.ref (atr 0)) Us_22)))))))))) (wr := ((kX7 cs ama (.ref (are 0)) (.ref (are2 0)) (.ref (are3 0)) (.ref (ach 0)) (.ref (ata 0)) (.ref (asa 0)) Ma) ++ ((kX3 cs ac  Sc_20) ++ ((kX4 cs ase (.ref (af 0)) (.ref (ac 0)) (.ref (atr 0)) Se) ++ ((kX4 cs atr (.ref (af 0)) (.ref (ac 0)) .null Tr_21) ++ ((kX4 cs aus (.ref (af 0)) (.ref (ac 0)) (.ref (atr 0)) Us_22))))))) (st1 := [.int r24]) [.int x2] hx hb hml hown hu (tX0_worthFor l D cs ach are aus af ac atr ase x2 Ch_19 Fo r24 hg25) q613 q59 q610 q611 q612 pdX0_worthFor ⟨rfl, rfl, Nat.le_of_ble_eq_true rfl, Nat.le_of_ble_eq_true rfl⟩ hK hZ hP hD hS hA [21, 22, 23, 24, 25, 2, 3, 4, 5, 6, 7, 8, 9] [0, 1, 10, 11, 12, 13, 14, 15, 16, 17, 18, 19, 20, 26, 27, 28, 29] [0, 1, 22, 23, 24, 25, 26, 27, 28, 29, 2, 3, 4, 5, 6, 7, 8, 9, 10, 11, 12, 17, 18, 19, 20, 21, 13, 14, 15, 16] rfl rfl rfl rfl rfl rfl rfl rfl rfl rfl hl.1 rfl (Nat.le_of_ble_eq_true rfl) dX7_but_70 rfl (fun H locs hP hD hS => ?_)
        have he := Option.some.inj hf
        obtain ⟨e0, ht0⟩ := Prod.mk.inj he
        obtain ⟨e1, ht1⟩ := Prod.mk.inj ht0
        obtain ⟨e2, ht2⟩ := Prod.mk.inj ht1
        obtain ⟨e3, ht3⟩ := Prod.mk.inj ht2
        obtain ⟨e4, e5⟩ := Prod.mk.inj ht3
        exact hri _ _ _ rfl (congrArg (fun z => some (Value.int z)) e0.symm) dX7_but_73 _ _ _ (by rw [e1, e2, e3, e4, e5]) hP hD hS
      · have hf := ip_el hc14 hf
        exact h31 Ma Sc Tr Ch Us _ _ _ hP hD hS (lv_sub hl [0] rfl) hf
