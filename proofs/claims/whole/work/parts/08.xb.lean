def fX4_ruledByAll_4_s (Se : ST) (Fo : ST) (k4 : Int32 → Int32 → Option Int32) (y1 : Int32) (y2 : Int32) : Option Int32 :=
  (if (Fo 0 0) ≤ y2 then some y1 else dc_ck y2 10 (dc_lt (y1 + (Se 6 (Int32.toNatClampNeg y2))) (fun v3 => dc_lt (y2 + 1) (fun v4 => k4 v3 v4))))
def fX4_ruledByAll_4 (Se : ST) (Fo : ST) : Nat → Int32 → Int32 → Option Int32
  | 0 => fun _ _ => none
  | n + 1 => fX4_ruledByAll_4_s Se Fo (fX4_ruledByAll_4 Se Fo n)
def fX4_ruledByAll (Se : ST) (Fo : ST) : Option Int32 :=
  fX4_ruledByAll_4 Se Fo 400 0 0
abbrev rmX4_ruledByAll : Room := { frames := 0, cells := 0, slots := 0, locals := 0 }
set_option maxRecDepth 100000 in
set_option maxHeartbeats 4000000 in
theorem tX4_ruledByAll (l : Launch) (D : va_G) (cs : Nat → ClassId) (ase : Nat → Nat) (af : Nat → Nat) (ac : Nat → Nat) (tv : Value) (Se : ST) (Fo : ST) (r0 : Int32) (hf : fX4_ruledByAll Se Fo = some r0) : CG l yX4_ruledByAll (wsm yX4_ruledByAll cX4_ruledByAll 3 (some .int)) rmX4_ruledByAll D cs [.ref (ase 0)] (some (.int r0)) ((kX4 cs ase (.ref (af 0)) (.ref (ac 0)) tv Se) ++ ((kX1 cs af  Fo))) ((kX4 cs ase (.ref (af 0)) (.ref (ac 0)) tv Se) ++ ((kX1 cs af  Fo))) := by
  refine CG.intro (by decide) (Nat.le_of_ble_eq_true rfl) ?_
  intro p e s m below meth c A Q hx hb hml hown hu hK hZ hP0 hD0 hS0 hA hri hrz hrl hrv hra ls0 hl0
  have hs4 : ∀ (k4 : Int32 → Int32 → Option Int32), (∀ (y1 : Int32) (y2 : Int32) (H : Heap) (locs : List Loc) (ls : Array Slot), va_P D vwCl ((kX4 cs ase (.ref (af 0)) (.ref (ac 0)) tv Se) ++ ((kX1 cs af  Fo))) H → va_D A ((kX4 cs ase (.ref (af 0)) (.ref (ac 0)) tv Se) ++ ((kX1 cs af  Fo))) → va_S A s.heap H locs → lv_has ls 3 [(0, .ref (ase 0)), (1, .int y1), (2, .int y2)] → k4 y1 y2 = some r0 → W p l e rmX4_ruledByAll s m [.ref (ase 0)].toArray below meth c H locs 0 0 Q (F0 m 4 ls [])) → ∀ (y1 : Int32) (y2 : Int32) (H : Heap) (locs : List Loc) (ls : Array Slot), va_P D vwCl ((kX4 cs ase (.ref (af 0)) (.ref (ac 0)) tv Se) ++ ((kX1 cs af  Fo))) H → va_D A ((kX4 cs ase (.ref (af 0)) (.ref (ac 0)) tv Se) ++ ((kX1 cs af  Fo))) → va_S A s.heap H locs → lv_has ls 3 [(0, .ref (ase 0)), (1, .int y1), (2, .int y2)] → fX4_ruledByAll_4_s Se Fo k4 y1 y2 = some r0 → W p l e rmX4_ruledByAll s m [.ref (ase 0)].toArray below meth c H locs 0 0 Q (F0 m 4 ls []) := by
    intro k4 hk4 y1 y2 H locs ls hP hD hS hl hf
    unfold fX4_ruledByAll_4_s at hf
    refine lv_iload_n hx hb dX4_ruledByAll_4 rfl (lv_at hl 2 rfl) ?_
    refine lv_aload_n hx hb dX4_ruledByAll_5 rfl (lv_at hl 0 rfl) ?_
    refine va_get (D := D) (ci := 4) (v := .ref (af 0)) (C := RX4) (T := TX4) (N := 10) hx hb hu inX4 hown hK.1 hP 0 rfl rfl 0 (by decide) (hu _ q158) (fun _ h9 => h9) rfl dX4_ruledByAll_6 ?_
    refine va_get (D := D) (ci := 1) (v := .int (Fo 0 0)) (C := RX1) (T := TX1) (N := 9) hx hb hu inX1 hown hK.1 hP 4 rfl rfl 0 (by decide) (hu _ q94) (fun _ h9 => h9) rfl dX4_ruledByAll_9 ?_
    refine lv_icmp_ge (tgt := 30) hx hb dX4_ruledByAll_12 (by decide) (fun hc1 => ?_) (fun hc1 => ?_)
    · have hf := ip_el hc1 hf
      refine lv_iload_n hx hb dX4_ruledByAll_30 rfl (lv_at hl 1 rfl) ?_
      have he := Option.some.inj hf
      have e0 := he
      exact hri _ _ _ rfl (congrArg (fun z => some (Value.int z)) e0.symm) dX4_ruledByAll_31 _ _ _ rfl hP hD hS
    · have hf := in_el hc1 hf
      refine lv_iload_n hx hb dX4_ruledByAll_15 rfl (lv_at hl 1 rfl) ?_
      refine lv_aload_n hx hb dX4_ruledByAll_16 rfl (lv_at hl 0 rfl) ?_
      refine va_get (D := D) (ci := 4) (v := .ref (ase 6)) (C := RX4) (T := TX4) (N := 10) hx hb hu inX4 hown hK.1 hP 0 rfl rfl 5 (by decide) (hu _ q165) (fun _ h9 => h9) rfl dX4_ruledByAll_17 ?_
      refine lv_iload_n hx hb dX4_ruledByAll_20 rfl (lv_at hl 2 rfl) ?_
      obtain ⟨hi2, hf⟩ := ck_el hf
      refine va_iald hx hb hK.1 hP 3 0 rfl rfl hi2 dX4_ruledByAll_21 ?_
      refine lv_iadd hx hb dX4_ruledByAll_22 ?_
      obtain ⟨v3, hv3, hf⟩ := lt_el hf
      refine lv_tope hv3 ?_
      refine lv_istore_n (lv' := [(1, .int v3), (0, .ref (ase 0)), (2, .int y2)]) hx hb dX4_ruledByAll_23 rfl hl (by decide) rfl (fun ls hl => ?_)
      obtain ⟨v4, hv4, hf⟩ := lt_el hf
      refine lv_iinc (v := v4) (lv' := [(2, .int v4), (1, .int v3), (0, .ref (ase 0))]) hx hb dX4_ruledByAll_24 hl (k := 2) rfl (by rw [hv4]; rfl) (by decide) rfl (fun ls hl => ?_)
      refine lv_goto (tgt := 4) hx hb dX4_ruledByAll_27 (by decide) ?_
      exact hk4 v3 v4 _ _ _ hP hD hS (lv_sub hl [2, 1, 0] rfl) hf
  have h4 : ∀ (n : Nat), ∀ (y1 : Int32) (y2 : Int32) (H : Heap) (locs : List Loc) (ls : Array Slot), va_P D vwCl ((kX4 cs ase (.ref (af 0)) (.ref (ac 0)) tv Se) ++ ((kX1 cs af  Fo))) H → va_D A ((kX4 cs ase (.ref (af 0)) (.ref (ac 0)) tv Se) ++ ((kX1 cs af  Fo))) → va_S A s.heap H locs → lv_has ls 3 [(0, .ref (ase 0)), (1, .int y1), (2, .int y2)] → fX4_ruledByAll_4 Se Fo n y1 y2 = some r0 → W p l e rmX4_ruledByAll s m [.ref (ase 0)].toArray below meth c H locs 0 0 Q (F0 m 4 ls []) := by
    intro n
    induction n with
    | zero => intro y1 y2 H locs ls hP hD hS hl hf; exact no_el hf
    | succ n ih => intro y1 y2 H locs ls hP hD hS hl hf; exact hs4 _ ih y1 y2 _ _ _ hP hD hS hl hf
  have hl : lv_has ls0 3 [(0, .ref (ase 0))] := hl0
  have hP := hP0
  have hD := hD0
  have hS := hS0
  unfold fX4_ruledByAll at hf
  refine lv_iconst (v := 0) hx hb dX4_ruledByAll_0 (by decide) ?_
  refine lv_istore_n (lv' := [(1, .int 0), (0, .ref (ase 0))]) hx hb dX4_ruledByAll_1 rfl hl (by decide) rfl (fun ls hl => ?_)
  refine lv_iconst (v := 0) hx hb dX4_ruledByAll_2 (by decide) ?_
  refine lv_istore_n (lv' := [(2, .int 0), (1, .int 0), (0, .ref (ase 0))]) hx hb dX4_ruledByAll_3 rfl hl (by decide) rfl (fun ls hl => ?_)
  exact h4 400 0 0 _ _ _ hP hD hS (lv_sub hl [2, 1, 0] rfl) hf

def fX4_allowed_63 (Se : ST) (Fo : ST) (y1 : Int32) (y2 : Int32) : Option Int32 :=
  (if (Se 0 6) = y1 then (if (Se 4 2) = 1 then dc_b1 (fX4_placeOf y1 Se) (fun r10 => (if 0 ≤ r10 then some y2 else dc_lt (y2 ||| ((1 : Int32) <<< (y1 &&& 31))) (fun v13 => some v13))) else some y2) else some y2)
def fX4_allowed_44 (Se : ST) (Fo : ST) (y1 : Int32) (y2 : Int32) : Option Int32 :=
  (if (Se 0 6) = (-1) then fX4_allowed_63 Se Fo y1 y2 else dc_lt (y2 &&& (((1 : Int32) <<< ((Se 0 6) &&& 31)) ^^^ (-1))) (fun v14 => fX4_allowed_63 Se Fo y1 v14))
def fX4_allowed (x1 : Int32) (Se : ST) (Fo : ST) : Option Int32 :=
  dc_b1 (fX1_alive Fo) (fun r1 => dc_b1 (fX4_named Se) (fun r3 => dc_lt ((r1 &&& (r3 ^^^ (-1))) &&& (((1 : Int32) <<< (x1 &&& 31)) ^^^ (-1))) (fun v5 => (if (Se 4 3) = 0 then dc_ck x1 10 (dc_lt (v5 &&& ((Fo 5 (Int32.toNatClampNeg x1)) ^^^ (-1))) (fun v16 => fX4_allowed_44 Se Fo x1 v16)) else fX4_allowed_44 Se Fo x1 v5))))
abbrev rmX4_allowed : Room := { frames := 1, cells := 0, slots := 0, locals := 22 }
set_option maxRecDepth 100000 in
set_option maxHeartbeats 4000000 in
theorem tX4_allowed (l : Launch) (D : va_G) (cs : Nat → ClassId) (ase : Nat → Nat) (af : Nat → Nat) (ac : Nat → Nat) (tv : Value) (x1 : Int32) (Se : ST) (Fo : ST) (r0 : Int32) (hf : fX4_allowed x1 Se Fo = some r0) : CG l yX4_allowed (wsm yX4_allowed cX4_allowed 3 (some .int)) rmX4_allowed D cs [.ref (ase 0), .int x1] (some (.int r0)) ((kX4 cs ase (.ref (af 0)) (.ref (ac 0)) tv Se) ++ ((kX1 cs af  Fo))) ((kX4 cs ase (.ref (af 0)) (.ref (ac 0)) tv Se) ++ ((kX1 cs af  Fo))) := by
  refine CG.intro (by decide) (Nat.le_of_ble_eq_true rfl) ?_
  intro p e s m below meth c A Q hx hb hml hown hu hK hZ hP0 hD0 hS0 hA hri hrz hrl hrv hra ls0 hl0
  have h63 : ∀ (y1 : Int32) (y2 : Int32) (H : Heap) (locs : List Loc) (ls : Array Slot), va_P D vwCl ((kX4 cs ase (.ref (af 0)) (.ref (ac 0)) tv Se) ++ ((kX1 cs af  Fo))) H → va_D A ((kX4 cs ase (.ref (af 0)) (.ref (ac 0)) tv Se) ++ ((kX1 cs af  Fo))) → va_S A s.heap H locs → lv_has ls 3 [(0, .ref (ase 0)), (1, .int y1), (2, .int y2)] → fX4_allowed_63 Se Fo y1 y2 = some r0 → W p l e rmX4_allowed s m [.ref (ase 0), .int x1].toArray below meth c H locs 0 0 Q (F0 m 63 ls []) := by
    intro y1 y2 H locs ls hP hD hS hl hf
    unfold fX4_allowed_63 at hf
    refine lv_aload_n hx hb dX4_allowed_63 rfl (lv_at hl 0 rfl) ?_
    refine va_get (D := D) (ci := 4) (v := .int (Se 0 6)) (C := RX4) (T := TX4) (N := 10) hx hb hu inX4 hown hK.1 hP 0 rfl rfl 6 (by decide) (hu _ q167) (fun _ h9 => h9) rfl dX4_allowed_64 ?_
    refine lv_iload_n hx hb dX4_allowed_67 rfl (lv_at hl 1 rfl) ?_
    refine lv_icmp_ne (tgt := 95) hx hb dX4_allowed_68 (by decide) (fun hc8 => ?_) (fun hc8 => ?_)
    · have hf := in_el hc8 hf
      refine lv_iload_n hx hb dX4_allowed_95 rfl (lv_at hl 2 rfl) ?_
      have he := Option.some.inj hf
      have e0 := he
      exact hri _ _ _ rfl (congrArg (fun z => some (Value.int z)) e0.symm) dX4_allowed_96 _ _ _ rfl hP hD hS
    · have hf := ip_el hc8 hf
      refine lv_aload_n hx hb dX4_allowed_71 rfl (lv_at hl 0 rfl) ?_
      refine va_get (D := D) (ci := 4) (v := .ref (ase 4)) (C := RX4) (T := TX4) (N := 10) hx hb hu inX4 hown hK.1 hP 0 rfl rfl 3 (by decide) (hu _ q161) (fun _ h9 => h9) rfl dX4_allowed_72 ?_
      refine lv_iconst (v := 2) hx hb dX4_allowed_75 (by decide) ?_
      refine ia_lit hx hb hK hP 1 2 rfl (by decide) dX4_allowed_76 ?_
      refine lv_iconst (v := 1) hx hb dX4_allowed_77 (by decide) ?_
      refine lv_icmp_ne (tgt := 95) hx hb dX4_allowed_78 (by decide) (fun hc9 => ?_) (fun hc9 => ?_)
      · have hf := in_el hc9 hf
        refine lv_iload_n hx hb dX4_allowed_95 rfl (lv_at hl 2 rfl) ?_
        have he := Option.some.inj hf
        have e0 := he
        exact hri _ _ _ rfl (congrArg (fun z => some (Value.int z)) e0.symm) dX4_allowed_96 _ _ _ rfl hP hD hS
      · have hf := ip_el hc9 hf
        refine lv_aload_n hx hb dX4_allowed_81 rfl (lv_at hl 0 rfl) ?_
        refine lv_iload_n hx hb dX4_allowed_82 rfl (lv_at hl 1 rfl) ?_
        obtain ⟨r10, hg11, hf⟩ := b1_el hf
        refine cc_V (w' := ((kX4 cs ase (.ref (af 0)) (.ref (ac 0)) tv Se) ++ ((kX1 cs af  Fo)))) (wr := (kX1 cs af  Fo)) (st1 := [.int r10]) [.int y1] hx hb hml hown hu (tX4_placeOf l D cs ase (.ref (af 0)) (.ref (ac 0)) tv y1 Se r10 hg11) q367 q58 q381 q365 q366 pdX4_placeOf ⟨rfl, rfl, Nat.le_of_ble_eq_true rfl, Nat.le_of_ble_eq_true rfl⟩ hK hZ hP hD hS hA [0, 1, 2, 3] [4, 5, 6, 7, 8, 9, 10] [7, 8, 9, 10, 0, 1, 2, 3, 4, 5, 6] rfl rfl rfl rfl rfl rfl rfl rfl rfl rfl hl.1 rfl (Nat.le_of_ble_eq_true rfl) dX4_allowed_83 rfl (fun H locs hP hD hS => ?_)
        refine lv_if_ge (tgt := 95) hx hb dX4_allowed_86 (by decide) (fun hc12 => ?_) (fun hc12 => ?_)
        · have hf := ip_el hc12 hf
          refine lv_iload_n hx hb dX4_allowed_95 rfl (lv_at hl 2 rfl) ?_
          have he := Option.some.inj hf
          have e0 := he
          exact hri _ _ _ rfl (congrArg (fun z => some (Value.int z)) e0.symm) dX4_allowed_96 _ _ _ rfl hP hD hS
        · have hf := in_el hc12 hf
          refine lv_iload_n hx hb dX4_allowed_89 rfl (lv_at hl 2 rfl) ?_
          refine lv_iconst (v := 1) hx hb dX4_allowed_90 (by decide) ?_
          refine lv_iload_n hx hb dX4_allowed_91 rfl (lv_at hl 1 rfl) ?_
          refine lv_ishl hx hb dX4_allowed_92 ?_
          refine lv_ior hx hb dX4_allowed_93 ?_
          obtain ⟨v13, hv13, hf⟩ := lt_el hf
          refine lv_tope hv13 ?_
          refine lv_istore_n (lv' := [(2, .int v13), (0, .ref (ase 0)), (1, .int y1)]) hx hb dX4_allowed_94 rfl hl (by decide) rfl (fun ls hl => ?_)
          refine lv_iload_n hx hb dX4_allowed_95 rfl (lv_at hl 0 rfl) ?_
          have he := Option.some.inj hf
          have e0 := he
          exact hri _ _ _ rfl (congrArg (fun z => some (Value.int z)) e0.symm) dX4_allowed_96 _ _ _ rfl hP hD hS
  have h44 : ∀ (y1 : Int32) (y2 : Int32) (H : Heap) (locs : List Loc) (ls : Array Slot), va_P D vwCl ((kX4 cs ase (.ref (af 0)) (.ref (ac 0)) tv Se) ++ ((kX1 cs af  Fo))) H → va_D A ((kX4 cs ase (.ref (af 0)) (.ref (ac 0)) tv Se) ++ ((kX1 cs af  Fo))) → va_S A s.heap H locs → lv_has ls 3 [(0, .ref (ase 0)), (1, .int y1), (2, .int y2)] → fX4_allowed_44 Se Fo y1 y2 = some r0 → W p l e rmX4_allowed s m [.ref (ase 0), .int x1].toArray below meth c H locs 0 0 Q (F0 m 44 ls []) := by
    intro y1 y2 H locs ls hP hD hS hl hf
    unfold fX4_allowed_44 at hf
    refine lv_aload_n hx hb dX4_allowed_44 rfl (lv_at hl 0 rfl) ?_
    refine va_get (D := D) (ci := 4) (v := .int (Se 0 6)) (C := RX4) (T := TX4) (N := 10) hx hb hu inX4 hown hK.1 hP 0 rfl rfl 6 (by decide) (hu _ q167) (fun _ h9 => h9) rfl dX4_allowed_45 ?_
    refine lv_iconst (v := (-1)) hx hb dX4_allowed_48 (by decide) ?_
    refine lv_icmp_eq (tgt := 63) hx hb dX4_allowed_49 (by decide) (fun hc7 => ?_) (fun hc7 => ?_)
    · have hf := ip_el hc7 hf
      exact h63 y1 y2 _ _ _ hP hD hS (lv_sub hl [0, 1, 2] rfl) hf
    · have hf := in_el hc7 hf
      refine lv_iload_n hx hb dX4_allowed_52 rfl (lv_at hl 2 rfl) ?_
      refine lv_iconst (v := 1) hx hb dX4_allowed_53 (by decide) ?_
      refine lv_aload_n hx hb dX4_allowed_54 rfl (lv_at hl 0 rfl) ?_
      refine va_get (D := D) (ci := 4) (v := .int (Se 0 6)) (C := RX4) (T := TX4) (N := 10) hx hb hu inX4 hown hK.1 hP 0 rfl rfl 6 (by decide) (hu _ q167) (fun _ h9 => h9) rfl dX4_allowed_55 ?_
      refine lv_ishl hx hb dX4_allowed_58 ?_
      refine lv_iconst (v := (-1)) hx hb dX4_allowed_59 (by decide) ?_
      refine lv_ixor hx hb dX4_allowed_60 ?_
      refine lv_iand hx hb dX4_allowed_61 ?_
      obtain ⟨v14, hv14, hf⟩ := lt_el hf
      refine lv_tope hv14 ?_
      refine lv_istore_n (lv' := [(2, .int v14), (0, .ref (ase 0)), (1, .int y1)]) hx hb dX4_allowed_62 rfl hl (by decide) rfl (fun ls hl => ?_)
      exact h63 y1 v14 _ _ _ hP hD hS (lv_sub hl [1, 2, 0] rfl) hf
  have hl : lv_has ls0 3 [(0, .ref (ase 0)), (1, .int x1)] := hl0
  have hP := hP0
  have hD := hD0
  have hS := hS0
  unfold fX4_allowed at hf
  refine lv_aload_n hx hb dX4_allowed_0 rfl (lv_at hl 0 rfl) ?_
  refine va_get (D := D) (ci := 4) (v := .ref (af 0)) (C := RX4) (T := TX4) (N := 10) hx hb hu inX4 hown hK.1 hP 0 rfl rfl 0 (by decide) (hu _ q158) (fun _ h9 => h9) rfl dX4_allowed_1 ?_
  obtain ⟨r1, hg2, hf⟩ := b1_el hf
  refine cc_V (w' := ((kX4 cs ase (.ref (af 0)) (.ref (ac 0)) tv Se) ++ ((kX1 cs af  Fo)))) (wr := (kX4 cs ase (.ref (af 0)) (.ref (ac 0)) tv Se)) (st1 := [.int r1]) [] hx hb hml hown hu (tX1_alive l D cs af Fo r1 hg2) q360 q56 q376 q358 q359 pdX1_alive ⟨rfl, rfl, Nat.le_of_ble_eq_true rfl, Nat.le_of_ble_eq_true rfl⟩ hK hZ hP hD hS hA [4, 5, 6, 7, 8, 9, 10] [0, 1, 2, 3] [0, 1, 2, 3, 4, 5, 6, 7, 8, 9, 10] rfl rfl rfl rfl rfl rfl rfl rfl rfl rfl hl.1 rfl (Nat.le_of_ble_eq_true rfl) dX4_allowed_4 rfl (fun H locs hP hD hS => ?_)
  refine lv_aload_n hx hb dX4_allowed_7 rfl (lv_at hl 0 rfl) ?_
  obtain ⟨r3, hg4, hf⟩ := b1_el hf
  refine cc_V (w' := ((kX4 cs ase (.ref (af 0)) (.ref (ac 0)) tv Se) ++ ((kX1 cs af  Fo)))) (wr := (kX1 cs af  Fo)) (st1 := [.int r3, .int r1]) [] hx hb hml hown hu (tX4_named l D cs ase (.ref (af 0)) (.ref (ac 0)) tv Se r3 hg4) q380 q58 q377 q378 q379 pdX4_named ⟨rfl, rfl, Nat.le_of_ble_eq_true rfl, Nat.le_of_ble_eq_true rfl⟩ hK hZ hP hD hS hA [0, 1, 2, 3] [4, 5, 6, 7, 8, 9, 10] [7, 8, 9, 10, 0, 1, 2, 3, 4, 5, 6] rfl rfl rfl rfl rfl rfl rfl rfl rfl rfl hl.1 rfl (Nat.le_of_ble_eq_true rfl) dX4_allowed_8 rfl (fun H locs hP hD hS => ?_)
  refine lv_iconst (v := (-1)) hx hb dX4_allowed_11 (by decide) ?_
  refine lv_ixor hx hb dX4_allowed_12 ?_
  refine lv_iand hx hb dX4_allowed_13 ?_
  refine lv_iconst (v := 1) hx hb dX4_allowed_14 (by decide) ?_
  refine lv_iload_n hx hb dX4_allowed_15 rfl (lv_at hl 1 rfl) ?_
  refine lv_ishl hx hb dX4_allowed_16 ?_
  refine lv_iconst (v := (-1)) hx hb dX4_allowed_17 (by decide) ?_
  refine lv_ixor hx hb dX4_allowed_18 ?_
  refine lv_iand hx hb dX4_allowed_19 ?_
  obtain ⟨v5, hv5, hf⟩ := lt_el hf
  refine lv_tope hv5 ?_
  refine lv_istore_n (lv' := [(2, .int v5), (0, .ref (ase 0)), (1, .int x1)]) hx hb dX4_allowed_20 rfl hl (by decide) rfl (fun ls hl => ?_)
  refine lv_aload_n hx hb dX4_allowed_21 rfl (lv_at hl 1 rfl) ?_
  refine va_get (D := D) (ci := 4) (v := .ref (ase 4)) (C := RX4) (T := TX4) (N := 10) hx hb hu inX4 hown hK.1 hP 0 rfl rfl 3 (by decide) (hu _ q161) (fun _ h9 => h9) rfl dX4_allowed_22 ?_
  refine lv_iconst (v := 3) hx hb dX4_allowed_25 (by decide) ?_
  refine ia_lit hx hb hK hP 1 3 rfl (by decide) dX4_allowed_26 ?_
  refine lv_if_ne (tgt := 44) hx hb dX4_allowed_27 (by decide) (fun hc6 => ?_) (fun hc6 => ?_)
  · have hf := in_el hc6 hf
    exact h44 x1 v5 _ _ _ hP hD hS (lv_sub hl [1, 2, 0] rfl) hf
  · have hf := ip_el hc6 hf
    refine lv_iload_n hx hb dX4_allowed_30 rfl (lv_at hl 0 rfl) ?_
    refine lv_aload_n hx hb dX4_allowed_31 rfl (lv_at hl 1 rfl) ?_
    refine va_get (D := D) (ci := 4) (v := .ref (af 0)) (C := RX4) (T := TX4) (N := 10) hx hb hu inX4 hown hK.1 hP 0 rfl rfl 0 (by decide) (hu _ q158) (fun _ h9 => h9) rfl dX4_allowed_32 ?_
    refine va_get (D := D) (ci := 1) (v := .ref (af 5)) (C := RX1) (T := TX1) (N := 9) hx hb hu inX1 hown hK.1 hP 4 rfl rfl 4 (by decide) (hu _ q104) (fun _ h9 => h9) rfl dX4_allowed_35 ?_
    refine lv_iload_n hx hb dX4_allowed_38 rfl (lv_at hl 2 rfl) ?_
    obtain ⟨hi15, hf⟩ := ck_el hf
    refine va_iald hx hb hK.1 hP 8 0 rfl rfl hi15 dX4_allowed_39 ?_
    refine lv_iconst (v := (-1)) hx hb dX4_allowed_40 (by decide) ?_
    refine lv_ixor hx hb dX4_allowed_41 ?_
    refine lv_iand hx hb dX4_allowed_42 ?_
    obtain ⟨v16, hv16, hf⟩ := lt_el hf
    refine lv_tope hv16 ?_
    refine lv_istore_n (lv' := [(2, .int v16), (0, .ref (ase 0)), (1, .int x1)]) hx hb dX4_allowed_43 rfl hl (by decide) rfl (fun ls hl => ?_)
    exact h44 x1 v16 _ _ _ hP hD hS (lv_sub hl [1, 2, 0] rfl) hf

def fX4_wayOf_58 (Se : ST) (Fo : ST) (Sc : ST) (y3 : Int32) (s0 : Int32) : Option Int32 :=
  (if s0 = 0 then some y3 else some 0)
def fX4_wayOf_43 (Se : ST) (Fo : ST) (Sc : ST) (y2 : Int32) (y3 : Int32) : Option Int32 :=
  (if y3 = 6 then (if 0 < y2 then fX4_wayOf_58 Se Fo Sc y3 0 else fX4_wayOf_58 Se Fo Sc y3 1) else fX4_wayOf_58 Se Fo Sc y3 0)
def fX4_wayOf_28 (Se : ST) (Fo : ST) (Sc : ST) (y2 : Int32) (y3 : Int32) : Option Int32 :=
  (if y3 = 5 then dc_b1 (fX3_isThere Sc) (fun r11 => (if r11 = 0 then fX4_wayOf_58 Se Fo Sc y3 1 else fX4_wayOf_43 Se Fo Sc y2 y3)) else fX4_wayOf_43 Se Fo Sc y2 y3)
def fX4_wayOf_20 (Se : ST) (Fo : ST) (Sc : ST) (y2 : Int32) (y3 : Int32) : Option Int32 :=
  dc_b1 (fX4_firstNamed Se) (fun r4 => (if r4 = (-1) then fX4_wayOf_58 Se Fo Sc y3 1 else fX4_wayOf_28 Se Fo Sc y2 y3))
def fX4_wayOf (x1 : Int32) (x2 : Int32) (Se : ST) (Fo : ST) (Sc : ST) : Option Int32 :=
  dc_ck x1 10 (dc_lt (Fo 2 (Int32.toNatClampNeg x1)) (fun v2 => (if v2 = 1 then fX4_wayOf_20 Se Fo Sc x2 v2 else (if v2 = 2 then fX4_wayOf_20 Se Fo Sc x2 v2 else fX4_wayOf_28 Se Fo Sc x2 v2))))
abbrev rmX4_wayOf : Room := { frames := 1, cells := 0, slots := 0, locals := 21 }
set_option maxRecDepth 100000 in
set_option maxHeartbeats 4000000 in
theorem tX4_wayOf (l : Launch) (D : va_G) (cs : Nat → ClassId) (ase : Nat → Nat) (af : Nat → Nat) (ac : Nat → Nat) (tv : Value) (x1 : Int32) (x2 : Int32) (Se : ST) (Fo : ST) (Sc : ST) (r0 : Int32) (hf : fX4_wayOf x1 x2 Se Fo Sc = some r0) : CG l yX4_wayOf (wsm yX4_wayOf cX4_wayOf 5 (some .int)) rmX4_wayOf D cs [.ref (ase 0), .int x1, .int x2] (some (.int r0)) ((kX4 cs ase (.ref (af 0)) (.ref (ac 0)) tv Se) ++ ((kX1 cs af  Fo) ++ ((kX3 cs ac  Sc)))) ((kX4 cs ase (.ref (af 0)) (.ref (ac 0)) tv Se) ++ ((kX1 cs af  Fo) ++ ((kX3 cs ac  Sc)))) := by
  refine CG.intro (by decide) (Nat.le_of_ble_eq_true rfl) ?_
  intro p e s m below meth c A Q hx hb hml hown hu hK hZ hP0 hD0 hS0 hA hri hrz hrl hrv hra ls0 hl0
  have h58 : ∀ (y3 : Int32) (s0 : Int32) (H : Heap) (locs : List Loc) (ls : Array Slot), va_P D vwCl ((kX4 cs ase (.ref (af 0)) (.ref (ac 0)) tv Se) ++ ((kX1 cs af  Fo) ++ ((kX3 cs ac  Sc)))) H → va_D A ((kX4 cs ase (.ref (af 0)) (.ref (ac 0)) tv Se) ++ ((kX1 cs af  Fo) ++ ((kX3 cs ac  Sc)))) → va_S A s.heap H locs → lv_has ls 5 [(3, .int y3)] → fX4_wayOf_58 Se Fo Sc y3 s0 = some r0 → W p l e rmX4_wayOf s m [.ref (ase 0), .int x1, .int x2].toArray below meth c H locs 0 0 Q (F0 m 58 ls [.int s0]) := by
    intro y3 s0 H locs ls hP hD hS hl hf
    unfold fX4_wayOf_58 at hf
    refine lv_istore (lv' := [(4, .int s0), (3, .int y3)]) hx hb dX4_wayOf_58 hl (by decide) rfl (fun ls hl => ?_)
    refine lv_iload hx hb dX4_wayOf_60 (lv_at hl 0 rfl) ?_
    refine lv_if_eq (tgt := 69) hx hb dX4_wayOf_62 (by decide) (fun hc7 => ?_) (fun hc7 => ?_)
    · have hf := ip_el hc7 hf
      refine lv_iload_n hx hb dX4_wayOf_69 rfl (lv_at hl 1 rfl) ?_
      have he := Option.some.inj hf
      have e0 := he
      exact hri _ _ _ rfl (congrArg (fun z => some (Value.int z)) e0.symm) dX4_wayOf_70 _ _ _ rfl hP hD hS
    · have hf := in_el hc7 hf
      refine lv_iconst (v := 0) hx hb dX4_wayOf_65 (by decide) ?_
      refine lv_goto (tgt := 70) hx hb dX4_wayOf_66 (by decide) ?_
      have he := Option.some.inj hf
      have e0 := he
      exact hri _ _ _ rfl (congrArg (fun z => some (Value.int z)) e0.symm) dX4_wayOf_70 _ _ _ rfl hP hD hS
  have h43 : ∀ (y2 : Int32) (y3 : Int32) (H : Heap) (locs : List Loc) (ls : Array Slot), va_P D vwCl ((kX4 cs ase (.ref (af 0)) (.ref (ac 0)) tv Se) ++ ((kX1 cs af  Fo) ++ ((kX3 cs ac  Sc)))) H → va_D A ((kX4 cs ase (.ref (af 0)) (.ref (ac 0)) tv Se) ++ ((kX1 cs af  Fo) ++ ((kX3 cs ac  Sc)))) → va_S A s.heap H locs → lv_has ls 5 [(2, .int y2), (3, .int y3)] → fX4_wayOf_43 Se Fo Sc y2 y3 = some r0 → W p l e rmX4_wayOf s m [.ref (ase 0), .int x1, .int x2].toArray below meth c H locs 0 0 Q (F0 m 43 ls []) := by
    intro y2 y3 H locs ls hP hD hS hl hf
    unfold fX4_wayOf_43 at hf
    refine lv_iload_n hx hb dX4_wayOf_43 rfl (lv_at hl 1 rfl) ?_
    refine lv_bipush (v := 6) hx hb dX4_wayOf_44 (by decide) ?_
    refine lv_icmp_ne (tgt := 57) hx hb dX4_wayOf_46 (by decide) (fun hc9 => ?_) (fun hc9 => ?_)
    · have hf := in_el hc9 hf
      refine lv_iconst (v := 0) hx hb dX4_wayOf_57 (by decide) ?_
      exact h58 y3 0 _ _ _ hP hD hS (lv_sub hl [1] rfl) hf
    · have hf := ip_el hc9 hf
      refine lv_iload_n hx hb dX4_wayOf_49 rfl (lv_at hl 0 rfl) ?_
      refine lv_if_gt (tgt := 57) hx hb dX4_wayOf_50 (by decide) (fun hc10 => ?_) (fun hc10 => ?_)
      · have hf := ip_el hc10 hf
        refine lv_iconst (v := 0) hx hb dX4_wayOf_57 (by decide) ?_
        exact h58 y3 0 _ _ _ hP hD hS (lv_sub hl [1] rfl) hf
      · have hf := in_el hc10 hf
        refine lv_iconst (v := 1) hx hb dX4_wayOf_53 (by decide) ?_
        refine lv_goto (tgt := 58) hx hb dX4_wayOf_54 (by decide) ?_
        exact h58 y3 1 _ _ _ hP hD hS (lv_sub hl [1] rfl) hf
  have h28 : ∀ (y2 : Int32) (y3 : Int32) (H : Heap) (locs : List Loc) (ls : Array Slot), va_P D vwCl ((kX4 cs ase (.ref (af 0)) (.ref (ac 0)) tv Se) ++ ((kX1 cs af  Fo) ++ ((kX3 cs ac  Sc)))) H → va_D A ((kX4 cs ase (.ref (af 0)) (.ref (ac 0)) tv Se) ++ ((kX1 cs af  Fo) ++ ((kX3 cs ac  Sc)))) → va_S A s.heap H locs → lv_has ls 5 [(0, .ref (ase 0)), (2, .int y2), (3, .int y3)] → fX4_wayOf_28 Se Fo Sc y2 y3 = some r0 → W p l e rmX4_wayOf s m [.ref (ase 0), .int x1, .int x2].toArray below meth c H locs 0 0 Q (F0 m 28 ls []) := by
    intro y2 y3 H locs ls hP hD hS hl hf
    unfold fX4_wayOf_28 at hf
    refine lv_iload_n hx hb dX4_wayOf_28 rfl (lv_at hl 2 rfl) ?_
    refine lv_iconst (v := 5) hx hb dX4_wayOf_29 (by decide) ?_
    refine lv_icmp_ne (tgt := 43) hx hb dX4_wayOf_30 (by decide) (fun hc8 => ?_) (fun hc8 => ?_)
    · have hf := in_el hc8 hf
      exact h43 y2 y3 _ _ _ hP hD hS (lv_sub hl [1, 2] rfl) hf
    · have hf := ip_el hc8 hf
      refine lv_aload_n hx hb dX4_wayOf_33 rfl (lv_at hl 0 rfl) ?_
      refine va_get (D := D) (ci := 4) (v := .ref (ac 0)) (C := RX4) (T := TX4) (N := 10) hx hb hu inX4 hown hK.1 hP 0 rfl rfl 1 (by decide) (hu _ q159) (fun _ h9 => h9) rfl dX4_wayOf_34 ?_
      obtain ⟨r11, hg12, hf⟩ := b1_el hf
      refine cc_V (w' := ((kX4 cs ase (.ref (af 0)) (.ref (ac 0)) tv Se) ++ ((kX1 cs af  Fo) ++ ((kX3 cs ac  Sc))))) (wr := ((kX4 cs ase (.ref (af 0)) (.ref (ac 0)) tv Se) ++ ((kX1 cs af  Fo)))) (st1 := [.int r11]) [] hx hb hml hown hu (tX3_isThere l D cs ac Sc r11 hg12) q394 q57 q391 q392 q393 pdX3_isThere ⟨rfl, rfl, Nat.le_of_ble_eq_true rfl, Nat.le_of_ble_eq_true rfl⟩ hK hZ hP hD hS hA [11, 12, 13] [0, 1, 2, 3, 4, 5, 6, 7, 8, 9, 10] [0, 1, 2, 3, 4, 5, 6, 7, 8, 9, 10, 11, 12, 13] rfl rfl rfl rfl rfl rfl rfl rfl rfl rfl hl.1 rfl (Nat.le_of_ble_eq_true rfl) dX4_wayOf_37 rfl (fun H locs hP hD hS => ?_)
      refine lv_if_eq (tgt := 53) hx hb dX4_wayOf_40 (by decide) (fun hc13 => ?_) (fun hc13 => ?_)
      · have hf := ip_el hc13 hf
        refine lv_iconst (v := 1) hx hb dX4_wayOf_53 (by decide) ?_
        refine lv_goto (tgt := 58) hx hb dX4_wayOf_54 (by decide) ?_
        exact h58 y3 1 _ _ _ hP hD hS (lv_sub hl [2] rfl) hf
      · have hf := in_el hc13 hf
        exact h43 y2 y3 _ _ _ hP hD hS (lv_sub hl [1, 2] rfl) hf
  have h20 : ∀ (y2 : Int32) (y3 : Int32) (H : Heap) (locs : List Loc) (ls : Array Slot), va_P D vwCl ((kX4 cs ase (.ref (af 0)) (.ref (ac 0)) tv Se) ++ ((kX1 cs af  Fo) ++ ((kX3 cs ac  Sc)))) H → va_D A ((kX4 cs ase (.ref (af 0)) (.ref (ac 0)) tv Se) ++ ((kX1 cs af  Fo) ++ ((kX3 cs ac  Sc)))) → va_S A s.heap H locs → lv_has ls 5 [(0, .ref (ase 0)), (2, .int y2), (3, .int y3)] → fX4_wayOf_20 Se Fo Sc y2 y3 = some r0 → W p l e rmX4_wayOf s m [.ref (ase 0), .int x1, .int x2].toArray below meth c H locs 0 0 Q (F0 m 20 ls []) := by
    intro y2 y3 H locs ls hP hD hS hl hf
    unfold fX4_wayOf_20 at hf
    refine lv_aload_n hx hb dX4_wayOf_20 rfl (lv_at hl 0 rfl) ?_
    obtain ⟨r4, hg5, hf⟩ := b1_el hf
    refine cc_V (w' := ((kX4 cs ase (.ref (af 0)) (.ref (ac 0)) tv Se) ++ ((kX1 cs af  Fo) ++ ((kX3 cs ac  Sc))))) (wr := ((kX1 cs af  Fo) ++ ((kX3 cs ac  Sc)))) (st1 := [.int r4]) [] hx hb hml hown hu (tX4_firstNamed l D cs ase (.ref (af 0)) (.ref (ac 0)) tv Se r4 hg5) q390 q58 q387 q388 q389 pdX4_firstNamed ⟨rfl, rfl, Nat.le_of_ble_eq_true rfl, Nat.le_of_ble_eq_true rfl⟩ hK hZ hP hD hS hA [0, 1, 2, 3] [4, 5, 6, 7, 8, 9, 10, 11, 12, 13] [10, 11, 12, 13, 0, 1, 2, 3, 4, 5, 6, 7, 8, 9] rfl rfl rfl rfl rfl rfl rfl rfl rfl rfl hl.1 rfl (Nat.le_of_ble_eq_true rfl) dX4_wayOf_21 rfl (fun H locs hP hD hS => ?_)
    refine lv_iconst (v := (-1)) hx hb dX4_wayOf_24 (by decide) ?_
    refine lv_icmp_eq (tgt := 53) hx hb dX4_wayOf_25 (by decide) (fun hc6 => ?_) (fun hc6 => ?_)
    · have hf := ip_el hc6 hf
      refine lv_iconst (v := 1) hx hb dX4_wayOf_53 (by decide) ?_
      refine lv_goto (tgt := 58) hx hb dX4_wayOf_54 (by decide) ?_
      exact h58 y3 1 _ _ _ hP hD hS (lv_sub hl [2] rfl) hf
    · have hf := in_el hc6 hf
      exact h28 y2 y3 _ _ _ hP hD hS (lv_sub hl [0, 1, 2] rfl) hf
  have hl : lv_has ls0 5 [(0, .ref (ase 0)), (1, .int x1), (2, .int x2)] := hl0
  have hP := hP0
  have hD := hD0
  have hS := hS0
  unfold fX4_wayOf at hf
  refine lv_aload_n hx hb dX4_wayOf_0 rfl (lv_at hl 0 rfl) ?_
  refine va_get (D := D) (ci := 4) (v := .ref (af 0)) (C := RX4) (T := TX4) (N := 10) hx hb hu inX4 hown hK.1 hP 0 rfl rfl 0 (by decide) (hu _ q158) (fun _ h9 => h9) rfl dX4_wayOf_1 ?_
  refine va_get (D := D) (ci := 1) (v := .ref (af 2)) (C := RX1) (T := TX1) (N := 9) hx hb hu inX1 hown hK.1 hP 4 rfl rfl 1 (by decide) (hu _ q97) (fun _ h9 => h9) rfl dX4_wayOf_4 ?_
  refine lv_iload_n hx hb dX4_wayOf_7 rfl (lv_at hl 1 rfl) ?_
  obtain ⟨hi1, hf⟩ := ck_el hf
  refine va_iald hx hb hK.1 hP 5 0 rfl rfl hi1 dX4_wayOf_8 ?_
  obtain ⟨v2, hv2, hf⟩ := lt_el hf
  refine lv_tope hv2 ?_
  refine lv_istore_n (lv' := [(3, .int v2), (0, .ref (ase 0)), (1, .int x1), (2, .int x2)]) hx hb dX4_wayOf_9 rfl hl (by decide) rfl (fun ls hl => ?_)
  refine lv_iload_n hx hb dX4_wayOf_10 rfl (lv_at hl 0 rfl) ?_
  refine lv_iconst (v := 1) hx hb dX4_wayOf_11 (by decide) ?_
  refine lv_icmp_eq (tgt := 20) hx hb dX4_wayOf_12 (by decide) (fun hc3 => ?_) (fun hc3 => ?_)
  · have hf := ip_el hc3 hf
    exact h20 x2 v2 _ _ _ hP hD hS (lv_sub hl [1, 3, 0] rfl) hf
  · have hf := in_el hc3 hf
    refine lv_iload_n hx hb dX4_wayOf_15 rfl (lv_at hl 0 rfl) ?_
    refine lv_iconst (v := 2) hx hb dX4_wayOf_16 (by decide) ?_
    refine lv_icmp_ne (tgt := 28) hx hb dX4_wayOf_17 (by decide) (fun hc14 => ?_) (fun hc14 => ?_)
    · have hf := in_el hc14 hf
      exact h28 x2 v2 _ _ _ hP hD hS (lv_sub hl [1, 3, 0] rfl) hf
    · have hf := ip_el hc14 hf
      exact h20 x2 v2 _ _ _ hP hD hS (lv_sub hl [1, 3, 0] rfl) hf

def fX4_valueOf (x1 : Int32) (x2 : Int32) (x3 : Int32) (Se : ST) (Fo : ST) : Option Int32 :=
  (if x1 = 97 then dc_ck x3 10 (some (Fo 3 (Int32.toNatClampNeg x3))) else if x1 = 108 then dc_ck ((x2 * 10) + x3) 100 (some (Fo 7 (Int32.toNatClampNeg ((x2 * 10) + x3)))) else if x1 = 114 then dc_ck x3 10 (some (Se 6 (Int32.toNatClampNeg x3))) else if x1 = 115 then dc_ck x2 10 (dc_ck x3 10 ((if (Fo 4 (Int32.toNatClampNeg x2)) = (Fo 4 (Int32.toNatClampNeg x3)) then some 1 else some 0))) else if x1 = 119 then dc_ck x2 10 (dc_b1 (fX1_worthOf x3 (Fo 4 (Int32.toNatClampNeg x2)) Fo) (fun r13 => some r13)) else dc_b1 (fX4_firstNamed Se) (fun r15 => (if r15 = (-1) then some 0 else dc_ck ((r15 * 10) + x3) 100 (some (Fo 7 (Int32.toNatClampNeg ((r15 * 10) + x3)))))))
abbrev rmX4_valueOf : Room := { frames := 1, cells := 0, slots := 0, locals := 22 }
set_option maxRecDepth 100000 in
set_option maxHeartbeats 4000000 in
theorem tX4_valueOf (l : Launch) (D : va_G) (cs : Nat → ClassId) (ase : Nat → Nat) (af : Nat → Nat) (ac : Nat → Nat) (tv : Value) (x1 : Int32) (x2 : Int32) (x3 : Int32) (Se : ST) (Fo : ST) (r0 : Int32) (hf : fX4_valueOf x1 x2 x3 Se Fo = some r0) : CG l yX4_valueOf (wsm yX4_valueOf cX4_valueOf 5 (some .int)) rmX4_valueOf D cs [.ref (ase 0), .int x1, .int x2, .int x3] (some (.int r0)) ((kX4 cs ase (.ref (af 0)) (.ref (ac 0)) tv Se) ++ ((kX1 cs af  Fo))) ((kX4 cs ase (.ref (af 0)) (.ref (ac 0)) tv Se) ++ ((kX1 cs af  Fo))) := by
  refine CG.intro (by decide) (Nat.le_of_ble_eq_true rfl) ?_
  intro p e s m below meth c A Q hx hb hml hown hu hK hZ hP0 hD0 hS0 hA hri hrz hrl hrv hra ls0 hl0
  have hl : lv_has ls0 5 [(0, .ref (ase 0)), (1, .int x1), (2, .int x2), (3, .int x3)] := hl0
  have hP := hP0
  have hD := hD0
  have hS := hS0
  unfold fX4_valueOf at hf
  refine lv_iload_n hx hb dX4_valueOf_0 rfl (lv_at hl 1 rfl) ?_
  by_cases hc1 : x1 = 97
  · have hf := ip_el hc1 hf
    refine lv_lookup (off := 66) (tgt := 67) hx hb dX4_valueOf_1 (by decide) (by rw [hc1]; decide) (by decide) ?_
    refine lv_aload_n hx hb dX4_valueOf_67 rfl (lv_at hl 0 rfl) ?_
    refine va_get (D := D) (ci := 4) (v := .ref (af 0)) (C := RX4) (T := TX4) (N := 10) hx hb hu inX4 hown hK.1 hP 0 rfl rfl 0 (by decide) (hu _ q158) (fun _ h9 => h9) rfl dX4_valueOf_68 ?_
    refine va_get (D := D) (ci := 1) (v := .ref (af 3)) (C := RX1) (T := TX1) (N := 9) hx hb hu inX1 hown hK.1 hP 4 rfl rfl 2 (by decide) (hu _ q99) (fun _ h9 => h9) rfl dX4_valueOf_71 ?_
    refine lv_iload_n hx hb dX4_valueOf_74 rfl (lv_at hl 3 rfl) ?_
    obtain ⟨hi2, hf⟩ := ck_el hf
    refine va_iald hx hb hK.1 hP 6 0 rfl rfl hi2 dX4_valueOf_75 ?_
    have he := Option.some.inj hf
    have e0 := he
    exact hri _ _ _ rfl (congrArg (fun z => some (Value.int z)) e0.symm) dX4_valueOf_76 _ _ _ rfl hP hD hS
  have hf := in_el hc1 hf
  by_cases hc3 : x1 = 108
  · have hf := ip_el hc3 hf
    refine lv_lookup (off := 51) (tgt := 52) hx hb dX4_valueOf_1 (by decide) (by rw [hc3]; decide) (by decide) ?_
    refine lv_aload_n hx hb dX4_valueOf_52 rfl (lv_at hl 0 rfl) ?_
    refine va_get (D := D) (ci := 4) (v := .ref (af 0)) (C := RX4) (T := TX4) (N := 10) hx hb hu inX4 hown hK.1 hP 0 rfl rfl 0 (by decide) (hu _ q158) (fun _ h9 => h9) rfl dX4_valueOf_53 ?_
    refine va_get (D := D) (ci := 1) (v := .ref (af 7)) (C := RX1) (T := TX1) (N := 9) hx hb hu inX1 hown hK.1 hP 4 rfl rfl 6 (by decide) (hu _ q108) (fun _ h9 => h9) rfl dX4_valueOf_56 ?_
    refine lv_iload_n hx hb dX4_valueOf_59 rfl (lv_at hl 2 rfl) ?_
    refine lv_bipush (v := 10) hx hb dX4_valueOf_60 (by decide) ?_
    refine lv_imul hx hb dX4_valueOf_62 ?_
    refine lv_iload_n hx hb dX4_valueOf_63 rfl (lv_at hl 3 rfl) ?_
    refine lv_iadd hx hb dX4_valueOf_64 ?_
    obtain ⟨hi4, hf⟩ := ck_el hf
    refine va_iald hx hb hK.1 hP 9 0 rfl rfl hi4 dX4_valueOf_65 ?_
    have he := Option.some.inj hf
    have e0 := he
    exact hri _ _ _ rfl (congrArg (fun z => some (Value.int z)) e0.symm) dX4_valueOf_66 _ _ _ rfl hP hD hS
  have hf := in_el hc3 hf
  by_cases hc5 : x1 = 114
  · have hf := ip_el hc5 hf
    refine lv_lookup (off := 121) (tgt := 122) hx hb dX4_valueOf_1 (by decide) (by rw [hc5]; decide) (by decide) ?_
    refine lv_aload_n hx hb dX4_valueOf_122 rfl (lv_at hl 0 rfl) ?_
    refine va_get (D := D) (ci := 4) (v := .ref (ase 6)) (C := RX4) (T := TX4) (N := 10) hx hb hu inX4 hown hK.1 hP 0 rfl rfl 5 (by decide) (hu _ q165) (fun _ h9 => h9) rfl dX4_valueOf_123 ?_
    refine lv_iload_n hx hb dX4_valueOf_126 rfl (lv_at hl 3 rfl) ?_
    obtain ⟨hi6, hf⟩ := ck_el hf
    refine va_iald hx hb hK.1 hP 3 0 rfl rfl hi6 dX4_valueOf_127 ?_
    have he := Option.some.inj hf
    have e0 := he
    exact hri _ _ _ rfl (congrArg (fun z => some (Value.int z)) e0.symm) dX4_valueOf_128 _ _ _ rfl hP hD hS
  have hf := in_el hc5 hf
  by_cases hc7 : x1 = 115
  · have hf := ip_el hc7 hf
    refine lv_lookup (off := 76) (tgt := 77) hx hb dX4_valueOf_1 (by decide) (by rw [hc7]; decide) (by decide) ?_
    refine lv_aload_n hx hb dX4_valueOf_77 rfl (lv_at hl 0 rfl) ?_
    refine va_get (D := D) (ci := 4) (v := .ref (af 0)) (C := RX4) (T := TX4) (N := 10) hx hb hu inX4 hown hK.1 hP 0 rfl rfl 0 (by decide) (hu _ q158) (fun _ h9 => h9) rfl dX4_valueOf_78 ?_
    refine va_get (D := D) (ci := 1) (v := .ref (af 4)) (C := RX1) (T := TX1) (N := 9) hx hb hu inX1 hown hK.1 hP 4 rfl rfl 3 (by decide) (hu _ q102) (fun _ h9 => h9) rfl dX4_valueOf_81 ?_
    refine lv_iload_n hx hb dX4_valueOf_84 rfl (lv_at hl 2 rfl) ?_
    obtain ⟨hi8, hf⟩ := ck_el hf
    refine va_iald hx hb hK.1 hP 7 0 rfl rfl hi8 dX4_valueOf_85 ?_
    refine lv_aload_n hx hb dX4_valueOf_86 rfl (lv_at hl 0 rfl) ?_
    refine va_get (D := D) (ci := 4) (v := .ref (af 0)) (C := RX4) (T := TX4) (N := 10) hx hb hu inX4 hown hK.1 hP 0 rfl rfl 0 (by decide) (hu _ q158) (fun _ h9 => h9) rfl dX4_valueOf_87 ?_
    refine va_get (D := D) (ci := 1) (v := .ref (af 4)) (C := RX1) (T := TX1) (N := 9) hx hb hu inX1 hown hK.1 hP 4 rfl rfl 3 (by decide) (hu _ q102) (fun _ h9 => h9) rfl dX4_valueOf_90 ?_
    refine lv_iload_n hx hb dX4_valueOf_93 rfl (lv_at hl 3 rfl) ?_
    obtain ⟨hi9, hf⟩ := ck_el hf
    refine va_iald hx hb hK.1 hP 7 0 rfl rfl hi9 dX4_valueOf_94 ?_
    refine lv_icmp_ne (tgt := 102) hx hb dX4_valueOf_95 (by decide) (fun hc10 => ?_) (fun hc10 => ?_)
    · have hf := in_el hc10 hf
      refine lv_iconst (v := 0) hx hb dX4_valueOf_102 (by decide) ?_
      have he := Option.some.inj hf
      have e0 := he
      exact hri _ _ _ rfl (congrArg (fun z => some (Value.int z)) e0.symm) dX4_valueOf_103 _ _ _ rfl hP hD hS
    · have hf := ip_el hc10 hf
      refine lv_iconst (v := 1) hx hb dX4_valueOf_98 (by decide) ?_
      refine lv_goto (tgt := 103) hx hb dX4_valueOf_99 (by decide) ?_
      have he := Option.some.inj hf
      have e0 := he
      exact hri _ _ _ rfl (congrArg (fun z => some (Value.int z)) e0.symm) dX4_valueOf_103 _ _ _ rfl hP hD hS
  have hf := in_el hc7 hf
  by_cases hc11 : x1 = 119
  · have hf := ip_el hc11 hf
    refine lv_lookup (off := 103) (tgt := 104) hx hb dX4_valueOf_1 (by decide) (by rw [hc11]; decide) (by decide) ?_
    refine lv_aload_n hx hb dX4_valueOf_104 rfl (lv_at hl 0 rfl) ?_
    refine va_get (D := D) (ci := 4) (v := .ref (af 0)) (C := RX4) (T := TX4) (N := 10) hx hb hu inX4 hown hK.1 hP 0 rfl rfl 0 (by decide) (hu _ q158) (fun _ h9 => h9) rfl dX4_valueOf_105 ?_
    refine lv_iload_n hx hb dX4_valueOf_108 rfl (lv_at hl 3 rfl) ?_
    refine lv_aload_n hx hb dX4_valueOf_109 rfl (lv_at hl 0 rfl) ?_
    refine va_get (D := D) (ci := 4) (v := .ref (af 0)) (C := RX4) (T := TX4) (N := 10) hx hb hu inX4 hown hK.1 hP 0 rfl rfl 0 (by decide) (hu _ q158) (fun _ h9 => h9) rfl dX4_valueOf_110 ?_
    refine va_get (D := D) (ci := 1) (v := .ref (af 4)) (C := RX1) (T := TX1) (N := 9) hx hb hu inX1 hown hK.1 hP 4 rfl rfl 3 (by decide) (hu _ q102) (fun _ h9 => h9) rfl dX4_valueOf_113 ?_
    refine lv_iload_n hx hb dX4_valueOf_116 rfl (lv_at hl 2 rfl) ?_
    obtain ⟨hi12, hf⟩ := ck_el hf
    refine va_iald hx hb hK.1 hP 7 0 rfl rfl hi12 dX4_valueOf_117 ?_
    obtain ⟨r13, hg14, hf⟩ := b1_el hf
    refine cc_V (w' := ((kX4 cs ase (.ref (af 0)) (.ref (ac 0)) tv Se) ++ ((kX1 cs af  Fo)))) (wr := (kX4 cs ase (.ref (af 0)) (.ref (ac 0)) tv Se)) (st1 := [.int r13]) [.int x3, .int (Fo 4 (Int32.toNatClampNeg x2))] hx hb hml hown hu (tX1_worthOf l D cs af x3 (Fo 4 (Int32.toNatClampNeg x2)) Fo r13 hg14) q414 q56 q411 q412 q413 pdX1_worthOf ⟨rfl, rfl, Nat.le_of_ble_eq_true rfl, Nat.le_of_ble_eq_true rfl⟩ hK hZ hP hD hS hA [4, 5, 6, 7, 8, 9, 10] [0, 1, 2, 3] [0, 1, 2, 3, 4, 5, 6, 7, 8, 9, 10] rfl rfl rfl rfl rfl rfl rfl rfl rfl rfl hl.1 rfl (Nat.le_of_ble_eq_true rfl) dX4_valueOf_118 rfl (fun H locs hP hD hS => ?_)
    have he := Option.some.inj hf
    have e0 := he
    exact hri _ _ _ rfl (congrArg (fun z => some (Value.int z)) e0.symm) dX4_valueOf_121 _ _ _ rfl hP hD hS
  have hf := in_el hc11 hf
  refine lv_lookup (off := 128) (tgt := 129) hx hb dX4_valueOf_1 (by decide) (by rw [lv_osw hc1 (by decide)]; rw [lv_osw hc3 (by decide)]; rw [lv_osw hc5 (by decide)]; rw [lv_osw hc7 (by decide)]; rw [lv_osw hc11 (by decide)]; rfl) (by decide) ?_
  refine lv_aload_n hx hb dX4_valueOf_129 rfl (lv_at hl 0 rfl) ?_
  obtain ⟨r15, hg16, hf⟩ := b1_el hf
  refine cc_V (w' := ((kX4 cs ase (.ref (af 0)) (.ref (ac 0)) tv Se) ++ ((kX1 cs af  Fo)))) (wr := (kX1 cs af  Fo)) (st1 := [.int r15]) [] hx hb hml hown hu (tX4_firstNamed l D cs ase (.ref (af 0)) (.ref (ac 0)) tv Se r15 hg16) q390 q58 q387 q388 q389 pdX4_firstNamed ⟨rfl, rfl, Nat.le_of_ble_eq_true rfl, Nat.le_of_ble_eq_true rfl⟩ hK hZ hP hD hS hA [0, 1, 2, 3] [4, 5, 6, 7, 8, 9, 10] [7, 8, 9, 10, 0, 1, 2, 3, 4, 5, 6] rfl rfl rfl rfl rfl rfl rfl rfl rfl rfl hl.1 rfl (Nat.le_of_ble_eq_true rfl) dX4_valueOf_130 rfl (fun H locs hP hD hS => ?_)
  refine lv_istore (lv' := [(4, .int r15), (0, .ref (ase 0)), (1, .int x1), (2, .int x2), (3, .int x3)]) hx hb dX4_valueOf_133 hl (by decide) rfl (fun ls hl => ?_)
  refine lv_iload hx hb dX4_valueOf_135 (lv_at hl 0 rfl) ?_
  refine lv_iconst (v := (-1)) hx hb dX4_valueOf_137 (by decide) ?_
  refine lv_icmp_ne (tgt := 145) hx hb dX4_valueOf_138 (by decide) (fun hc17 => ?_) (fun hc17 => ?_)
  · have hf := in_el hc17 hf
    refine lv_aload_n hx hb dX4_valueOf_145 rfl (lv_at hl 1 rfl) ?_
    refine va_get (D := D) (ci := 4) (v := .ref (af 0)) (C := RX4) (T := TX4) (N := 10) hx hb hu inX4 hown hK.1 hP 0 rfl rfl 0 (by decide) (hu _ q158) (fun _ h9 => h9) rfl dX4_valueOf_146 ?_
    refine va_get (D := D) (ci := 1) (v := .ref (af 7)) (C := RX1) (T := TX1) (N := 9) hx hb hu inX1 hown hK.1 hP 4 rfl rfl 6 (by decide) (hu _ q108) (fun _ h9 => h9) rfl dX4_valueOf_149 ?_
    refine lv_iload hx hb dX4_valueOf_152 (lv_at hl 0 rfl) ?_
    refine lv_bipush (v := 10) hx hb dX4_valueOf_154 (by decide) ?_
    refine lv_imul hx hb dX4_valueOf_156 ?_
    refine lv_iload_n hx hb dX4_valueOf_157 rfl (lv_at hl 4 rfl) ?_
    refine lv_iadd hx hb dX4_valueOf_158 ?_
    obtain ⟨hi18, hf⟩ := ck_el hf
    refine va_iald hx hb hK.1 hP 9 0 rfl rfl hi18 dX4_valueOf_159 ?_
    have he := Option.some.inj hf
    have e0 := he
    exact hri _ _ _ rfl (congrArg (fun z => some (Value.int z)) e0.symm) dX4_valueOf_160 _ _ _ rfl hP hD hS
  · have hf := ip_el hc17 hf
    refine lv_iconst (v := 0) hx hb dX4_valueOf_141 (by decide) ?_
    refine lv_goto (tgt := 160) hx hb dX4_valueOf_142 (by decide) ?_
    have he := Option.some.inj hf
    have e0 := he
    exact hri _ _ _ rfl (congrArg (fun z => some (Value.int z)) e0.symm) dX4_valueOf_160 _ _ _ rfl hP hD hS

def fX4_bury_2_s (Fo : ST) (k2 : Int32 → ST → Option ST) (y1 : Int32) (Se : ST) : Option ST :=
  (if (Se 4 0) ≤ y1 then dc_b1 (fX1_isAlive (Se 0 6) Fo) (fun r2 => (if r2 = 0 then dc_lt (sti Se 0 6 (-1)) (fun Se_5 => some Se_5) else some Se)) else dc_ck y1 4 (dc_b1 (fX1_isAlive (Se 5 (Int32.toNatClampNeg y1)) Fo) (fun r7 => (if r7 = 0 then dc_ck y1 4 (dc_lt (sti Se 5 (Int32.toNatClampNeg y1) (-1)) (fun Se_12 => dc_lt (y1 + 1) (fun v13 => k2 v13 Se_12))) else dc_lt (y1 + 1) (fun v10 => k2 v10 Se)))))
def fX4_bury_2 (Fo : ST) : Nat → Int32 → ST → Option ST
  | 0 => fun _ _ => none
  | n + 1 => fX4_bury_2_s Fo (fX4_bury_2 Fo n)
def fX4_bury (Se : ST) (Fo : ST) : Option ST :=
  fX4_bury_2 Fo 400 0 Se
abbrev rmX4_bury : Room := { frames := 2, cells := 0, slots := 0, locals := 42 }
set_option maxRecDepth 100000 in
set_option maxHeartbeats 4000000 in
theorem tX4_bury (l : Launch) (D : va_G) (cs : Nat → ClassId) (ase : Nat → Nat) (af : Nat → Nat) (ac : Nat → Nat) (tv : Value) (Se : ST) (Fo : ST) (Sez : ST) (hf : fX4_bury Se Fo = some Sez) : CG l yX4_bury (wsm yX4_bury cX4_bury 2 none) rmX4_bury D cs [.ref (ase 0)] none ((kX4 cs ase (.ref (af 0)) (.ref (ac 0)) tv Se) ++ ((kX1 cs af  Fo))) ((kX4 cs ase (.ref (af 0)) (.ref (ac 0)) tv Sez) ++ ((kX1 cs af  Fo))) := by
  refine CG.intro (by decide) (Nat.le_of_ble_eq_true rfl) ?_
  intro p e s m below meth c A Q hx hb hml hown hu hK hZ hP0 hD0 hS0 hA hri hrz hrl hrv hra ls0 hl0
  have hs2 : ∀ (k2 : Int32 → ST → Option ST), (∀ (y1 : Int32) (Se : ST) (H : Heap) (locs : List Loc) (ls : Array Slot), va_P D vwCl ((kX4 cs ase (.ref (af 0)) (.ref (ac 0)) tv Se) ++ ((kX1 cs af  Fo))) H → va_D A ((kX4 cs ase (.ref (af 0)) (.ref (ac 0)) tv Se) ++ ((kX1 cs af  Fo))) → va_S A s.heap H locs → lv_has ls 2 [(0, .ref (ase 0)), (1, .int y1)] → k2 y1 Se = some Sez → W p l e rmX4_bury s m [.ref (ase 0)].toArray below meth c H locs 0 0 Q (F0 m 2 ls [])) → ∀ (y1 : Int32) (Se : ST) (H : Heap) (locs : List Loc) (ls : Array Slot), va_P D vwCl ((kX4 cs ase (.ref (af 0)) (.ref (ac 0)) tv Se) ++ ((kX1 cs af  Fo))) H → va_D A ((kX4 cs ase (.ref (af 0)) (.ref (ac 0)) tv Se) ++ ((kX1 cs af  Fo))) → va_S A s.heap H locs → lv_has ls 2 [(0, .ref (ase 0)), (1, .int y1)] → fX4_bury_2_s Fo k2 y1 Se = some Sez → W p l e rmX4_bury s m [.ref (ase 0)].toArray below meth c H locs 0 0 Q (F0 m 2 ls []) := by
    intro k2 hk2 y1 Se H locs ls hP hD hS hl hf
    unfold fX4_bury_2_s at hf
    refine lv_iload_n hx hb dX4_bury_2 rfl (lv_at hl 1 rfl) ?_
    refine lv_aload_n hx hb dX4_bury_3 rfl (lv_at hl 0 rfl) ?_
    refine va_get (D := D) (ci := 4) (v := .ref (ase 4)) (C := RX4) (T := TX4) (N := 10) hx hb hu inX4 hown hK.1 hP 0 rfl rfl 3 (by decide) (hu _ q161) (fun _ h9 => h9) rfl dX4_bury_4 ?_
    refine lv_iconst (v := 0) hx hb dX4_bury_7 (by decide) ?_
    refine ia_lit hx hb hK hP 1 0 rfl (by decide) dX4_bury_8 ?_
    refine lv_icmp_ge (tgt := 41) hx hb dX4_bury_9 (by decide) (fun hc1 => ?_) (fun hc1 => ?_)
    · have hf := ip_el hc1 hf
      refine lv_aload_n hx hb dX4_bury_41 rfl (lv_at hl 0 rfl) ?_
      refine va_get (D := D) (ci := 4) (v := .ref (af 0)) (C := RX4) (T := TX4) (N := 10) hx hb hu inX4 hown hK.1 hP 0 rfl rfl 0 (by decide) (hu _ q158) (fun _ h9 => h9) rfl dX4_bury_42 ?_
      refine lv_aload_n hx hb dX4_bury_45 rfl (lv_at hl 0 rfl) ?_
      refine va_get (D := D) (ci := 4) (v := .int (Se 0 6)) (C := RX4) (T := TX4) (N := 10) hx hb hu inX4 hown hK.1 hP 0 rfl rfl 6 (by decide) (hu _ q167) (fun _ h9 => h9) rfl dX4_bury_46 ?_
      obtain ⟨r2, hg3, hf⟩ := b1_el hf
      refine cc_V (w' := ((kX4 cs ase (.ref (af 0)) (.ref (ac 0)) tv Se) ++ ((kX1 cs af  Fo)))) (wr := (kX4 cs ase (.ref (af 0)) (.ref (ac 0)) tv Se)) (st1 := [.int r2]) [.int (Se 0 6)] hx hb hml hown hu (tX1_isAlive l D cs af (Se 0 6) Fo r2 hg3) q356 q56 q551 q354 q355 pdX1_isAlive ⟨rfl, rfl, Nat.le_of_ble_eq_true rfl, Nat.le_of_ble_eq_true rfl⟩ hK hZ hP hD hS hA [4, 5, 6, 7, 8, 9, 10] [0, 1, 2, 3] [0, 1, 2, 3, 4, 5, 6, 7, 8, 9, 10] rfl rfl rfl rfl rfl rfl rfl rfl rfl rfl hl.1 rfl (Nat.le_of_ble_eq_true rfl) dX4_bury_49 rfl (fun H locs hP hD hS => ?_)
      refine lv_if_ne (tgt := 60) hx hb dX4_bury_52 (by decide) (fun hc4 => ?_) (fun hc4 => ?_)
      · have hf := in_el hc4 hf
        have he := Option.some.inj hf
        have e0 := he
        exact hrv _ _ rfl rfl dX4_bury_60 _ _ _ (by rw [e0]) hP hD hS
      · have hf := ip_el hc4 hf
        refine lv_aload_n hx hb dX4_bury_55 rfl (lv_at hl 0 rfl) ?_
        refine lv_iconst (v := (-1)) hx hb dX4_bury_56 (by decide) ?_
        obtain ⟨Se_5, hSe_5, hf⟩ := lt_el hf
        refine va_put (D := D) (ci := 4) (v := .int (-1)) (ty := .int) (C := RX4) (T := TX4) (N := 10) hx hb hu inX4 tyX4 tyX4_ok nmX4 hown hK.1 hP hD hS 0 rfl rfl 6 (by decide) (hu _ q167) (fun _ h9 => h9) rfl (by decide +kernel) rfl rfl (Nat.le_of_ble_eq_true rfl) dX4_bury_57 (fun H locs hP hD hS => ?_)
        have hP : va_P D vwCl ((kX4 cs ase (.ref (af 0)) (.ref (ac 0)) tv Se_5) ++ ((kX1 cs af  Fo))) H := by rw [hSe_5]; exact hP
        have hD : va_D A ((kX4 cs ase (.ref (af 0)) (.ref (ac 0)) tv Se_5) ++ ((kX1 cs af  Fo))) := by rw [hSe_5]; exact hD
        have he := Option.some.inj hf
        have e0 := he
        exact hrv _ _ rfl rfl dX4_bury_60 _ _ _ (by rw [e0]) hP hD hS
    · have hf := in_el hc1 hf
      refine lv_aload_n hx hb dX4_bury_12 rfl (lv_at hl 0 rfl) ?_
      refine va_get (D := D) (ci := 4) (v := .ref (af 0)) (C := RX4) (T := TX4) (N := 10) hx hb hu inX4 hown hK.1 hP 0 rfl rfl 0 (by decide) (hu _ q158) (fun _ h9 => h9) rfl dX4_bury_13 ?_
      refine lv_aload_n hx hb dX4_bury_16 rfl (lv_at hl 0 rfl) ?_
      refine va_get (D := D) (ci := 4) (v := .ref (ase 5)) (C := RX4) (T := TX4) (N := 10) hx hb hu inX4 hown hK.1 hP 0 rfl rfl 4 (by decide) (hu _ q163) (fun _ h9 => h9) rfl dX4_bury_17 ?_
      refine lv_iload_n hx hb dX4_bury_20 rfl (lv_at hl 1 rfl) ?_
      obtain ⟨hi6, hf⟩ := ck_el hf
      refine va_iald hx hb hK.1 hP 2 0 rfl rfl hi6 dX4_bury_21 ?_
      obtain ⟨r7, hg8, hf⟩ := b1_el hf
      refine cc_V (w' := ((kX4 cs ase (.ref (af 0)) (.ref (ac 0)) tv Se) ++ ((kX1 cs af  Fo)))) (wr := (kX4 cs ase (.ref (af 0)) (.ref (ac 0)) tv Se)) (st1 := [.int r7]) [.int (Se 5 (Int32.toNatClampNeg y1))] hx hb hml hown hu (tX1_isAlive l D cs af (Se 5 (Int32.toNatClampNeg y1)) Fo r7 hg8) q356 q56 q551 q354 q355 pdX1_isAlive ⟨rfl, rfl, Nat.le_of_ble_eq_true rfl, Nat.le_of_ble_eq_true rfl⟩ hK hZ hP hD hS hA [4, 5, 6, 7, 8, 9, 10] [0, 1, 2, 3] [0, 1, 2, 3, 4, 5, 6, 7, 8, 9, 10] rfl rfl rfl rfl rfl rfl rfl rfl rfl rfl hl.1 rfl (Nat.le_of_ble_eq_true rfl) dX4_bury_22 rfl (fun H locs hP hD hS => ?_)
      refine lv_if_ne (tgt := 35) hx hb dX4_bury_25 (by decide) (fun hc9 => ?_) (fun hc9 => ?_)
      · have hf := in_el hc9 hf
        obtain ⟨v10, hv10, hf⟩ := lt_el hf
        refine lv_iinc (v := v10) (lv' := [(1, .int v10), (0, .ref (ase 0))]) hx hb dX4_bury_35 hl (k := 1) rfl (by rw [hv10]; rfl) (by decide) rfl (fun ls hl => ?_)
        refine lv_goto (tgt := 2) hx hb dX4_bury_38 (by decide) ?_
        exact hk2 v10 Se _ _ _ hP hD hS (lv_sub hl [1, 0] rfl) hf
      · have hf := ip_el hc9 hf
        refine lv_aload_n hx hb dX4_bury_28 rfl (lv_at hl 0 rfl) ?_
        refine va_get (D := D) (ci := 4) (v := .ref (ase 5)) (C := RX4) (T := TX4) (N := 10) hx hb hu inX4 hown hK.1 hP 0 rfl rfl 4 (by decide) (hu _ q163) (fun _ h9 => h9) rfl dX4_bury_29 ?_
        refine lv_iload_n hx hb dX4_bury_32 rfl (lv_at hl 1 rfl) ?_
        refine lv_iconst (v := (-1)) hx hb dX4_bury_33 (by decide) ?_
        obtain ⟨hi11, hf⟩ := ck_el hf
        obtain ⟨Se_12, hSe_12, hf⟩ := lt_el hf
        refine va_iast hx hb hK.1 hP hD hS 2 0 rfl rfl hi11 dX4_bury_34 (fun H locs hP hD hS => ?_)
        have hP : va_P D vwCl ((kX4 cs ase (.ref (af 0)) (.ref (ac 0)) tv Se_12) ++ ((kX1 cs af  Fo))) H := by rw [hSe_12]; exact hP
        have hD : va_D A ((kX4 cs ase (.ref (af 0)) (.ref (ac 0)) tv Se_12) ++ ((kX1 cs af  Fo))) := by rw [hSe_12]; exact hD
        obtain ⟨v13, hv13, hf⟩ := lt_el hf
        refine lv_iinc (v := v13) (lv' := [(1, .int v13), (0, .ref (ase 0))]) hx hb dX4_bury_35 hl (k := 1) rfl (by rw [hv13]; rfl) (by decide) rfl (fun ls hl => ?_)
        refine lv_goto (tgt := 2) hx hb dX4_bury_38 (by decide) ?_
        exact hk2 v13 Se_12 _ _ _ hP hD hS (lv_sub hl [1, 0] rfl) hf
  have h2 : ∀ (n : Nat), ∀ (y1 : Int32) (Se : ST) (H : Heap) (locs : List Loc) (ls : Array Slot), va_P D vwCl ((kX4 cs ase (.ref (af 0)) (.ref (ac 0)) tv Se) ++ ((kX1 cs af  Fo))) H → va_D A ((kX4 cs ase (.ref (af 0)) (.ref (ac 0)) tv Se) ++ ((kX1 cs af  Fo))) → va_S A s.heap H locs → lv_has ls 2 [(0, .ref (ase 0)), (1, .int y1)] → fX4_bury_2 Fo n y1 Se = some Sez → W p l e rmX4_bury s m [.ref (ase 0)].toArray below meth c H locs 0 0 Q (F0 m 2 ls []) := by
    intro n
    induction n with
    | zero => intro y1 Se H locs ls hP hD hS hl hf; exact no_el hf
    | succ n ih => intro y1 Se H locs ls hP hD hS hl hf; exact hs2 _ ih y1 Se _ _ _ hP hD hS hl hf
  have hl : lv_has ls0 2 [(0, .ref (ase 0))] := hl0
  have hP := hP0
  have hD := hD0
  have hS := hS0
  unfold fX4_bury at hf
  refine lv_iconst (v := 0) hx hb dX4_bury_0 (by decide) ?_
  refine lv_istore_n (lv' := [(1, .int 0), (0, .ref (ase 0))]) hx hb dX4_bury_1 rfl hl (by decide) rfl (fun ls hl => ?_)
  exact h2 400 0 Se _ _ _ hP hD hS (lv_sub hl [1, 0] rfl) hf

def fX3_work_75 (Se : ST) (Fo : ST) (k6 : Int32 → Int32 → Int32 → Int32 → ST → Option (Int32 × ST)) (y2 : Int32) (y3 : Int32) (y4 : Int32) (y5 : Int32) (y6 : Int32) (y7 : Int32) (Sc : ST) : Option (Int32 × ST) :=
  (if 80 ≤ y4 then dc_lt (y5 + 1) (fun v7 => k6 y2 y3 y4 v7 Sc) else (if y7 = 0 then dc_ck y5 80 (dc_ck y4 80 (dc_lt (sti Sc 2 (Int32.toNatClampNeg y4) (Sc 1 (Int32.toNatClampNeg y5))) (fun Sc_11 => dc_lt (y4 + 1) (fun v12 => dc_lt (y5 + 1) (fun v13 => k6 y2 y3 v12 v13 Sc_11))))) else dc_b1 (fX4_valueOf y6 y2 y3 Se Fo) (fun r14 => dc_ck y4 80 (dc_lt (sti Sc 2 (Int32.toNatClampNeg y4) r14) (fun Sc_17 => dc_lt (y4 + 1) (fun v18 => dc_lt (y5 + 1) (fun v19 => k6 y2 y3 v18 v19 Sc_17)))))))
def fX3_work_183 (Se : ST) (Fo : ST) (k6 : Int32 → Int32 → Int32 → Int32 → ST → Option (Int32 × ST)) (y2 : Int32) (y3 : Int32) (y4 : Int32) (y5 : Int32) (s0 : Int32) (s1 : Int32) (Sc : ST) : Option (Int32 × ST) :=
  dc_b1 (fX3_truth s0) (fun r27 => dc_ck s1 80 (dc_lt (sti Sc 2 (Int32.toNatClampNeg s1) r27) (fun Sc_30 => dc_lt (y5 + 1) (fun v31 => k6 y2 y3 y4 v31 Sc_30))))
def fX3_work_132 (Se : ST) (Fo : ST) (k6 : Int32 → Int32 → Int32 → Int32 → ST → Option (Int32 × ST)) (y2 : Int32) (y3 : Int32) (y4 : Int32) (y5 : Int32) (y6 : Int32) (Sc : ST) : Option (Int32 × ST) :=
  (if y4 < 1 then dc_lt (y5 + 1) (fun v23 => k6 y2 y3 y4 v23 Sc) else (if y6 = 126 then dc_ck (y4 - 1) 80 (dc_ck (y4 - 1) 80 (dc_lt (sti Sc 2 (Int32.toNatClampNeg (y4 - 1)) (-(Sc 2 (Int32.toNatClampNeg (y4 - 1))))) (fun Sc_34 => dc_lt (y5 + 1) (fun v35 => k6 y2 y3 y4 v35 Sc_34)))) else dc_ck (y4 - 1) 80 ((if (Sc 2 (Int32.toNatClampNeg (y4 - 1))) = 0 then fX3_work_183 Se Fo k6 y2 y3 y4 y5 1 (y4 - 1) Sc else fX3_work_183 Se Fo k6 y2 y3 y4 y5 0 (y4 - 1) Sc))))
def fX3_work_61 (Se : ST) (Fo : ST) (k6 : Int32 → Int32 → Int32 → Int32 → ST → Option (Int32 × ST)) (y2 : Int32) (y3 : Int32) (y4 : Int32) (y5 : Int32) (y6 : Int32) (s0 : Int32) (Sc : ST) : Option (Int32 × ST) :=
  (if y6 = 48 then fX3_work_75 Se Fo k6 y2 y3 y4 y5 y6 s0 Sc else (if s0 = 0 then (if y6 = 33 then fX3_work_132 Se Fo k6 y2 y3 y4 y5 y6 Sc else (if y6 = 126 then fX3_work_132 Se Fo k6 y2 y3 y4 y5 y6 Sc else (if y4 < 2 then dc_lt (y5 + 1) (fun v38 => k6 y2 y3 y4 v38 Sc) else dc_lt (y4 + (-1)) (fun v39 => dc_ck (v39 - 1) 80 (dc_ck v39 80 (dc_b1 (fX3_join y6 (Sc 2 (Int32.toNatClampNeg (v39 - 1))) (Sc 2 (Int32.toNatClampNeg v39))) (fun r42 => dc_ck (v39 - 1) 80 (dc_lt (sti Sc 2 (Int32.toNatClampNeg (v39 - 1)) r42) (fun Sc_45 => dc_lt (y5 + 1) (fun v46 => k6 y2 y3 v39 v46 Sc_45)))))))))) else fX3_work_75 Se Fo k6 y2 y3 y4 y5 y6 s0 Sc))
def fX3_work_40 (Se : ST) (Fo : ST) (k6 : Int32 → Int32 → Int32 → Int32 → ST → Option (Int32 × ST)) (y2 : Int32) (y3 : Int32) (y4 : Int32) (y5 : Int32) (s0 : Int32) (Sc : ST) : Option (Int32 × ST) :=
  (if s0 < 97 then fX3_work_61 Se Fo k6 y2 y3 y4 y5 s0 0 Sc else (if 122 < s0 then fX3_work_61 Se Fo k6 y2 y3 y4 y5 s0 0 Sc else fX3_work_61 Se Fo k6 y2 y3 y4 y5 s0 1 Sc))
def fX3_work_6_s (Se : ST) (Fo : ST) (k6 : Int32 → Int32 → Int32 → Int32 → ST → Option (Int32 × ST)) (y2 : Int32) (y3 : Int32) (y4 : Int32) (y5 : Int32) (Sc : ST) : Option (Int32 × ST) :=
  (if (Sc 0 2) ≤ y5 then some ((Sc 2 0), Sc) else dc_ck y5 80 ((if 0 ≤ (Sc 1 (Int32.toNatClampNeg y5)) then fX3_work_40 Se Fo k6 y2 y3 y4 y5 48 Sc else dc_ck y5 80 (fX3_work_40 Se Fo k6 y2 y3 y4 y5 ((((-1) - (Sc 1 (Int32.toNatClampNeg y5))).toUInt32 % 65536).toInt32) Sc))))
def fX3_work_6 (Se : ST) (Fo : ST) : Nat → Int32 → Int32 → Int32 → Int32 → ST → Option (Int32 × ST)
  | 0 => fun _ _ _ _ _ => none
  | n + 1 => fX3_work_6_s Se Fo (fX3_work_6 Se Fo n)
def fX3_work (x2 : Int32) (x3 : Int32) (Sc : ST) (Se : ST) (Fo : ST) : Option (Int32 × ST) :=
  fX3_work_6 Se Fo 400 x2 x3 0 0 Sc
abbrev rmX3_work : Room := { frames := 2, cells := 0, slots := 0, locals := 46 }
set_option maxRecDepth 100000 in
set_option maxHeartbeats 4000000 in
theorem tX3_work (l : Launch) (D : va_G) (cs : Nat → ClassId) (ac : Nat → Nat) (ase : Nat → Nat) (af : Nat → Nat) (tv : Value) (x2 : Int32) (x3 : Int32) (Sc : ST) (Se : ST) (Fo : ST) (r0 : Int32) (Scz : ST) (hf : fX3_work x2 x3 Sc Se Fo = some (r0, Scz)) : CG l yX3_work (wsm yX3_work cX3_work 8 (some .int)) rmX3_work D cs [.ref (ac 0), .ref (ase 0), .int x2, .int x3] (some (.int r0)) ((kX3 cs ac  Sc) ++ ((kX4 cs ase (.ref (af 0)) (.ref (ac 0)) tv Se) ++ ((kX1 cs af  Fo)))) ((kX3 cs ac  Scz) ++ ((kX4 cs ase (.ref (af 0)) (.ref (ac 0)) tv Se) ++ ((kX1 cs af  Fo)))) := by
  refine CG.intro (by decide) (Nat.le_of_ble_eq_true rfl) ?_
  intro p e s m below meth c A Q hx hb hml hown hu hK hZ hP0 hD0 hS0 hA hri hrz hrl hrv hra ls0 hl0
  have h75 : ∀ (k6 : Int32 → Int32 → Int32 → Int32 → ST → Option (Int32 × ST)), (∀ (y2 : Int32) (y3 : Int32) (y4 : Int32) (y5 : Int32) (Sc : ST) (H : Heap) (locs : List Loc) (ls : Array Slot), va_P D vwCl ((kX3 cs ac  Sc) ++ ((kX4 cs ase (.ref (af 0)) (.ref (ac 0)) tv Se) ++ ((kX1 cs af  Fo)))) H → va_D A ((kX3 cs ac  Sc) ++ ((kX4 cs ase (.ref (af 0)) (.ref (ac 0)) tv Se) ++ ((kX1 cs af  Fo)))) → va_S A s.heap H locs → lv_has ls 8 [(0, .ref (ac 0)), (1, .ref (ase 0)), (2, .int y2), (3, .int y3), (4, .int y4), (5, .int y5)] → k6 y2 y3 y4 y5 Sc = some (r0, Scz) → W p l e rmX3_work s m [.ref (ac 0), .ref (ase 0), .int x2, .int x3].toArray below meth c H locs 0 0 Q (F0 m 6 ls [])) → ∀ (y2 : Int32) (y3 : Int32) (y4 : Int32) (y5 : Int32) (y6 : Int32) (y7 : Int32) (Sc : ST) (H : Heap) (locs : List Loc) (ls : Array Slot), va_P D vwCl ((kX3 cs ac  Sc) ++ ((kX4 cs ase (.ref (af 0)) (.ref (ac 0)) tv Se) ++ ((kX1 cs af  Fo)))) H → va_D A ((kX3 cs ac  Sc) ++ ((kX4 cs ase (.ref (af 0)) (.ref (ac 0)) tv Se) ++ ((kX1 cs af  Fo)))) → va_S A s.heap H locs → lv_has ls 8 [(0, .ref (ac 0)), (1, .ref (ase 0)), (2, .int y2), (3, .int y3), (4, .int y4), (5, .int y5), (6, .int y6), (7, .int y7)] → fX3_work_75 Se Fo k6 y2 y3 y4 y5 y6 y7 Sc = some (r0, Scz) → W p l e rmX3_work s m [.ref (ac 0), .ref (ase 0), .int x2, .int x3].toArray below meth c H locs 0 0 Q (F0 m 75 ls []) := by
    intro k6 hk6 y2 y3 y4 y5 y6 y7 Sc H locs ls hP hD hS hl hf
    unfold fX3_work_75 at hf
    refine lv_iload hx hb dX3_work_75 (lv_at hl 4 rfl) ?_
    refine lv_bipush (v := 80) hx hb dX3_work_77 (by decide) ?_
    refine lv_icmp_ge (tgt := 229) hx hb dX3_work_79 (by decide) (fun hc6 => ?_) (fun hc6 => ?_)
    · have hf := ip_el hc6 hf
      obtain ⟨v7, hv7, hf⟩ := lt_el hf
      refine lv_iinc (v := v7) (lv' := [(5, .int v7), (0, .ref (ac 0)), (1, .ref (ase 0)), (2, .int y2), (3, .int y3), (4, .int y4), (6, .int y6), (7, .int y7)]) hx hb dX3_work_229 hl (k := 5) rfl (by rw [hv7]; rfl) (by decide) rfl (fun ls hl => ?_)
      refine lv_goto (tgt := 6) hx hb dX3_work_232 (by decide) ?_
      exact hk6 y2 y3 y4 v7 Sc _ _ _ hP hD hS (lv_sub hl [1, 2, 3, 4, 5, 0] rfl) hf
    · have hf := in_el hc6 hf
      refine lv_aload_n hx hb dX3_work_82 rfl (lv_at hl 0 rfl) ?_
      refine va_get (D := D) (ci := 3) (v := .ref (ac 2)) (C := RX3) (T := TX3) (N := 3) hx hb hu inX3 hown hK.1 hP 0 rfl rfl 1 (by decide) (hu _ q141) (fun _ h9 => h9) rfl dX3_work_83 ?_
      refine lv_iload hx hb dX3_work_86 (lv_at hl 4 rfl) ?_
      refine lv_iload hx hb dX3_work_88 (lv_at hl 7 rfl) ?_
      refine lv_if_eq (tgt := 104) hx hb dX3_work_90 (by decide) (fun hc8 => ?_) (fun hc8 => ?_)
      · have hf := ip_el hc8 hf
        refine lv_aload_n hx hb dX3_work_104 rfl (lv_at hl 0 rfl) ?_
        refine va_get (D := D) (ci := 3) (v := .ref (ac 1)) (C := RX3) (T := TX3) (N := 3) hx hb hu inX3 hown hK.1 hP 0 rfl rfl 0 (by decide) (hu _ q140) (fun _ h9 => h9) rfl dX3_work_105 ?_
        refine lv_iload hx hb dX3_work_108 (lv_at hl 5 rfl) ?_
        obtain ⟨hi9, hf⟩ := ck_el hf
        refine va_iald hx hb hK.1 hP 1 0 rfl rfl hi9 dX3_work_110 ?_
        obtain ⟨hi10, hf⟩ := ck_el hf
        obtain ⟨Sc_11, hSc_11, hf⟩ := lt_el hf
        refine va_iast hx hb hK.1 hP hD hS 2 0 rfl rfl hi10 dX3_work_111 (fun H locs hP hD hS => ?_)
        have hP : va_P D vwCl ((kX3 cs ac  Sc_11) ++ ((kX4 cs ase (.ref (af 0)) (.ref (ac 0)) tv Se) ++ ((kX1 cs af  Fo)))) H := by rw [hSc_11]; exact hP
        have hD : va_D A ((kX3 cs ac  Sc_11) ++ ((kX4 cs ase (.ref (af 0)) (.ref (ac 0)) tv Se) ++ ((kX1 cs af  Fo)))) := by rw [hSc_11]; exact hD
        obtain ⟨v12, hv12, hf⟩ := lt_el hf
        refine lv_iinc (v := v12) (lv' := [(4, .int v12), (0, .ref (ac 0)), (1, .ref (ase 0)), (2, .int y2), (3, .int y3), (5, .int y5), (6, .int y6), (7, .int y7)]) hx hb dX3_work_112 hl (k := 4) rfl (by rw [hv12]; rfl) (by decide) rfl (fun ls hl => ?_)
        refine lv_goto (tgt := 229) hx hb dX3_work_115 (by decide) ?_
        obtain ⟨v13, hv13, hf⟩ := lt_el hf
        refine lv_iinc (v := v13) (lv' := [(5, .int v13), (4, .int v12), (0, .ref (ac 0)), (1, .ref (ase 0)), (2, .int y2), (3, .int y3), (6, .int y6), (7, .int y7)]) hx hb dX3_work_229 hl (k := 5) rfl (by rw [hv13]; rfl) (by decide) rfl (fun ls hl => ?_)
        refine lv_goto (tgt := 6) hx hb dX3_work_232 (by decide) ?_
        exact hk6 y2 y3 v12 v13 Sc_11 _ _ _ hP hD hS (lv_sub hl [2, 3, 4, 5, 1, 0] rfl) hf
      · have hf := in_el hc8 hf
        refine lv_aload_n hx hb dX3_work_93 rfl (lv_at hl 1 rfl) ?_
        refine lv_iload hx hb dX3_work_94 (lv_at hl 6 rfl) ?_
        refine lv_iload_n hx hb dX3_work_96 rfl (lv_at hl 2 rfl) ?_
        refine lv_iload_n hx hb dX3_work_97 rfl (lv_at hl 3 rfl) ?_
        obtain ⟨r14, hg15, hf⟩ := b1_el hf
        refine cc_V (w' := ((kX3 cs ac  Sc) ++ ((kX4 cs ase (.ref (af 0)) (.ref (ac 0)) tv Se) ++ ((kX1 cs af  Fo))))) (wr := (kX3 cs ac  Sc)) (st1 := [.int r14, .int y4, .ref (ac 2)]) [.int y6, .int y2, .int y3] hx hb hml hown hu (tX4_valueOf l D cs ase af ac tv y6 y2 y3 Se Fo r14 hg15) q410 q58 q407 q408 q409 pdX4_valueOf ⟨rfl, rfl, Nat.le_of_ble_eq_true rfl, Nat.le_of_ble_eq_true rfl⟩ hK hZ hP hD hS hA [3, 4, 5, 6, 7, 8, 9, 10, 11, 12, 13] [0, 1, 2] [0, 1, 2, 3, 4, 5, 6, 7, 8, 9, 10, 11, 12, 13] rfl rfl rfl rfl rfl rfl rfl rfl rfl rfl hl.1 rfl (Nat.le_of_ble_eq_true rfl) dX3_work_98 rfl (fun H locs hP hD hS => ?_)
        refine lv_goto (tgt := 111) hx hb dX3_work_101 (by decide) ?_
        obtain ⟨hi16, hf⟩ := ck_el hf
        obtain ⟨Sc_17, hSc_17, hf⟩ := lt_el hf
        refine va_iast hx hb hK.1 hP hD hS 2 0 rfl rfl hi16 dX3_work_111 (fun H locs hP hD hS => ?_)
        have hP : va_P D vwCl ((kX3 cs ac  Sc_17) ++ ((kX4 cs ase (.ref (af 0)) (.ref (ac 0)) tv Se) ++ ((kX1 cs af  Fo)))) H := by rw [hSc_17]; exact hP
        have hD : va_D A ((kX3 cs ac  Sc_17) ++ ((kX4 cs ase (.ref (af 0)) (.ref (ac 0)) tv Se) ++ ((kX1 cs af  Fo)))) := by rw [hSc_17]; exact hD
        obtain ⟨v18, hv18, hf⟩ := lt_el hf
        refine lv_iinc (v := v18) (lv' := [(4, .int v18), (0, .ref (ac 0)), (1, .ref (ase 0)), (2, .int y2), (3, .int y3), (5, .int y5), (6, .int y6), (7, .int y7)]) hx hb dX3_work_112 hl (k := 4) rfl (by rw [hv18]; rfl) (by decide) rfl (fun ls hl => ?_)
        refine lv_goto (tgt := 229) hx hb dX3_work_115 (by decide) ?_
        obtain ⟨v19, hv19, hf⟩ := lt_el hf
        refine lv_iinc (v := v19) (lv' := [(5, .int v19), (4, .int v18), (0, .ref (ac 0)), (1, .ref (ase 0)), (2, .int y2), (3, .int y3), (6, .int y6), (7, .int y7)]) hx hb dX3_work_229 hl (k := 5) rfl (by rw [hv19]; rfl) (by decide) rfl (fun ls hl => ?_)
        refine lv_goto (tgt := 6) hx hb dX3_work_232 (by decide) ?_
        exact hk6 y2 y3 v18 v19 Sc_17 _ _ _ hP hD hS (lv_sub hl [2, 3, 4, 5, 1, 0] rfl) hf
  have h183 : ∀ (k6 : Int32 → Int32 → Int32 → Int32 → ST → Option (Int32 × ST)), (∀ (y2 : Int32) (y3 : Int32) (y4 : Int32) (y5 : Int32) (Sc : ST) (H : Heap) (locs : List Loc) (ls : Array Slot), va_P D vwCl ((kX3 cs ac  Sc) ++ ((kX4 cs ase (.ref (af 0)) (.ref (ac 0)) tv Se) ++ ((kX1 cs af  Fo)))) H → va_D A ((kX3 cs ac  Sc) ++ ((kX4 cs ase (.ref (af 0)) (.ref (ac 0)) tv Se) ++ ((kX1 cs af  Fo)))) → va_S A s.heap H locs → lv_has ls 8 [(0, .ref (ac 0)), (1, .ref (ase 0)), (2, .int y2), (3, .int y3), (4, .int y4), (5, .int y5)] → k6 y2 y3 y4 y5 Sc = some (r0, Scz) → W p l e rmX3_work s m [.ref (ac 0), .ref (ase 0), .int x2, .int x3].toArray below meth c H locs 0 0 Q (F0 m 6 ls [])) → ∀ (y2 : Int32) (y3 : Int32) (y4 : Int32) (y5 : Int32) (s0 : Int32) (s1 : Int32) (Sc : ST) (H : Heap) (locs : List Loc) (ls : Array Slot), va_P D vwCl ((kX3 cs ac  Sc) ++ ((kX4 cs ase (.ref (af 0)) (.ref (ac 0)) tv Se) ++ ((kX1 cs af  Fo)))) H → va_D A ((kX3 cs ac  Sc) ++ ((kX4 cs ase (.ref (af 0)) (.ref (ac 0)) tv Se) ++ ((kX1 cs af  Fo)))) → va_S A s.heap H locs → lv_has ls 8 [(0, .ref (ac 0)), (1, .ref (ase 0)), (2, .int y2), (3, .int y3), (4, .int y4), (5, .int y5)] → fX3_work_183 Se Fo k6 y2 y3 y4 y5 s0 s1 Sc = some (r0, Scz) → W p l e rmX3_work s m [.ref (ac 0), .ref (ase 0), .int x2, .int x3].toArray below meth c H locs 0 0 Q (F0 m 183 ls [.int s0, .int s1, .ref (ac 2)]) := by
    intro k6 hk6 y2 y3 y4 y5 s0 s1 Sc H locs ls hP hD hS hl hf
    unfold fX3_work_183 at hf
    obtain ⟨r27, hg28, hf⟩ := b1_el hf
    refine cc_S0 (st1 := [.int r27, .int s1, .ref (ac 2)]) [.int s0] hx hb hml hown hu (tX3_truth l D cs s0 r27 hg28) q417 q57 q415 q416 pdX3_truth ⟨rfl, rfl, Nat.le_of_ble_eq_true rfl, Nat.le_of_ble_eq_true rfl⟩ hK hZ hP hD hS hA rfl hl.1 rfl (Nat.le_of_ble_eq_true rfl) dX3_work_183 rfl (fun H locs hP hD hS => ?_)
    obtain ⟨hi29, hf⟩ := ck_el hf
    obtain ⟨Sc_30, hSc_30, hf⟩ := lt_el hf
    refine va_iast hx hb hK.1 hP hD hS 2 0 rfl rfl hi29 dX3_work_186 (fun H locs hP hD hS => ?_)
    have hP : va_P D vwCl ((kX3 cs ac  Sc_30) ++ ((kX4 cs ase (.ref (af 0)) (.ref (ac 0)) tv Se) ++ ((kX1 cs af  Fo)))) H := by rw [hSc_30]; exact hP
    have hD : va_D A ((kX3 cs ac  Sc_30) ++ ((kX4 cs ase (.ref (af 0)) (.ref (ac 0)) tv Se) ++ ((kX1 cs af  Fo)))) := by rw [hSc_30]; exact hD
    refine lv_goto (tgt := 229) hx hb dX3_work_187 (by decide) ?_
    obtain ⟨v31, hv31, hf⟩ := lt_el hf
    refine lv_iinc (v := v31) (lv' := [(5, .int v31), (0, .ref (ac 0)), (1, .ref (ase 0)), (2, .int y2), (3, .int y3), (4, .int y4)]) hx hb dX3_work_229 hl (k := 5) rfl (by rw [hv31]; rfl) (by decide) rfl (fun ls hl => ?_)
    refine lv_goto (tgt := 6) hx hb dX3_work_232 (by decide) ?_
    exact hk6 y2 y3 y4 v31 Sc_30 _ _ _ hP hD hS (lv_sub hl [1, 2, 3, 4, 5, 0] rfl) hf
  have h132 : ∀ (k6 : Int32 → Int32 → Int32 → Int32 → ST → Option (Int32 × ST)), (∀ (y2 : Int32) (y3 : Int32) (y4 : Int32) (y5 : Int32) (Sc : ST) (H : Heap) (locs : List Loc) (ls : Array Slot), va_P D vwCl ((kX3 cs ac  Sc) ++ ((kX4 cs ase (.ref (af 0)) (.ref (ac 0)) tv Se) ++ ((kX1 cs af  Fo)))) H → va_D A ((kX3 cs ac  Sc) ++ ((kX4 cs ase (.ref (af 0)) (.ref (ac 0)) tv Se) ++ ((kX1 cs af  Fo)))) → va_S A s.heap H locs → lv_has ls 8 [(0, .ref (ac 0)), (1, .ref (ase 0)), (2, .int y2), (3, .int y3), (4, .int y4), (5, .int y5)] → k6 y2 y3 y4 y5 Sc = some (r0, Scz) → W p l e rmX3_work s m [.ref (ac 0), .ref (ase 0), .int x2, .int x3].toArray below meth c H locs 0 0 Q (F0 m 6 ls [])) → ∀ (y2 : Int32) (y3 : Int32) (y4 : Int32) (y5 : Int32) (y6 : Int32) (Sc : ST) (H : Heap) (locs : List Loc) (ls : Array Slot), va_P D vwCl ((kX3 cs ac  Sc) ++ ((kX4 cs ase (.ref (af 0)) (.ref (ac 0)) tv Se) ++ ((kX1 cs af  Fo)))) H → va_D A ((kX3 cs ac  Sc) ++ ((kX4 cs ase (.ref (af 0)) (.ref (ac 0)) tv Se) ++ ((kX1 cs af  Fo)))) → va_S A s.heap H locs → lv_has ls 8 [(0, .ref (ac 0)), (1, .ref (ase 0)), (2, .int y2), (3, .int y3), (4, .int y4), (5, .int y5), (6, .int y6)] → fX3_work_132 Se Fo k6 y2 y3 y4 y5 y6 Sc = some (r0, Scz) → W p l e rmX3_work s m [.ref (ac 0), .ref (ase 0), .int x2, .int x3].toArray below meth c H locs 0 0 Q (F0 m 132 ls []) := by
    intro k6 hk6 y2 y3 y4 y5 y6 Sc H locs ls hP hD hS hl hf
    unfold fX3_work_132 at hf
    refine lv_iload hx hb dX3_work_132 (lv_at hl 4 rfl) ?_
    refine lv_iconst (v := 1) hx hb dX3_work_134 (by decide) ?_
    refine lv_icmp_lt (tgt := 229) hx hb dX3_work_135 (by decide) (fun hc22 => ?_) (fun hc22 => ?_)
    · have hf := ip_el hc22 hf
      obtain ⟨v23, hv23, hf⟩ := lt_el hf
      refine lv_iinc (v := v23) (lv' := [(5, .int v23), (0, .ref (ac 0)), (1, .ref (ase 0)), (2, .int y2), (3, .int y3), (4, .int y4), (6, .int y6)]) hx hb dX3_work_229 hl (k := 5) rfl (by rw [hv23]; rfl) (by decide) rfl (fun ls hl => ?_)
      refine lv_goto (tgt := 6) hx hb dX3_work_232 (by decide) ?_
      exact hk6 y2 y3 y4 v23 Sc _ _ _ hP hD hS (lv_sub hl [1, 2, 3, 4, 5, 0] rfl) hf
    · have hf := in_el hc22 hf
      refine lv_aload_n hx hb dX3_work_138 rfl (lv_at hl 0 rfl) ?_
      refine va_get (D := D) (ci := 3) (v := .ref (ac 2)) (C := RX3) (T := TX3) (N := 3) hx hb hu inX3 hown hK.1 hP 0 rfl rfl 1 (by decide) (hu _ q141) (fun _ h9 => h9) rfl dX3_work_139 ?_
      refine lv_iload hx hb dX3_work_142 (lv_at hl 4 rfl) ?_
      refine lv_iconst (v := 1) hx hb dX3_work_144 (by decide) ?_
      refine lv_isub hx hb dX3_work_145 ?_
      refine lv_iload hx hb dX3_work_146 (lv_at hl 6 rfl) ?_
      refine lv_bipush (v := 126) hx hb dX3_work_148 (by decide) ?_
      refine lv_icmp_ne (tgt := 166) hx hb dX3_work_150 (by decide) (fun hc24 => ?_) (fun hc24 => ?_)
      · have hf := in_el hc24 hf
        refine lv_aload_n hx hb dX3_work_166 rfl (lv_at hl 0 rfl) ?_
        refine va_get (D := D) (ci := 3) (v := .ref (ac 2)) (C := RX3) (T := TX3) (N := 3) hx hb hu inX3 hown hK.1 hP 0 rfl rfl 1 (by decide) (hu _ q141) (fun _ h9 => h9) rfl dX3_work_167 ?_
        refine lv_iload hx hb dX3_work_170 (lv_at hl 4 rfl) ?_
        refine lv_iconst (v := 1) hx hb dX3_work_172 (by decide) ?_
        refine lv_isub hx hb dX3_work_173 ?_
        obtain ⟨hi25, hf⟩ := ck_el hf
        refine va_iald hx hb hK.1 hP 2 0 rfl rfl hi25 dX3_work_174 ?_
        refine lv_if_ne (tgt := 182) hx hb dX3_work_175 (by decide) (fun hc26 => ?_) (fun hc26 => ?_)
        · have hf := in_el hc26 hf
          refine lv_iconst (v := 0) hx hb dX3_work_182 (by decide) ?_
          exact h183 k6 hk6 y2 y3 y4 y5 0 (y4 - 1) Sc _ _ _ hP hD hS (lv_sub hl [0, 1, 2, 3, 4, 5] rfl) hf
        · have hf := ip_el hc26 hf
          refine lv_iconst (v := 1) hx hb dX3_work_178 (by decide) ?_
          refine lv_goto (tgt := 183) hx hb dX3_work_179 (by decide) ?_
          exact h183 k6 hk6 y2 y3 y4 y5 1 (y4 - 1) Sc _ _ _ hP hD hS (lv_sub hl [0, 1, 2, 3, 4, 5] rfl) hf
      · have hf := ip_el hc24 hf
        refine lv_aload_n hx hb dX3_work_153 rfl (lv_at hl 0 rfl) ?_
        refine va_get (D := D) (ci := 3) (v := .ref (ac 2)) (C := RX3) (T := TX3) (N := 3) hx hb hu inX3 hown hK.1 hP 0 rfl rfl 1 (by decide) (hu _ q141) (fun _ h9 => h9) rfl dX3_work_154 ?_
        refine lv_iload hx hb dX3_work_157 (lv_at hl 4 rfl) ?_
        refine lv_iconst (v := 1) hx hb dX3_work_159 (by decide) ?_
        refine lv_isub hx hb dX3_work_160 ?_
        obtain ⟨hi32, hf⟩ := ck_el hf
        refine va_iald hx hb hK.1 hP 2 0 rfl rfl hi32 dX3_work_161 ?_
        refine lv_ineg hx hb dX3_work_162 ?_
        refine lv_goto (tgt := 186) hx hb dX3_work_163 (by decide) ?_
        obtain ⟨hi33, hf⟩ := ck_el hf
        obtain ⟨Sc_34, hSc_34, hf⟩ := lt_el hf
        refine va_iast hx hb hK.1 hP hD hS 2 0 rfl rfl hi33 dX3_work_186 (fun H locs hP hD hS => ?_)
        have hP : va_P D vwCl ((kX3 cs ac  Sc_34) ++ ((kX4 cs ase (.ref (af 0)) (.ref (ac 0)) tv Se) ++ ((kX1 cs af  Fo)))) H := by rw [hSc_34]; exact hP
        have hD : va_D A ((kX3 cs ac  Sc_34) ++ ((kX4 cs ase (.ref (af 0)) (.ref (ac 0)) tv Se) ++ ((kX1 cs af  Fo)))) := by rw [hSc_34]; exact hD
        refine lv_goto (tgt := 229) hx hb dX3_work_187 (by decide) ?_
        obtain ⟨v35, hv35, hf⟩ := lt_el hf
        refine lv_iinc (v := v35) (lv' := [(5, .int v35), (0, .ref (ac 0)), (1, .ref (ase 0)), (2, .int y2), (3, .int y3), (4, .int y4), (6, .int y6)]) hx hb dX3_work_229 hl (k := 5) rfl (by rw [hv35]; rfl) (by decide) rfl (fun ls hl => ?_)
        refine lv_goto (tgt := 6) hx hb dX3_work_232 (by decide) ?_
        exact hk6 y2 y3 y4 v35 Sc_34 _ _ _ hP hD hS (lv_sub hl [1, 2, 3, 4, 5, 0] rfl) hf
  have h61 : ∀ (k6 : Int32 → Int32 → Int32 → Int32 → ST → Option (Int32 × ST)), (∀ (y2 : Int32) (y3 : Int32) (y4 : Int32) (y5 : Int32) (Sc : ST) (H : Heap) (locs : List Loc) (ls : Array Slot), va_P D vwCl ((kX3 cs ac  Sc) ++ ((kX4 cs ase (.ref (af 0)) (.ref (ac 0)) tv Se) ++ ((kX1 cs af  Fo)))) H → va_D A ((kX3 cs ac  Sc) ++ ((kX4 cs ase (.ref (af 0)) (.ref (ac 0)) tv Se) ++ ((kX1 cs af  Fo)))) → va_S A s.heap H locs → lv_has ls 8 [(0, .ref (ac 0)), (1, .ref (ase 0)), (2, .int y2), (3, .int y3), (4, .int y4), (5, .int y5)] → k6 y2 y3 y4 y5 Sc = some (r0, Scz) → W p l e rmX3_work s m [.ref (ac 0), .ref (ase 0), .int x2, .int x3].toArray below meth c H locs 0 0 Q (F0 m 6 ls [])) → ∀ (y2 : Int32) (y3 : Int32) (y4 : Int32) (y5 : Int32) (y6 : Int32) (s0 : Int32) (Sc : ST) (H : Heap) (locs : List Loc) (ls : Array Slot), va_P D vwCl ((kX3 cs ac  Sc) ++ ((kX4 cs ase (.ref (af 0)) (.ref (ac 0)) tv Se) ++ ((kX1 cs af  Fo)))) H → va_D A ((kX3 cs ac  Sc) ++ ((kX4 cs ase (.ref (af 0)) (.ref (ac 0)) tv Se) ++ ((kX1 cs af  Fo)))) → va_S A s.heap H locs → lv_has ls 8 [(0, .ref (ac 0)), (1, .ref (ase 0)), (2, .int y2), (3, .int y3), (4, .int y4), (5, .int y5), (6, .int y6)] → fX3_work_61 Se Fo k6 y2 y3 y4 y5 y6 s0 Sc = some (r0, Scz) → W p l e rmX3_work s m [.ref (ac 0), .ref (ase 0), .int x2, .int x3].toArray below meth c H locs 0 0 Q (F0 m 61 ls [.int s0]) := by
    intro k6 hk6 y2 y3 y4 y5 y6 s0 Sc H locs ls hP hD hS hl hf
    unfold fX3_work_61 at hf
    refine lv_istore (lv' := [(7, .int s0), (0, .ref (ac 0)), (1, .ref (ase 0)), (2, .int y2), (3, .int y3), (4, .int y4), (5, .int y5), (6, .int y6)]) hx hb dX3_work_61 hl (by decide) rfl (fun ls hl => ?_)
    refine lv_iload hx hb dX3_work_63 (lv_at hl 7 rfl) ?_
    refine lv_bipush (v := 48) hx hb dX3_work_65 (by decide) ?_
    refine lv_icmp_eq (tgt := 75) hx hb dX3_work_67 (by decide) (fun hc5 => ?_) (fun hc5 => ?_)
    · have hf := ip_el hc5 hf
      exact h75 k6 hk6 y2 y3 y4 y5 y6 s0 Sc _ _ _ hP hD hS (lv_sub hl [1, 2, 3, 4, 5, 6, 7, 0] rfl) hf
    · have hf := in_el hc5 hf
      refine lv_iload hx hb dX3_work_70 (lv_at hl 0 rfl) ?_
      refine lv_if_eq (tgt := 118) hx hb dX3_work_72 (by decide) (fun hc20 => ?_) (fun hc20 => ?_)
      · have hf := ip_el hc20 hf
        refine lv_iload hx hb dX3_work_118 (lv_at hl 7 rfl) ?_
        refine lv_bipush (v := 33) hx hb dX3_work_120 (by decide) ?_
        refine lv_icmp_eq (tgt := 132) hx hb dX3_work_122 (by decide) (fun hc21 => ?_) (fun hc21 => ?_)
        · have hf := ip_el hc21 hf
          exact h132 k6 hk6 y2 y3 y4 y5 y6 Sc _ _ _ hP hD hS (lv_sub hl [1, 2, 3, 4, 5, 6, 7] rfl) hf
        · have hf := in_el hc21 hf
          refine lv_iload hx hb dX3_work_125 (lv_at hl 7 rfl) ?_
          refine lv_bipush (v := 126) hx hb dX3_work_127 (by decide) ?_
          refine lv_icmp_ne (tgt := 190) hx hb dX3_work_129 (by decide) (fun hc36 => ?_) (fun hc36 => ?_)
          · have hf := in_el hc36 hf
            refine lv_iload hx hb dX3_work_190 (lv_at hl 5 rfl) ?_
            refine lv_iconst (v := 2) hx hb dX3_work_192 (by decide) ?_
            refine lv_icmp_lt (tgt := 229) hx hb dX3_work_193 (by decide) (fun hc37 => ?_) (fun hc37 => ?_)
            · have hf := ip_el hc37 hf
              obtain ⟨v38, hv38, hf⟩ := lt_el hf
              refine lv_iinc (v := v38) (lv' := [(5, .int v38), (7, .int s0), (0, .ref (ac 0)), (1, .ref (ase 0)), (2, .int y2), (3, .int y3), (4, .int y4), (6, .int y6)]) hx hb dX3_work_229 hl (k := 6) rfl (by rw [hv38]; rfl) (by decide) rfl (fun ls hl => ?_)
              refine lv_goto (tgt := 6) hx hb dX3_work_232 (by decide) ?_
              exact hk6 y2 y3 y4 v38 Sc _ _ _ hP hD hS (lv_sub hl [2, 3, 4, 5, 6, 0] rfl) hf
            · have hf := in_el hc37 hf
              obtain ⟨v39, hv39, hf⟩ := lt_el hf
              refine lv_iinc (v := v39) (lv' := [(4, .int v39), (7, .int s0), (0, .ref (ac 0)), (1, .ref (ase 0)), (2, .int y2), (3, .int y3), (5, .int y5), (6, .int y6)]) hx hb dX3_work_196 hl (k := 5) rfl (by rw [hv39]; rfl) (by decide) rfl (fun ls hl => ?_)
              refine lv_aload_n hx hb dX3_work_199 rfl (lv_at hl 2 rfl) ?_
              refine va_get (D := D) (ci := 3) (v := .ref (ac 2)) (C := RX3) (T := TX3) (N := 3) hx hb hu inX3 hown hK.1 hP 0 rfl rfl 1 (by decide) (hu _ q141) (fun _ h9 => h9) rfl dX3_work_200 ?_
              refine lv_iload hx hb dX3_work_203 (lv_at hl 0 rfl) ?_
              refine lv_iconst (v := 1) hx hb dX3_work_205 (by decide) ?_
              refine lv_isub hx hb dX3_work_206 ?_
              refine lv_iload hx hb dX3_work_207 (lv_at hl 7 rfl) ?_
              refine lv_aload_n hx hb dX3_work_209 rfl (lv_at hl 2 rfl) ?_
              refine va_get (D := D) (ci := 3) (v := .ref (ac 2)) (C := RX3) (T := TX3) (N := 3) hx hb hu inX3 hown hK.1 hP 0 rfl rfl 1 (by decide) (hu _ q141) (fun _ h9 => h9) rfl dX3_work_210 ?_
              refine lv_iload hx hb dX3_work_213 (lv_at hl 0 rfl) ?_
              refine lv_iconst (v := 1) hx hb dX3_work_215 (by decide) ?_
              refine lv_isub hx hb dX3_work_216 ?_
              obtain ⟨hi40, hf⟩ := ck_el hf
              refine va_iald hx hb hK.1 hP 2 0 rfl rfl hi40 dX3_work_217 ?_
              refine lv_aload_n hx hb dX3_work_218 rfl (lv_at hl 2 rfl) ?_
              refine va_get (D := D) (ci := 3) (v := .ref (ac 2)) (C := RX3) (T := TX3) (N := 3) hx hb hu inX3 hown hK.1 hP 0 rfl rfl 1 (by decide) (hu _ q141) (fun _ h9 => h9) rfl dX3_work_219 ?_
              refine lv_iload hx hb dX3_work_222 (lv_at hl 0 rfl) ?_
              obtain ⟨hi41, hf⟩ := ck_el hf
              refine va_iald hx hb hK.1 hP 2 0 rfl rfl hi41 dX3_work_224 ?_
              obtain ⟨r42, hg43, hf⟩ := b1_el hf
              refine cc_S0 (st1 := [.int r42, .int (v39 - 1), .ref (ac 2)]) [.int y6, .int (Sc 2 (Int32.toNatClampNeg (v39 - 1))), .int (Sc 2 (Int32.toNatClampNeg v39))] hx hb hml hown hu (tX3_join l D cs y6 (Sc 2 (Int32.toNatClampNeg (v39 - 1))) (Sc 2 (Int32.toNatClampNeg v39)) r42 hg43) q420 q57 q418 q419 pdX3_join ⟨rfl, rfl, Nat.le_of_ble_eq_true rfl, Nat.le_of_ble_eq_true rfl⟩ hK hZ hP hD hS hA rfl hl.1 rfl (Nat.le_of_ble_eq_true rfl) dX3_work_225 rfl (fun H locs hP hD hS => ?_)
              obtain ⟨hi44, hf⟩ := ck_el hf
              obtain ⟨Sc_45, hSc_45, hf⟩ := lt_el hf
              refine va_iast hx hb hK.1 hP hD hS 2 0 rfl rfl hi44 dX3_work_228 (fun H locs hP hD hS => ?_)
              have hP : va_P D vwCl ((kX3 cs ac  Sc_45) ++ ((kX4 cs ase (.ref (af 0)) (.ref (ac 0)) tv Se) ++ ((kX1 cs af  Fo)))) H := by rw [hSc_45]; exact hP
              have hD : va_D A ((kX3 cs ac  Sc_45) ++ ((kX4 cs ase (.ref (af 0)) (.ref (ac 0)) tv Se) ++ ((kX1 cs af  Fo)))) := by rw [hSc_45]; exact hD
              obtain ⟨v46, hv46, hf⟩ := lt_el hf
              refine lv_iinc (v := v46) (lv' := [(5, .int v46), (4, .int v39), (7, .int s0), (0, .ref (ac 0)), (1, .ref (ase 0)), (2, .int y2), (3, .int y3), (6, .int y6)]) hx hb dX3_work_229 hl (k := 6) rfl (by rw [hv46]; rfl) (by decide) rfl (fun ls hl => ?_)
              refine lv_goto (tgt := 6) hx hb dX3_work_232 (by decide) ?_
              exact hk6 y2 y3 v39 v46 Sc_45 _ _ _ hP hD hS (lv_sub hl [3, 4, 5, 6, 1, 0] rfl) hf
          · have hf := ip_el hc36 hf
            exact h132 k6 hk6 y2 y3 y4 y5 y6 Sc _ _ _ hP hD hS (lv_sub hl [1, 2, 3, 4, 5, 6, 7] rfl) hf
      · have hf := in_el hc20 hf
        exact h75 k6 hk6 y2 y3 y4 y5 y6 s0 Sc _ _ _ hP hD hS (lv_sub hl [1, 2, 3, 4, 5, 6, 7, 0] rfl) hf
  have h40 : ∀ (k6 : Int32 → Int32 → Int32 → Int32 → ST → Option (Int32 × ST)), (∀ (y2 : Int32) (y3 : Int32) (y4 : Int32) (y5 : Int32) (Sc : ST) (H : Heap) (locs : List Loc) (ls : Array Slot), va_P D vwCl ((kX3 cs ac  Sc) ++ ((kX4 cs ase (.ref (af 0)) (.ref (ac 0)) tv Se) ++ ((kX1 cs af  Fo)))) H → va_D A ((kX3 cs ac  Sc) ++ ((kX4 cs ase (.ref (af 0)) (.ref (ac 0)) tv Se) ++ ((kX1 cs af  Fo)))) → va_S A s.heap H locs → lv_has ls 8 [(0, .ref (ac 0)), (1, .ref (ase 0)), (2, .int y2), (3, .int y3), (4, .int y4), (5, .int y5)] → k6 y2 y3 y4 y5 Sc = some (r0, Scz) → W p l e rmX3_work s m [.ref (ac 0), .ref (ase 0), .int x2, .int x3].toArray below meth c H locs 0 0 Q (F0 m 6 ls [])) → ∀ (y2 : Int32) (y3 : Int32) (y4 : Int32) (y5 : Int32) (s0 : Int32) (Sc : ST) (H : Heap) (locs : List Loc) (ls : Array Slot), va_P D vwCl ((kX3 cs ac  Sc) ++ ((kX4 cs ase (.ref (af 0)) (.ref (ac 0)) tv Se) ++ ((kX1 cs af  Fo)))) H → va_D A ((kX3 cs ac  Sc) ++ ((kX4 cs ase (.ref (af 0)) (.ref (ac 0)) tv Se) ++ ((kX1 cs af  Fo)))) → va_S A s.heap H locs → lv_has ls 8 [(0, .ref (ac 0)), (1, .ref (ase 0)), (2, .int y2), (3, .int y3), (4, .int y4), (5, .int y5)] → fX3_work_40 Se Fo k6 y2 y3 y4 y5 s0 Sc = some (r0, Scz) → W p l e rmX3_work s m [.ref (ac 0), .ref (ase 0), .int x2, .int x3].toArray below meth c H locs 0 0 Q (F0 m 40 ls [.int s0]) := by
    intro k6 hk6 y2 y3 y4 y5 s0 Sc H locs ls hP hD hS hl hf
    unfold fX3_work_40 at hf
    refine lv_istore (lv' := [(6, .int s0), (0, .ref (ac 0)), (1, .ref (ase 0)), (2, .int y2), (3, .int y3), (4, .int y4), (5, .int y5)]) hx hb dX3_work_40 hl (by decide) rfl (fun ls hl => ?_)
    refine lv_iload hx hb dX3_work_42 (lv_at hl 0 rfl) ?_
    refine lv_bipush (v := 97) hx hb dX3_work_44 (by decide) ?_
    refine lv_icmp_lt (tgt := 60) hx hb dX3_work_46 (by decide) (fun hc4 => ?_) (fun hc4 => ?_)
    · have hf := ip_el hc4 hf
      refine lv_iconst (v := 0) hx hb dX3_work_60 (by decide) ?_
      exact h61 k6 hk6 y2 y3 y4 y5 s0 0 Sc _ _ _ hP hD hS (lv_sub hl [1, 2, 3, 4, 5, 6, 0] rfl) hf
    · have hf := in_el hc4 hf
      refine lv_iload hx hb dX3_work_49 (lv_at hl 0 rfl) ?_
      refine lv_bipush (v := 122) hx hb dX3_work_51 (by decide) ?_
      refine lv_icmp_gt (tgt := 60) hx hb dX3_work_53 (by decide) (fun hc47 => ?_) (fun hc47 => ?_)
      · have hf := ip_el hc47 hf
        refine lv_iconst (v := 0) hx hb dX3_work_60 (by decide) ?_
        exact h61 k6 hk6 y2 y3 y4 y5 s0 0 Sc _ _ _ hP hD hS (lv_sub hl [1, 2, 3, 4, 5, 6, 0] rfl) hf
      · have hf := in_el hc47 hf
        refine lv_iconst (v := 1) hx hb dX3_work_56 (by decide) ?_
        refine lv_goto (tgt := 61) hx hb dX3_work_57 (by decide) ?_
        exact h61 k6 hk6 y2 y3 y4 y5 s0 1 Sc _ _ _ hP hD hS (lv_sub hl [1, 2, 3, 4, 5, 6, 0] rfl) hf
  have hs6 : ∀ (k6 : Int32 → Int32 → Int32 → Int32 → ST → Option (Int32 × ST)), (∀ (y2 : Int32) (y3 : Int32) (y4 : Int32) (y5 : Int32) (Sc : ST) (H : Heap) (locs : List Loc) (ls : Array Slot), va_P D vwCl ((kX3 cs ac  Sc) ++ ((kX4 cs ase (.ref (af 0)) (.ref (ac 0)) tv Se) ++ ((kX1 cs af  Fo)))) H → va_D A ((kX3 cs ac  Sc) ++ ((kX4 cs ase (.ref (af 0)) (.ref (ac 0)) tv Se) ++ ((kX1 cs af  Fo)))) → va_S A s.heap H locs → lv_has ls 8 [(0, .ref (ac 0)), (1, .ref (ase 0)), (2, .int y2), (3, .int y3), (4, .int y4), (5, .int y5)] → k6 y2 y3 y4 y5 Sc = some (r0, Scz) → W p l e rmX3_work s m [.ref (ac 0), .ref (ase 0), .int x2, .int x3].toArray below meth c H locs 0 0 Q (F0 m 6 ls [])) → ∀ (y2 : Int32) (y3 : Int32) (y4 : Int32) (y5 : Int32) (Sc : ST) (H : Heap) (locs : List Loc) (ls : Array Slot), va_P D vwCl ((kX3 cs ac  Sc) ++ ((kX4 cs ase (.ref (af 0)) (.ref (ac 0)) tv Se) ++ ((kX1 cs af  Fo)))) H → va_D A ((kX3 cs ac  Sc) ++ ((kX4 cs ase (.ref (af 0)) (.ref (ac 0)) tv Se) ++ ((kX1 cs af  Fo)))) → va_S A s.heap H locs → lv_has ls 8 [(0, .ref (ac 0)), (1, .ref (ase 0)), (2, .int y2), (3, .int y3), (4, .int y4), (5, .int y5)] → fX3_work_6_s Se Fo k6 y2 y3 y4 y5 Sc = some (r0, Scz) → W p l e rmX3_work s m [.ref (ac 0), .ref (ase 0), .int x2, .int x3].toArray below meth c H locs 0 0 Q (F0 m 6 ls []) := by
    intro k6 hk6 y2 y3 y4 y5 Sc H locs ls hP hD hS hl hf
    unfold fX3_work_6_s at hf
    refine lv_iload hx hb dX3_work_6 (lv_at hl 5 rfl) ?_
    refine lv_aload_n hx hb dX3_work_8 rfl (lv_at hl 0 rfl) ?_
    refine va_get (D := D) (ci := 3) (v := .int (Sc 0 2)) (C := RX3) (T := TX3) (N := 3) hx hb hu inX3 hown hK.1 hP 0 rfl rfl 2 (by decide) (hu _ q142) (fun _ h9 => h9) rfl dX3_work_9 ?_
    refine lv_icmp_ge (tgt := 235) hx hb dX3_work_12 (by decide) (fun hc1 => ?_) (fun hc1 => ?_)
    · have hf := ip_el hc1 hf
      refine lv_aload_n hx hb dX3_work_235 rfl (lv_at hl 0 rfl) ?_
      refine va_get (D := D) (ci := 3) (v := .ref (ac 2)) (C := RX3) (T := TX3) (N := 3) hx hb hu inX3 hown hK.1 hP 0 rfl rfl 1 (by decide) (hu _ q141) (fun _ h9 => h9) rfl dX3_work_236 ?_
      refine lv_iconst (v := 0) hx hb dX3_work_239 (by decide) ?_
      refine ia_lit hx hb hK hP 2 0 rfl (by decide) dX3_work_240 ?_
      have he := Option.some.inj hf
      obtain ⟨e0, e1⟩ := Prod.mk.inj he
      exact hri _ _ _ rfl (congrArg (fun z => some (Value.int z)) e0.symm) dX3_work_241 _ _ _ (by rw [e1]) hP hD hS
    · have hf := in_el hc1 hf
      refine lv_aload_n hx hb dX3_work_15 rfl (lv_at hl 0 rfl) ?_
      refine va_get (D := D) (ci := 3) (v := .ref (ac 1)) (C := RX3) (T := TX3) (N := 3) hx hb hu inX3 hown hK.1 hP 0 rfl rfl 0 (by decide) (hu _ q140) (fun _ h9 => h9) rfl dX3_work_16 ?_
      refine lv_iload hx hb dX3_work_19 (lv_at hl 5 rfl) ?_
      obtain ⟨hi2, hf⟩ := ck_el hf
      refine va_iald hx hb hK.1 hP 1 0 rfl rfl hi2 dX3_work_21 ?_
      refine lv_if_ge (tgt := 38) hx hb dX3_work_22 (by decide) (fun hc3 => ?_) (fun hc3 => ?_)
      · have hf := ip_el hc3 hf
        refine lv_bipush (v := 48) hx hb dX3_work_38 (by decide) ?_
        exact h40 k6 hk6 y2 y3 y4 y5 48 Sc _ _ _ hP hD hS (lv_sub hl [0, 1, 2, 3, 4, 5] rfl) hf
      · have hf := in_el hc3 hf
        refine lv_iconst (v := (-1)) hx hb dX3_work_25 (by decide) ?_
        refine lv_aload_n hx hb dX3_work_26 rfl (lv_at hl 0 rfl) ?_
        refine va_get (D := D) (ci := 3) (v := .ref (ac 1)) (C := RX3) (T := TX3) (N := 3) hx hb hu inX3 hown hK.1 hP 0 rfl rfl 0 (by decide) (hu _ q140) (fun _ h9 => h9) rfl dX3_work_27 ?_
        refine lv_iload hx hb dX3_work_30 (lv_at hl 5 rfl) ?_
        obtain ⟨hi48, hf⟩ := ck_el hf
        refine va_iald hx hb hK.1 hP 1 0 rfl rfl hi48 dX3_work_32 ?_
        refine lv_isub hx hb dX3_work_33 ?_
        refine lv_i2c (v := ((((-1) - (Sc 1 (Int32.toNatClampNeg y5))).toUInt32 % 65536).toInt32)) hx hb dX3_work_34 rfl ?_
        refine lv_goto (tgt := 40) hx hb dX3_work_35 (by decide) ?_
        exact h40 k6 hk6 y2 y3 y4 y5 ((((-1) - (Sc 1 (Int32.toNatClampNeg y5))).toUInt32 % 65536).toInt32) Sc _ _ _ hP hD hS (lv_sub hl [0, 1, 2, 3, 4, 5] rfl) hf
  have h6 : ∀ (n : Nat), ∀ (y2 : Int32) (y3 : Int32) (y4 : Int32) (y5 : Int32) (Sc : ST) (H : Heap) (locs : List Loc) (ls : Array Slot), va_P D vwCl ((kX3 cs ac  Sc) ++ ((kX4 cs ase (.ref (af 0)) (.ref (ac 0)) tv Se) ++ ((kX1 cs af  Fo)))) H → va_D A ((kX3 cs ac  Sc) ++ ((kX4 cs ase (.ref (af 0)) (.ref (ac 0)) tv Se) ++ ((kX1 cs af  Fo)))) → va_S A s.heap H locs → lv_has ls 8 [(0, .ref (ac 0)), (1, .ref (ase 0)), (2, .int y2), (3, .int y3), (4, .int y4), (5, .int y5)] → fX3_work_6 Se Fo n y2 y3 y4 y5 Sc = some (r0, Scz) → W p l e rmX3_work s m [.ref (ac 0), .ref (ase 0), .int x2, .int x3].toArray below meth c H locs 0 0 Q (F0 m 6 ls []) := by
    intro n
    induction n with
    | zero => intro y2 y3 y4 y5 Sc H locs ls hP hD hS hl hf; exact no_el hf
    | succ n ih => intro y2 y3 y4 y5 Sc H locs ls hP hD hS hl hf; exact hs6 _ ih y2 y3 y4 y5 Sc _ _ _ hP hD hS hl hf
  have hl : lv_has ls0 8 [(0, .ref (ac 0)), (1, .ref (ase 0)), (2, .int x2), (3, .int x3)] := hl0
  have hP := hP0
  have hD := hD0
  have hS := hS0
  unfold fX3_work at hf
  refine lv_iconst (v := 0) hx hb dX3_work_0 (by decide) ?_
  refine lv_istore (lv' := [(4, .int 0), (0, .ref (ac 0)), (1, .ref (ase 0)), (2, .int x2), (3, .int x3)]) hx hb dX3_work_1 hl (by decide) rfl (fun ls hl => ?_)
  refine lv_iconst (v := 0) hx hb dX3_work_3 (by decide) ?_
  refine lv_istore (lv' := [(5, .int 0), (4, .int 0), (0, .ref (ac 0)), (1, .ref (ase 0)), (2, .int x2), (3, .int x3)]) hx hb dX3_work_4 hl (by decide) rfl (fun ls hl => ?_)
  exact h6 400 x2 x3 0 0 Sc _ _ _ hP hD hS (lv_sub hl [2, 3, 4, 5, 1, 0] rfl) hf

def fX4_measure_q_82 (Se : ST) (Fo : ST) (y2 : Int32) (y3 : Int32) (Sc : ST) : Option (Int32 × ST) :=
  dc_ck ((y2 * 10) + y3) 100 (some ((Fo 7 (Int32.toNatClampNeg ((y2 * 10) + y3))), Sc))
def fX4_measure_q (x1 : Int32) (x2 : Int32) (x3 : Int32) (x4 : Int32) (Se : ST) (Fo : ST) (Sc : ST) : Option (Int32 × ST) :=
  (if x1 = 2 then dc_ck ((x2 * 10) + x3) 100 (some ((-(Fo 7 (Int32.toNatClampNeg ((x2 * 10) + x3)))), Sc)) else if x1 = 3 then dc_ck x3 10 (some ((Fo 3 (Int32.toNatClampNeg x3)), Sc)) else if x1 = 4 then fX4_measure_q_82 Se Fo x2 x3 Sc else if x1 = 5 then dc_b2 (fX3_work x2 x3 Sc Se Fo) (fun r8 Sc_9 => some (r8, Sc_9)) else if x1 = 6 then none else fX4_measure_q_82 Se Fo x2 x3 Sc)
abbrev rmX4_measure_q : Room := { frames := 3, cells := 0, slots := 0, locals := 73 }
set_option maxRecDepth 100000 in
set_option maxHeartbeats 4000000 in
theorem tX4_measure_q (l : Launch) (D : va_G) (cs : Nat → ClassId) (ase : Nat → Nat) (af : Nat → Nat) (ac : Nat → Nat) (tv : Value) (x1 : Int32) (x2 : Int32) (x3 : Int32) (x4 : Int32) (Se : ST) (Fo : ST) (Sc : ST) (r0 : Int32) (Scz : ST) (hf : fX4_measure_q x1 x2 x3 x4 Se Fo Sc = some (r0, Scz)) : CG l yX4_measure (wsm yX4_measure cX4_measure 5 (some .int)) rmX4_measure_q D cs [.ref (ase 0), .int x1, .int x2, .int x3, .int x4] (some (.int r0)) ((kX4 cs ase (.ref (af 0)) (.ref (ac 0)) tv Se) ++ ((kX1 cs af  Fo) ++ ((kX3 cs ac  Sc)))) ((kX4 cs ase (.ref (af 0)) (.ref (ac 0)) tv Se) ++ ((kX1 cs af  Fo) ++ ((kX3 cs ac  Scz)))) := by
  refine CG.intro (by decide) (Nat.le_of_ble_eq_true rfl) ?_
  intro p e s m below meth c A Q hx hb hml hown hu hK hZ hP0 hD0 hS0 hA hri hrz hrl hrv hra ls0 hl0
  have h82 : ∀ (y2 : Int32) (y3 : Int32) (Sc : ST) (H : Heap) (locs : List Loc) (ls : Array Slot), va_P D vwCl ((kX4 cs ase (.ref (af 0)) (.ref (ac 0)) tv Se) ++ ((kX1 cs af  Fo) ++ ((kX3 cs ac  Sc)))) H → va_D A ((kX4 cs ase (.ref (af 0)) (.ref (ac 0)) tv Se) ++ ((kX1 cs af  Fo) ++ ((kX3 cs ac  Sc)))) → va_S A s.heap H locs → lv_has ls 5 [(0, .ref (ase 0)), (2, .int y2), (3, .int y3)] → fX4_measure_q_82 Se Fo y2 y3 Sc = some (r0, Scz) → W p l e rmX4_measure_q s m [.ref (ase 0), .int x1, .int x2, .int x3, .int x4].toArray below meth c H locs 0 0 Q (F0 m 82 ls []) := by
    intro y2 y3 Sc H locs ls hP hD hS hl hf
    unfold fX4_measure_q_82 at hf
    refine lv_aload_n hx hb dX4_measure_82 rfl (lv_at hl 0 rfl) ?_
    refine va_get (D := D) (ci := 4) (v := .ref (af 0)) (C := RX4) (T := TX4) (N := 10) hx hb hu inX4 hown hK.1 hP 0 rfl rfl 0 (by decide) (hu _ q158) (fun _ h9 => h9) rfl dX4_measure_83 ?_
    refine va_get (D := D) (ci := 1) (v := .ref (af 7)) (C := RX1) (T := TX1) (N := 9) hx hb hu inX1 hown hK.1 hP 4 rfl rfl 6 (by decide) (hu _ q108) (fun _ h9 => h9) rfl dX4_measure_86 ?_
    refine lv_iload_n hx hb dX4_measure_89 rfl (lv_at hl 1 rfl) ?_
    refine lv_bipush (v := 10) hx hb dX4_measure_90 (by decide) ?_
    refine lv_imul hx hb dX4_measure_92 ?_
    refine lv_iload_n hx hb dX4_measure_93 rfl (lv_at hl 2 rfl) ?_
    refine lv_iadd hx hb dX4_measure_94 ?_
    obtain ⟨hi6, hf⟩ := ck_el hf
    refine va_iald hx hb hK.1 hP 9 0 rfl rfl hi6 dX4_measure_95 ?_
    have he := Option.some.inj hf
    obtain ⟨e0, e1⟩ := Prod.mk.inj he
    exact hri _ _ _ rfl (congrArg (fun z => some (Value.int z)) e0.symm) dX4_measure_96 _ _ _ (by rw [e1]) hP hD hS
  have hl : lv_has ls0 5 [(0, .ref (ase 0)), (1, .int x1), (2, .int x2), (3, .int x3), (4, .int x4)] := hl0
  have hP := hP0
  have hD := hD0
  have hS := hS0
  unfold fX4_measure_q at hf
  refine lv_iload_n hx hb dX4_measure_0 rfl (lv_at hl 1 rfl) ?_
  by_cases hc1 : x1 = 2
  · have hf := ip_el hc1 hf
    refine lv_tableIn (off := 35) (tgt := 36) hx hb dX4_measure_1 (by rw [hc1]; decide) (by rw [hc1]; decide) (by rw [hc1]; decide) (by decide) ?_
    refine lv_aload_n hx hb dX4_measure_36 rfl (lv_at hl 0 rfl) ?_
    refine va_get (D := D) (ci := 4) (v := .ref (af 0)) (C := RX4) (T := TX4) (N := 10) hx hb hu inX4 hown hK.1 hP 0 rfl rfl 0 (by decide) (hu _ q158) (fun _ h9 => h9) rfl dX4_measure_37 ?_
    refine va_get (D := D) (ci := 1) (v := .ref (af 7)) (C := RX1) (T := TX1) (N := 9) hx hb hu inX1 hown hK.1 hP 4 rfl rfl 6 (by decide) (hu _ q108) (fun _ h9 => h9) rfl dX4_measure_40 ?_
    refine lv_iload_n hx hb dX4_measure_43 rfl (lv_at hl 2 rfl) ?_
    refine lv_bipush (v := 10) hx hb dX4_measure_44 (by decide) ?_
    refine lv_imul hx hb dX4_measure_46 ?_
    refine lv_iload_n hx hb dX4_measure_47 rfl (lv_at hl 3 rfl) ?_
    refine lv_iadd hx hb dX4_measure_48 ?_
    obtain ⟨hi2, hf⟩ := ck_el hf
    refine va_iald hx hb hK.1 hP 9 0 rfl rfl hi2 dX4_measure_49 ?_
    refine lv_ineg hx hb dX4_measure_50 ?_
    have he := Option.some.inj hf
    obtain ⟨e0, e1⟩ := Prod.mk.inj he
    exact hri _ _ _ rfl (congrArg (fun z => some (Value.int z)) e0.symm) dX4_measure_51 _ _ _ (by rw [e1]) hP hD hS
  have hf := in_el hc1 hf
  by_cases hc3 : x1 = 3
  · have hf := ip_el hc3 hf
    refine lv_tableIn (off := 51) (tgt := 52) hx hb dX4_measure_1 (by rw [hc3]; decide) (by rw [hc3]; decide) (by rw [hc3]; decide) (by decide) ?_
    refine lv_aload_n hx hb dX4_measure_52 rfl (lv_at hl 0 rfl) ?_
    refine va_get (D := D) (ci := 4) (v := .ref (af 0)) (C := RX4) (T := TX4) (N := 10) hx hb hu inX4 hown hK.1 hP 0 rfl rfl 0 (by decide) (hu _ q158) (fun _ h9 => h9) rfl dX4_measure_53 ?_
    refine va_get (D := D) (ci := 1) (v := .ref (af 3)) (C := RX1) (T := TX1) (N := 9) hx hb hu inX1 hown hK.1 hP 4 rfl rfl 2 (by decide) (hu _ q99) (fun _ h9 => h9) rfl dX4_measure_56 ?_
    refine lv_iload_n hx hb dX4_measure_59 rfl (lv_at hl 3 rfl) ?_
    obtain ⟨hi4, hf⟩ := ck_el hf
    refine va_iald hx hb hK.1 hP 6 0 rfl rfl hi4 dX4_measure_60 ?_
    have he := Option.some.inj hf
    obtain ⟨e0, e1⟩ := Prod.mk.inj he
    exact hri _ _ _ rfl (congrArg (fun z => some (Value.int z)) e0.symm) dX4_measure_61 _ _ _ (by rw [e1]) hP hD hS
  have hf := in_el hc3 hf
  by_cases hc5 : x1 = 4
  · have hf := ip_el hc5 hf
    refine lv_tableIn (off := 81) (tgt := 82) hx hb dX4_measure_1 (by rw [hc5]; decide) (by rw [hc5]; decide) (by rw [hc5]; decide) (by decide) ?_
    exact h82 x2 x3 Sc _ _ _ hP hD hS (lv_sub hl [0, 2, 3] rfl) hf
  have hf := in_el hc5 hf
  by_cases hc7 : x1 = 5
  · have hf := ip_el hc7 hf
    refine lv_tableIn (off := 61) (tgt := 62) hx hb dX4_measure_1 (by rw [hc7]; decide) (by rw [hc7]; decide) (by rw [hc7]; decide) (by decide) ?_
    refine lv_aload_n hx hb dX4_measure_62 rfl (lv_at hl 0 rfl) ?_
    refine va_get (D := D) (ci := 4) (v := .ref (ac 0)) (C := RX4) (T := TX4) (N := 10) hx hb hu inX4 hown hK.1 hP 0 rfl rfl 1 (by decide) (hu _ q159) (fun _ h9 => h9) rfl dX4_measure_63 ?_
    refine lv_aload_n hx hb dX4_measure_66 rfl (lv_at hl 0 rfl) ?_
    refine lv_iload_n hx hb dX4_measure_67 rfl (lv_at hl 2 rfl) ?_
    refine lv_iload_n hx hb dX4_measure_68 rfl (lv_at hl 3 rfl) ?_
    obtain ⟨r8, Sc_9, hg10, hf⟩ := b2_el hf
    refine cc_V (w' := ((kX4 cs ase (.ref (af 0)) (.ref (ac 0)) tv Se) ++ ((kX1 cs af  Fo) ++ ((kX3 cs ac  Sc_9))))) (wr := ([] : va_W)) (st1 := [.int r8]) [.ref (ase 0), .int x2, .int x3] hx hb hml hown hu (tX3_work l D cs ac ase af tv x2 x3 Sc Se Fo r8 Sc_9 hg10) q406 q57 q403 q404 q405 pdX3_work ⟨rfl, rfl, Nat.le_of_ble_eq_true rfl, Nat.le_of_ble_eq_true rfl⟩ hK hZ hP hD hS hA [11, 12, 13, 0, 1, 2, 3, 4, 5, 6, 7, 8, 9, 10] [] [3, 4, 5, 6, 7, 8, 9, 10, 11, 12, 13, 0, 1, 2] rfl rfl rfl rfl rfl rfl rfl rfl rfl rfl hl.1 rfl (Nat.le_of_ble_eq_true rfl) dX4_measure_69 rfl (fun H locs hP hD hS => ?_)
    have he := Option.some.inj hf
    obtain ⟨e0, e1⟩ := Prod.mk.inj he
    exact hri _ _ _ rfl (congrArg (fun z => some (Value.int z)) e0.symm) dX4_measure_72 _ _ _ (by rw [e1]) hP hD hS
  have hf := in_el hc7 hf
  by_cases hc11 : x1 = 6
  · have hf := ip_el hc11 hf
    refine lv_tableIn (off := 72) (tgt := 73) hx hb dX4_measure_1 (by rw [hc11]; decide) (by rw [hc11]; decide) (by rw [hc11]; decide) (by decide) ?_
    refine lv_aload_n hx hb dX4_measure_73 rfl (lv_at hl 0 rfl) ?_
    refine lv_iload_n hx hb dX4_measure_74 rfl (lv_at hl 2 rfl) ?_
    refine lv_iload_n hx hb dX4_measure_75 rfl (lv_at hl 3 rfl) ?_
    refine lv_iload hx hb dX4_measure_76 (lv_at hl 4 rfl) ?_
    exact no_el hf
  have hf := in_el hc11 hf
  have nhc1 := sw_ne (a := 2) hc1 (by decide)
  have nhc3 := sw_ne (a := 3) hc3 (by decide)
  have nhc5 := sw_ne (a := 4) hc5 (by decide)
  have nhc7 := sw_ne (a := 5) hc7 (by decide)
  have nhc11 := sw_ne (a := 6) hc11 (by decide)
  refine lv_tableOut (tgt := 82) hx hb dX4_measure_1 (by omega) (by decide) ?_
  exact h82 x2 x3 Sc _ _ _ hP hD hS (lv_sub hl [0, 2, 3] rfl) hf

def fX4_choice_q_128_s (Se : ST) (Fo : ST) (k128 : Int32 → Int32 → Int32 → Int32 → Int32 → Int32 → Int32 → ST → Option (Int32 × ST)) (y2 : Int32) (y3 : Int32) (y5 : Int32) (y6 : Int32) (y7 : Int32) (y8 : Int32) (y9 : Int32) (Sc : ST) : Option (Int32 × ST) :=
  (if (Fo 0 0) ≤ y9 then some (y7, Sc) else dc_b1 (fX7_isIn y3 y9) (fun r15 => (if r15 = 0 then dc_lt (y9 + 1) (fun v18 => k128 y2 y3 y5 y6 y7 y8 v18 Sc) else dc_b2 (fX4_measure_q y5 y6 y9 y2 Se Fo Sc) (fun r19 Sc_20 => (if y7 = (-1) then dc_lt (y9 + 1) (fun v23 => k128 y2 y3 y5 y6 y9 r19 v23 Sc_20) else (if r19 ≤ y8 then dc_lt (y9 + 1) (fun v25 => k128 y2 y3 y5 y6 y7 y8 v25 Sc_20) else dc_lt (y9 + 1) (fun v26 => k128 y2 y3 y5 y6 y9 r19 v26 Sc_20)))))))
def fX4_choice_q_128 (Se : ST) (Fo : ST) : Nat → Int32 → Int32 → Int32 → Int32 → Int32 → Int32 → Int32 → ST → Option (Int32 × ST)
  | 0 => fun _ _ _ _ _ _ _ _ => none
  | n + 1 => fX4_choice_q_128_s Se Fo (fX4_choice_q_128 Se Fo n)
def fX4_choice_q_117 (Se : ST) (Fo : ST) (y2 : Int32) (y3 : Int32) (y5 : Int32) (s0 : Int32) (Sc : ST) : Option (Int32 × ST) :=
  fX4_choice_q_128 Se Fo 400 y2 y3 y5 s0 (-1) 0 0 Sc
def fX4_choice_q_109 (Se : ST) (Fo : ST) (y2 : Int32) (y3 : Int32) (y5 : Int32) (Sc : ST) : Option (Int32 × ST) :=
  dc_b1 (fX4_firstNamed Se) (fun r12 => fX4_choice_q_117 Se Fo y2 y3 y5 r12 Sc)
def fX4_choice_q_97 (Se : ST) (Fo : ST) (y1 : Int32) (y2 : Int32) (y3 : Int32) (y5 : Int32) (Sc : ST) : Option (Int32 × ST) :=
  (if y5 = 1 then fX4_choice_q_109 Se Fo y2 y3 y5 Sc else (if y5 = 2 then fX4_choice_q_109 Se Fo y2 y3 y5 Sc else fX4_choice_q_117 Se Fo y2 y3 y5 y1 Sc))
def fX4_choice_q_37 (Se : ST) (Fo : ST) (y1 : Int32) (y2 : Int32) (y3 : Int32) (s0 : Int32) (Sc : ST) : Option (Int32 × ST) :=
  dc_b1 (fX7_isIn y3 s0) (fun r5 => (if r5 = 0 then dc_b1 (fX4_wayOf y1 y2 Se Fo Sc) (fun r8 => (if r8 = 4 then dc_ck y1 10 (dc_b1 (fX1_ofSort (Fo 4 (Int32.toNatClampNeg y1)) Fo) (fun r29 => dc_lt (y3 &&& r29) (fun v31 => (if v31 = 0 then fX4_choice_q_97 Se Fo y1 y2 y3 r8 Sc else fX4_choice_q_97 Se Fo y1 y2 v31 r8 Sc)))) else fX4_choice_q_97 Se Fo y1 y2 y3 r8 Sc)) else some (s0, Sc)))
def fX4_choice_q (x1 : Int32) (x2 : Int32) (Se : ST) (Fo : ST) (Sc : ST) : Option (Int32 × ST) :=
  dc_b1 (fX4_allowed x1 Se Fo) (fun r1 => (if x1 = (Se 0 8) then fX4_choice_q_37 Se Fo x1 x2 r1 (Se 0 9) Sc else (if x1 = (Se 0 9) then fX4_choice_q_37 Se Fo x1 x2 r1 (Se 0 8) Sc else fX4_choice_q_37 Se Fo x1 x2 r1 (-1) Sc)))
abbrev rmX4_choice_q : Room := { frames := 4, cells := 0, slots := 0, locals := 97 }
set_option maxRecDepth 100000 in
set_option maxHeartbeats 4000000 in
theorem tX4_choice_q (l : Launch) (D : va_G) (cs : Nat → ClassId) (ase : Nat → Nat) (af : Nat → Nat) (ac : Nat → Nat) (tv : Value) (x1 : Int32) (x2 : Int32) (Se : ST) (Fo : ST) (Sc : ST) (r0 : Int32) (Scz : ST) (hf : fX4_choice_q x1 x2 Se Fo Sc = some (r0, Scz)) : CG l yX4_choice (wsm yX4_choice cX4_choice 11 (some .int)) rmX4_choice_q D cs [.ref (ase 0), .int x1, .int x2] (some (.int r0)) ((kX4 cs ase (.ref (af 0)) (.ref (ac 0)) tv Se) ++ ((kX1 cs af  Fo) ++ ((kX3 cs ac  Sc)))) ((kX4 cs ase (.ref (af 0)) (.ref (ac 0)) tv Se) ++ ((kX1 cs af  Fo) ++ ((kX3 cs ac  Scz)))) := by
  refine CG.intro (by decide) (Nat.le_of_ble_eq_true rfl) ?_
  intro p e s m below meth c A Q hx hb hml hown hu hK hZ hP0 hD0 hS0 hA hri hrz hrl hrv hra ls0 hl0
  have hs128 : ∀ (k128 : Int32 → Int32 → Int32 → Int32 → Int32 → Int32 → Int32 → ST → Option (Int32 × ST)), (∀ (y2 : Int32) (y3 : Int32) (y5 : Int32) (y6 : Int32) (y7 : Int32) (y8 : Int32) (y9 : Int32) (Sc : ST) (H : Heap) (locs : List Loc) (ls : Array Slot), va_P D vwCl ((kX4 cs ase (.ref (af 0)) (.ref (ac 0)) tv Se) ++ ((kX1 cs af  Fo) ++ ((kX3 cs ac  Sc)))) H → va_D A ((kX4 cs ase (.ref (af 0)) (.ref (ac 0)) tv Se) ++ ((kX1 cs af  Fo) ++ ((kX3 cs ac  Sc)))) → va_S A s.heap H locs → lv_has ls 11 [(0, .ref (ase 0)), (2, .int y2), (3, .int y3), (5, .int y5), (6, .int y6), (7, .int y7), (8, .int y8), (9, .int y9)] → k128 y2 y3 y5 y6 y7 y8 y9 Sc = some (r0, Scz) → W p l e rmX4_choice_q s m [.ref (ase 0), .int x1, .int x2].toArray below meth c H locs 0 0 Q (F0 m 128 ls [])) → ∀ (y2 : Int32) (y3 : Int32) (y5 : Int32) (y6 : Int32) (y7 : Int32) (y8 : Int32) (y9 : Int32) (Sc : ST) (H : Heap) (locs : List Loc) (ls : Array Slot), va_P D vwCl ((kX4 cs ase (.ref (af 0)) (.ref (ac 0)) tv Se) ++ ((kX1 cs af  Fo) ++ ((kX3 cs ac  Sc)))) H → va_D A ((kX4 cs ase (.ref (af 0)) (.ref (ac 0)) tv Se) ++ ((kX1 cs af  Fo) ++ ((kX3 cs ac  Sc)))) → va_S A s.heap H locs → lv_has ls 11 [(0, .ref (ase 0)), (2, .int y2), (3, .int y3), (5, .int y5), (6, .int y6), (7, .int y7), (8, .int y8), (9, .int y9)] → fX4_choice_q_128_s Se Fo k128 y2 y3 y5 y6 y7 y8 y9 Sc = some (r0, Scz) → W p l e rmX4_choice_q s m [.ref (ase 0), .int x1, .int x2].toArray below meth c H locs 0 0 Q (F0 m 128 ls []) := by
    intro k128 hk128 y2 y3 y5 y6 y7 y8 y9 Sc H locs ls hP hD hS hl hf
    unfold fX4_choice_q_128_s at hf
    refine lv_iload hx hb dX4_choice_128 (lv_at hl 7 rfl) ?_
    refine lv_aload_n hx hb dX4_choice_130 rfl (lv_at hl 0 rfl) ?_
    refine va_get (D := D) (ci := 4) (v := .ref (af 0)) (C := RX4) (T := TX4) (N := 10) hx hb hu inX4 hown hK.1 hP 0 rfl rfl 0 (by decide) (hu _ q158) (fun _ h9 => h9) rfl dX4_choice_131 ?_
    refine va_get (D := D) (ci := 1) (v := .int (Fo 0 0)) (C := RX1) (T := TX1) (N := 9) hx hb hu inX1 hown hK.1 hP 4 rfl rfl 0 (by decide) (hu _ q94) (fun _ h9 => h9) rfl dX4_choice_134 ?_
    refine lv_icmp_ge (tgt := 189) hx hb dX4_choice_137 (by decide) (fun hc14 => ?_) (fun hc14 => ?_)
    · have hf := ip_el hc14 hf
      refine lv_iload hx hb dX4_choice_189 (lv_at hl 5 rfl) ?_
      have he := Option.some.inj hf
      obtain ⟨e0, e1⟩ := Prod.mk.inj he
      exact hri _ _ _ rfl (congrArg (fun z => some (Value.int z)) e0.symm) dX4_choice_191 _ _ _ (by rw [e1]) hP hD hS
    · have hf := in_el hc14 hf
      refine lv_iload_n hx hb dX4_choice_140 rfl (lv_at hl 2 rfl) ?_
      refine lv_iload hx hb dX4_choice_141 (lv_at hl 7 rfl) ?_
      obtain ⟨r15, hg16, hf⟩ := b1_el hf
      refine cc_SN0 (st1 := [.int r15]) [.int y3, .int y9] hx hb hml hown hu (tX7_isIn l D cs y3 y9 r15 hg16) q363 q54 hK.2.2 q362 pdX7_isIn ⟨rfl, rfl, Nat.le_of_ble_eq_true rfl, Nat.le_of_ble_eq_true rfl⟩ hK hZ hP hD hS hA rfl hl.1 rfl (Nat.le_of_ble_eq_true rfl) dX4_choice_143 rfl (fun H locs hP hD hS => ?_)
      refine lv_if_eq (tgt := 183) hx hb dX4_choice_146 (by decide) (fun hc17 => ?_) (fun hc17 => ?_)
      · have hf := ip_el hc17 hf
        obtain ⟨v18, hv18, hf⟩ := lt_el hf
        refine lv_iinc (v := v18) (lv' := [(9, .int v18), (0, .ref (ase 0)), (2, .int y2), (3, .int y3), (5, .int y5), (6, .int y6), (7, .int y7), (8, .int y8)]) hx hb dX4_choice_183 hl (k := 7) rfl (by rw [hv18]; rfl) (by decide) rfl (fun ls hl => ?_)
        refine lv_goto (tgt := 128) hx hb dX4_choice_186 (by decide) ?_
        exact hk128 y2 y3 y5 y6 y7 y8 v18 Sc _ _ _ hP hD hS (lv_sub hl [1, 2, 3, 4, 5, 6, 7, 0] rfl) hf
      · have hf := in_el hc17 hf
        refine lv_aload_n hx hb dX4_choice_149 rfl (lv_at hl 0 rfl) ?_
        refine lv_iload hx hb dX4_choice_150 (lv_at hl 3 rfl) ?_
        refine lv_iload hx hb dX4_choice_152 (lv_at hl 4 rfl) ?_
        refine lv_iload hx hb dX4_choice_154 (lv_at hl 7 rfl) ?_
        refine lv_iload_n hx hb dX4_choice_156 rfl (lv_at hl 1 rfl) ?_
        obtain ⟨r19, Sc_20, hg21, hf⟩ := b2_el hf
        refine cc_V1 (w' := ((kX4 cs ase (.ref (af 0)) (.ref (ac 0)) tv Se) ++ ((kX1 cs af  Fo) ++ ((kX3 cs ac  Sc_20))))) (st1 := [.int r19]) [.int y5, .int y6, .int y9, .int y2] hx hb hml hown hu (tX4_measure_q l D cs ase af ac tv y5 y6 y9 y2 Se Fo Sc r19 Sc_20 hg21) q402 q58 q399 q401 q3 pdX4_measure ⟨rfl, rfl, Nat.le_of_ble_eq_true rfl, Nat.le_of_ble_eq_true rfl⟩ hK hZ hP hD hS hA rfl rfl rfl rfl hl.1 rfl (Nat.le_of_ble_eq_true rfl) dX4_choice_157 rfl (fun H locs hP hD hS => ?_)
        refine lv_istore (lv' := [(10, .int r19), (0, .ref (ase 0)), (2, .int y2), (3, .int y3), (5, .int y5), (6, .int y6), (7, .int y7), (8, .int y8), (9, .int y9)]) hx hb dX4_choice_160 hl (by decide) rfl (fun ls hl => ?_)
        refine lv_iload hx hb dX4_choice_162 (lv_at hl 6 rfl) ?_
        refine lv_iconst (v := (-1)) hx hb dX4_choice_164 (by decide) ?_
        refine lv_icmp_eq (tgt := 175) hx hb dX4_choice_165 (by decide) (fun hc22 => ?_) (fun hc22 => ?_)
        · have hf := ip_el hc22 hf
          refine lv_iload hx hb dX4_choice_175 (lv_at hl 8 rfl) ?_
          refine lv_istore (lv' := [(7, .int y9), (10, .int r19), (0, .ref (ase 0)), (2, .int y2), (3, .int y3), (5, .int y5), (6, .int y6), (8, .int y8), (9, .int y9)]) hx hb dX4_choice_177 hl (by decide) rfl (fun ls hl => ?_)
          refine lv_iload hx hb dX4_choice_179 (lv_at hl 1 rfl) ?_
          refine lv_istore (lv' := [(8, .int r19), (7, .int y9), (10, .int r19), (0, .ref (ase 0)), (2, .int y2), (3, .int y3), (5, .int y5), (6, .int y6), (9, .int y9)]) hx hb dX4_choice_181 hl (by decide) rfl (fun ls hl => ?_)
          obtain ⟨v23, hv23, hf⟩ := lt_el hf
          refine lv_iinc (v := v23) (lv' := [(9, .int v23), (8, .int r19), (7, .int y9), (10, .int r19), (0, .ref (ase 0)), (2, .int y2), (3, .int y3), (5, .int y5), (6, .int y6)]) hx hb dX4_choice_183 hl (k := 8) rfl (by rw [hv23]; rfl) (by decide) rfl (fun ls hl => ?_)
          refine lv_goto (tgt := 128) hx hb dX4_choice_186 (by decide) ?_
          exact hk128 y2 y3 y5 y6 y9 r19 v23 Sc_20 _ _ _ hP hD hS (lv_sub hl [4, 5, 6, 7, 8, 2, 1, 0] rfl) hf
        · have hf := in_el hc22 hf
          refine lv_iload hx hb dX4_choice_168 (lv_at hl 0 rfl) ?_
          refine lv_iload hx hb dX4_choice_170 (lv_at hl 7 rfl) ?_
          refine lv_icmp_le (tgt := 183) hx hb dX4_choice_172 (by decide) (fun hc24 => ?_) (fun hc24 => ?_)
          · have hf := ip_el hc24 hf
            obtain ⟨v25, hv25, hf⟩ := lt_el hf
            refine lv_iinc (v := v25) (lv' := [(9, .int v25), (10, .int r19), (0, .ref (ase 0)), (2, .int y2), (3, .int y3), (5, .int y5), (6, .int y6), (7, .int y7), (8, .int y8)]) hx hb dX4_choice_183 hl (k := 8) rfl (by rw [hv25]; rfl) (by decide) rfl (fun ls hl => ?_)
            refine lv_goto (tgt := 128) hx hb dX4_choice_186 (by decide) ?_
            exact hk128 y2 y3 y5 y6 y7 y8 v25 Sc_20 _ _ _ hP hD hS (lv_sub hl [2, 3, 4, 5, 6, 7, 8, 0] rfl) hf
          · have hf := in_el hc24 hf
            refine lv_iload hx hb dX4_choice_175 (lv_at hl 8 rfl) ?_
            refine lv_istore (lv' := [(7, .int y9), (10, .int r19), (0, .ref (ase 0)), (2, .int y2), (3, .int y3), (5, .int y5), (6, .int y6), (8, .int y8), (9, .int y9)]) hx hb dX4_choice_177 hl (by decide) rfl (fun ls hl => ?_)
            refine lv_iload hx hb dX4_choice_179 (lv_at hl 1 rfl) ?_
            refine lv_istore (lv' := [(8, .int r19), (7, .int y9), (10, .int r19), (0, .ref (ase 0)), (2, .int y2), (3, .int y3), (5, .int y5), (6, .int y6), (9, .int y9)]) hx hb dX4_choice_181 hl (by decide) rfl (fun ls hl => ?_)
            obtain ⟨v26, hv26, hf⟩ := lt_el hf
            refine lv_iinc (v := v26) (lv' := [(9, .int v26), (8, .int r19), (7, .int y9), (10, .int r19), (0, .ref (ase 0)), (2, .int y2), (3, .int y3), (5, .int y5), (6, .int y6)]) hx hb dX4_choice_183 hl (k := 8) rfl (by rw [hv26]; rfl) (by decide) rfl (fun ls hl => ?_)
            refine lv_goto (tgt := 128) hx hb dX4_choice_186 (by decide) ?_
            exact hk128 y2 y3 y5 y6 y9 r19 v26 Sc_20 _ _ _ hP hD hS (lv_sub hl [4, 5, 6, 7, 8, 2, 1, 0] rfl) hf
  have h128 : ∀ (n : Nat), ∀ (y2 : Int32) (y3 : Int32) (y5 : Int32) (y6 : Int32) (y7 : Int32) (y8 : Int32) (y9 : Int32) (Sc : ST) (H : Heap) (locs : List Loc) (ls : Array Slot), va_P D vwCl ((kX4 cs ase (.ref (af 0)) (.ref (ac 0)) tv Se) ++ ((kX1 cs af  Fo) ++ ((kX3 cs ac  Sc)))) H → va_D A ((kX4 cs ase (.ref (af 0)) (.ref (ac 0)) tv Se) ++ ((kX1 cs af  Fo) ++ ((kX3 cs ac  Sc)))) → va_S A s.heap H locs → lv_has ls 11 [(0, .ref (ase 0)), (2, .int y2), (3, .int y3), (5, .int y5), (6, .int y6), (7, .int y7), (8, .int y8), (9, .int y9)] → fX4_choice_q_128 Se Fo n y2 y3 y5 y6 y7 y8 y9 Sc = some (r0, Scz) → W p l e rmX4_choice_q s m [.ref (ase 0), .int x1, .int x2].toArray below meth c H locs 0 0 Q (F0 m 128 ls []) := by
    intro n
    induction n with
    | zero => intro y2 y3 y5 y6 y7 y8 y9 Sc H locs ls hP hD hS hl hf; exact no_el hf
    | succ n ih => intro y2 y3 y5 y6 y7 y8 y9 Sc H locs ls hP hD hS hl hf; exact hs128 _ ih y2 y3 y5 y6 y7 y8 y9 Sc _ _ _ hP hD hS hl hf
  have h117 : ∀ (y2 : Int32) (y3 : Int32) (y5 : Int32) (s0 : Int32) (Sc : ST) (H : Heap) (locs : List Loc) (ls : Array Slot), va_P D vwCl ((kX4 cs ase (.ref (af 0)) (.ref (ac 0)) tv Se) ++ ((kX1 cs af  Fo) ++ ((kX3 cs ac  Sc)))) H → va_D A ((kX4 cs ase (.ref (af 0)) (.ref (ac 0)) tv Se) ++ ((kX1 cs af  Fo) ++ ((kX3 cs ac  Sc)))) → va_S A s.heap H locs → lv_has ls 11 [(0, .ref (ase 0)), (2, .int y2), (3, .int y3), (5, .int y5)] → fX4_choice_q_117 Se Fo y2 y3 y5 s0 Sc = some (r0, Scz) → W p l e rmX4_choice_q s m [.ref (ase 0), .int x1, .int x2].toArray below meth c H locs 0 0 Q (F0 m 117 ls [.int s0]) := by
    intro y2 y3 y5 s0 Sc H locs ls hP hD hS hl hf
    unfold fX4_choice_q_117 at hf
    refine lv_istore (lv' := [(6, .int s0), (0, .ref (ase 0)), (2, .int y2), (3, .int y3), (5, .int y5)]) hx hb dX4_choice_117 hl (by decide) rfl (fun ls hl => ?_)
    refine lv_iconst (v := (-1)) hx hb dX4_choice_119 (by decide) ?_
    refine lv_istore (lv' := [(7, .int (-1)), (6, .int s0), (0, .ref (ase 0)), (2, .int y2), (3, .int y3), (5, .int y5)]) hx hb dX4_choice_120 hl (by decide) rfl (fun ls hl => ?_)
    refine lv_iconst (v := 0) hx hb dX4_choice_122 (by decide) ?_
    refine lv_istore (lv' := [(8, .int 0), (7, .int (-1)), (6, .int s0), (0, .ref (ase 0)), (2, .int y2), (3, .int y3), (5, .int y5)]) hx hb dX4_choice_123 hl (by decide) rfl (fun ls hl => ?_)
    refine lv_iconst (v := 0) hx hb dX4_choice_125 (by decide) ?_
    refine lv_istore (lv' := [(9, .int 0), (8, .int 0), (7, .int (-1)), (6, .int s0), (0, .ref (ase 0)), (2, .int y2), (3, .int y3), (5, .int y5)]) hx hb dX4_choice_126 hl (by decide) rfl (fun ls hl => ?_)
    exact h128 400 y2 y3 y5 s0 (-1) 0 0 Sc _ _ _ hP hD hS (lv_sub hl [4, 5, 6, 7, 3, 2, 1, 0] rfl) hf
  have h109 : ∀ (y2 : Int32) (y3 : Int32) (y5 : Int32) (Sc : ST) (H : Heap) (locs : List Loc) (ls : Array Slot), va_P D vwCl ((kX4 cs ase (.ref (af 0)) (.ref (ac 0)) tv Se) ++ ((kX1 cs af  Fo) ++ ((kX3 cs ac  Sc)))) H → va_D A ((kX4 cs ase (.ref (af 0)) (.ref (ac 0)) tv Se) ++ ((kX1 cs af  Fo) ++ ((kX3 cs ac  Sc)))) → va_S A s.heap H locs → lv_has ls 11 [(0, .ref (ase 0)), (2, .int y2), (3, .int y3), (5, .int y5)] → fX4_choice_q_109 Se Fo y2 y3 y5 Sc = some (r0, Scz) → W p l e rmX4_choice_q s m [.ref (ase 0), .int x1, .int x2].toArray below meth c H locs 0 0 Q (F0 m 109 ls []) := by
    intro y2 y3 y5 Sc H locs ls hP hD hS hl hf
    unfold fX4_choice_q_109 at hf
    refine lv_aload_n hx hb dX4_choice_109 rfl (lv_at hl 0 rfl) ?_
    obtain ⟨r12, hg13, hf⟩ := b1_el hf
    refine cc_V (w' := ((kX4 cs ase (.ref (af 0)) (.ref (ac 0)) tv Se) ++ ((kX1 cs af  Fo) ++ ((kX3 cs ac  Sc))))) (wr := ((kX1 cs af  Fo) ++ ((kX3 cs ac  Sc)))) (st1 := [.int r12]) [] hx hb hml hown hu (tX4_firstNamed l D cs ase (.ref (af 0)) (.ref (ac 0)) tv Se r12 hg13) q390 q58 q387 q388 q389 pdX4_firstNamed ⟨rfl, rfl, Nat.le_of_ble_eq_true rfl, Nat.le_of_ble_eq_true rfl⟩ hK hZ hP hD hS hA [0, 1, 2, 3] [4, 5, 6, 7, 8, 9, 10, 11, 12, 13] [10, 11, 12, 13, 0, 1, 2, 3, 4, 5, 6, 7, 8, 9] rfl rfl rfl rfl rfl rfl rfl rfl rfl rfl hl.1 rfl (Nat.le_of_ble_eq_true rfl) dX4_choice_110 rfl (fun H locs hP hD hS => ?_)
    refine lv_goto (tgt := 117) hx hb dX4_choice_113 (by decide) ?_
    exact h117 y2 y3 y5 r12 Sc _ _ _ hP hD hS (lv_sub hl [0, 1, 2, 3] rfl) hf
  have h97 : ∀ (y1 : Int32) (y2 : Int32) (y3 : Int32) (y5 : Int32) (Sc : ST) (H : Heap) (locs : List Loc) (ls : Array Slot), va_P D vwCl ((kX4 cs ase (.ref (af 0)) (.ref (ac 0)) tv Se) ++ ((kX1 cs af  Fo) ++ ((kX3 cs ac  Sc)))) H → va_D A ((kX4 cs ase (.ref (af 0)) (.ref (ac 0)) tv Se) ++ ((kX1 cs af  Fo) ++ ((kX3 cs ac  Sc)))) → va_S A s.heap H locs → lv_has ls 11 [(0, .ref (ase 0)), (1, .int y1), (2, .int y2), (3, .int y3), (5, .int y5)] → fX4_choice_q_97 Se Fo y1 y2 y3 y5 Sc = some (r0, Scz) → W p l e rmX4_choice_q s m [.ref (ase 0), .int x1, .int x2].toArray below meth c H locs 0 0 Q (F0 m 97 ls []) := by
    intro y1 y2 y3 y5 Sc H locs ls hP hD hS hl hf
    unfold fX4_choice_q_97 at hf
    refine lv_iload hx hb dX4_choice_97 (lv_at hl 4 rfl) ?_
    refine lv_iconst (v := 1) hx hb dX4_choice_99 (by decide) ?_
    refine lv_icmp_eq (tgt := 109) hx hb dX4_choice_100 (by decide) (fun hc11 => ?_) (fun hc11 => ?_)
    · have hf := ip_el hc11 hf
      exact h109 y2 y3 y5 Sc _ _ _ hP hD hS (lv_sub hl [0, 2, 3, 4] rfl) hf
    · have hf := in_el hc11 hf
      refine lv_iload hx hb dX4_choice_103 (lv_at hl 4 rfl) ?_
      refine lv_iconst (v := 2) hx hb dX4_choice_105 (by decide) ?_
      refine lv_icmp_ne (tgt := 116) hx hb dX4_choice_106 (by decide) (fun hc27 => ?_) (fun hc27 => ?_)
      · have hf := in_el hc27 hf
        refine lv_iload_n hx hb dX4_choice_116 rfl (lv_at hl 1 rfl) ?_
        exact h117 y2 y3 y5 y1 Sc _ _ _ hP hD hS (lv_sub hl [0, 2, 3, 4] rfl) hf
      · have hf := ip_el hc27 hf
        exact h109 y2 y3 y5 Sc _ _ _ hP hD hS (lv_sub hl [0, 2, 3, 4] rfl) hf
  have h37 : ∀ (y1 : Int32) (y2 : Int32) (y3 : Int32) (s0 : Int32) (Sc : ST) (H : Heap) (locs : List Loc) (ls : Array Slot), va_P D vwCl ((kX4 cs ase (.ref (af 0)) (.ref (ac 0)) tv Se) ++ ((kX1 cs af  Fo) ++ ((kX3 cs ac  Sc)))) H → va_D A ((kX4 cs ase (.ref (af 0)) (.ref (ac 0)) tv Se) ++ ((kX1 cs af  Fo) ++ ((kX3 cs ac  Sc)))) → va_S A s.heap H locs → lv_has ls 11 [(0, .ref (ase 0)), (1, .int y1), (2, .int y2), (3, .int y3)] → fX4_choice_q_37 Se Fo y1 y2 y3 s0 Sc = some (r0, Scz) → W p l e rmX4_choice_q s m [.ref (ase 0), .int x1, .int x2].toArray below meth c H locs 0 0 Q (F0 m 37 ls [.int s0]) := by
    intro y1 y2 y3 s0 Sc H locs ls hP hD hS hl hf
    unfold fX4_choice_q_37 at hf
    refine lv_istore (lv' := [(4, .int s0), (0, .ref (ase 0)), (1, .int y1), (2, .int y2), (3, .int y3)]) hx hb dX4_choice_37 hl (by decide) rfl (fun ls hl => ?_)
    refine lv_iload_n hx hb dX4_choice_39 rfl (lv_at hl 4 rfl) ?_
    refine lv_iload hx hb dX4_choice_40 (lv_at hl 0 rfl) ?_
    obtain ⟨r5, hg6, hf⟩ := b1_el hf
    refine cc_SN0 (st1 := [.int r5]) [.int y3, .int s0] hx hb hml hown hu (tX7_isIn l D cs y3 s0 r5 hg6) q363 q54 hK.2.2 q362 pdX7_isIn ⟨rfl, rfl, Nat.le_of_ble_eq_true rfl, Nat.le_of_ble_eq_true rfl⟩ hK hZ hP hD hS hA rfl hl.1 rfl (Nat.le_of_ble_eq_true rfl) dX4_choice_42 rfl (fun H locs hP hD hS => ?_)
    refine lv_if_eq (tgt := 51) hx hb dX4_choice_45 (by decide) (fun hc7 => ?_) (fun hc7 => ?_)
    · have hf := ip_el hc7 hf
      refine lv_aload_n hx hb dX4_choice_51 rfl (lv_at hl 1 rfl) ?_
      refine lv_iload_n hx hb dX4_choice_52 rfl (lv_at hl 2 rfl) ?_
      refine lv_iload_n hx hb dX4_choice_53 rfl (lv_at hl 3 rfl) ?_
      obtain ⟨r8, hg9, hf⟩ := b1_el hf
      refine cc_V1 (w' := ((kX4 cs ase (.ref (af 0)) (.ref (ac 0)) tv Se) ++ ((kX1 cs af  Fo) ++ ((kX3 cs ac  Sc))))) (st1 := [.int r8]) [.int y1, .int y2] hx hb hml hown hu (tX4_wayOf l D cs ase af ac tv y1 y2 Se Fo Sc r8 hg9) q386 q58 q383 q385 q2 pdX4_wayOf ⟨rfl, rfl, Nat.le_of_ble_eq_true rfl, Nat.le_of_ble_eq_true rfl⟩ hK hZ hP hD hS hA rfl rfl rfl rfl hl.1 rfl (Nat.le_of_ble_eq_true rfl) dX4_choice_54 rfl (fun H locs hP hD hS => ?_)
      refine lv_istore (lv' := [(5, .int r8), (4, .int s0), (0, .ref (ase 0)), (1, .int y1), (2, .int y2), (3, .int y3)]) hx hb dX4_choice_57 hl (by decide) rfl (fun ls hl => ?_)
      refine lv_iload hx hb dX4_choice_59 (lv_at hl 0 rfl) ?_
      refine lv_iconst (v := 4) hx hb dX4_choice_61 (by decide) ?_
      refine lv_icmp_ne (tgt := 97) hx hb dX4_choice_62 (by decide) (fun hc10 => ?_) (fun hc10 => ?_)
      · have hf := in_el hc10 hf
        exact h97 y1 y2 y3 r8 Sc _ _ _ hP hD hS (lv_sub hl [2, 3, 4, 5, 0] rfl) hf
      · have hf := ip_el hc10 hf
        refine lv_iload_n hx hb dX4_choice_65 rfl (lv_at hl 5 rfl) ?_
        refine lv_aload_n hx hb dX4_choice_66 rfl (lv_at hl 2 rfl) ?_
        refine va_get (D := D) (ci := 4) (v := .ref (af 0)) (C := RX4) (T := TX4) (N := 10) hx hb hu inX4 hown hK.1 hP 0 rfl rfl 0 (by decide) (hu _ q158) (fun _ h9 => h9) rfl dX4_choice_67 ?_
        refine lv_aload_n hx hb dX4_choice_70 rfl (lv_at hl 2 rfl) ?_
        refine va_get (D := D) (ci := 4) (v := .ref (af 0)) (C := RX4) (T := TX4) (N := 10) hx hb hu inX4 hown hK.1 hP 0 rfl rfl 0 (by decide) (hu _ q158) (fun _ h9 => h9) rfl dX4_choice_71 ?_
        refine va_get (D := D) (ci := 1) (v := .ref (af 4)) (C := RX1) (T := TX1) (N := 9) hx hb hu inX1 hown hK.1 hP 4 rfl rfl 3 (by decide) (hu _ q102) (fun _ h9 => h9) rfl dX4_choice_74 ?_
        refine lv_iload_n hx hb dX4_choice_77 rfl (lv_at hl 3 rfl) ?_
        obtain ⟨hi28, hf⟩ := ck_el hf
        refine va_iald hx hb hK.1 hP 7 0 rfl rfl hi28 dX4_choice_78 ?_
        obtain ⟨r29, hg30, hf⟩ := b1_el hf
        refine cc_V (w' := ((kX4 cs ase (.ref (af 0)) (.ref (ac 0)) tv Se) ++ ((kX1 cs af  Fo) ++ ((kX3 cs ac  Sc))))) (wr := ((kX4 cs ase (.ref (af 0)) (.ref (ac 0)) tv Se) ++ ((kX3 cs ac  Sc)))) (st1 := [.int r29, .int y3]) [.int (Fo 4 (Int32.toNatClampNeg y1))] hx hb hml hown hu (tX1_ofSort l D cs af (Fo 4 (Int32.toNatClampNeg y1)) Fo r29 hg30) q398 q56 q395 q396 q397 pdX1_ofSort ⟨rfl, rfl, Nat.le_of_ble_eq_true rfl, Nat.le_of_ble_eq_true rfl⟩ hK hZ hP hD hS hA [4, 5, 6, 7, 8, 9, 10] [0, 1, 2, 3, 11, 12, 13] [0, 1, 2, 3, 7, 8, 9, 10, 11, 12, 13, 4, 5, 6] rfl rfl rfl rfl rfl rfl rfl rfl rfl rfl hl.1 rfl (Nat.le_of_ble_eq_true rfl) dX4_choice_79 rfl (fun H locs hP hD hS => ?_)
        refine lv_iand hx hb dX4_choice_82 ?_
        obtain ⟨v31, hv31, hf⟩ := lt_el hf
        refine lv_tope hv31 ?_
        refine lv_istore (lv' := [(6, .int v31), (5, .int r8), (4, .int s0), (0, .ref (ase 0)), (1, .int y1), (2, .int y2), (3, .int y3)]) hx hb dX4_choice_83 hl (by decide) rfl (fun ls hl => ?_)
        refine lv_iload hx hb dX4_choice_85 (lv_at hl 0 rfl) ?_
        refine lv_if_eq (tgt := 95) hx hb dX4_choice_87 (by decide) (fun hc32 => ?_) (fun hc32 => ?_)
        · have hf := ip_el hc32 hf
          refine lv_iload_n hx hb dX4_choice_95 rfl (lv_at hl 6 rfl) ?_
          refine lv_istore_n (lv' := [(3, .int y3), (6, .int v31), (5, .int r8), (4, .int s0), (0, .ref (ase 0)), (1, .int y1), (2, .int y2)]) hx hb dX4_choice_96 rfl hl (by decide) rfl (fun ls hl => ?_)
          exact h97 y1 y2 y3 r8 Sc _ _ _ hP hD hS (lv_sub hl [4, 5, 6, 0, 2] rfl) hf
        · have hf := in_el hc32 hf
          refine lv_iload hx hb dX4_choice_90 (lv_at hl 0 rfl) ?_
          refine lv_goto (tgt := 96) hx hb dX4_choice_92 (by decide) ?_
          refine lv_istore_n (lv' := [(3, .int v31), (6, .int v31), (5, .int r8), (4, .int s0), (0, .ref (ase 0)), (1, .int y1), (2, .int y2)]) hx hb dX4_choice_96 rfl hl (by decide) rfl (fun ls hl => ?_)
          exact h97 y1 y2 v31 r8 Sc _ _ _ hP hD hS (lv_sub hl [4, 5, 6, 0, 2] rfl) hf
    · have hf := in_el hc7 hf
      refine lv_iload hx hb dX4_choice_48 (lv_at hl 0 rfl) ?_
      have he := Option.some.inj hf
      obtain ⟨e0, e1⟩ := Prod.mk.inj he
      exact hri _ _ _ rfl (congrArg (fun z => some (Value.int z)) e0.symm) dX4_choice_50 _ _ _ (by rw [e1]) hP hD hS
  have hl : lv_has ls0 11 [(0, .ref (ase 0)), (1, .int x1), (2, .int x2)] := hl0
  have hP := hP0
  have hD := hD0
  have hS := hS0
  unfold fX4_choice_q at hf
  refine lv_aload_n hx hb dX4_choice_0 rfl (lv_at hl 0 rfl) ?_
  refine lv_iload_n hx hb dX4_choice_1 rfl (lv_at hl 1 rfl) ?_
  obtain ⟨r1, hg2, hf⟩ := b1_el hf
  refine cc_V (w' := ((kX4 cs ase (.ref (af 0)) (.ref (ac 0)) tv Se) ++ ((kX1 cs af  Fo) ++ ((kX3 cs ac  Sc))))) (wr := (kX3 cs ac  Sc)) (st1 := [.int r1]) [.int x1] hx hb hml hown hu (tX4_allowed l D cs ase af ac tv x1 Se Fo r1 hg2) q375 q58 q372 q373 q374 pdX4_allowed ⟨rfl, rfl, Nat.le_of_ble_eq_true rfl, Nat.le_of_ble_eq_true rfl⟩ hK hZ hP hD hS hA [0, 1, 2, 3, 4, 5, 6, 7, 8, 9, 10] [11, 12, 13] [3, 4, 5, 6, 7, 8, 9, 10, 11, 12, 13, 0, 1, 2] rfl rfl rfl rfl rfl rfl rfl rfl rfl rfl hl.1 rfl (Nat.le_of_ble_eq_true rfl) dX4_choice_2 rfl (fun H locs hP hD hS => ?_)
  refine lv_istore_n (lv' := [(3, .int r1), (0, .ref (ase 0)), (1, .int x1), (2, .int x2)]) hx hb dX4_choice_5 rfl hl (by decide) rfl (fun ls hl => ?_)
  refine lv_iload_n hx hb dX4_choice_6 rfl (lv_at hl 2 rfl) ?_
  refine lv_aload_n hx hb dX4_choice_7 rfl (lv_at hl 1 rfl) ?_
  refine va_get (D := D) (ci := 4) (v := .int (Se 0 8)) (C := RX4) (T := TX4) (N := 10) hx hb hu inX4 hown hK.1 hP 0 rfl rfl 8 (by decide) (hu _ q171) (fun _ h9 => h9) rfl dX4_choice_8 ?_
  refine lv_icmp_ne (tgt := 21) hx hb dX4_choice_11 (by decide) (fun hc3 => ?_) (fun hc3 => ?_)
  · have hf := in_el hc3 hf
    refine lv_iload_n hx hb dX4_choice_21 rfl (lv_at hl 2 rfl) ?_
    refine lv_aload_n hx hb dX4_choice_22 rfl (lv_at hl 1 rfl) ?_
    refine va_get (D := D) (ci := 4) (v := .int (Se 0 9)) (C := RX4) (T := TX4) (N := 10) hx hb hu inX4 hown hK.1 hP 0 rfl rfl 9 (by decide) (hu _ q172) (fun _ h9 => h9) rfl dX4_choice_23 ?_
    refine lv_icmp_ne (tgt := 36) hx hb dX4_choice_26 (by decide) (fun hc4 => ?_) (fun hc4 => ?_)
    · have hf := in_el hc4 hf
      refine lv_iconst (v := (-1)) hx hb dX4_choice_36 (by decide) ?_
      exact h37 x1 x2 r1 (-1) Sc _ _ _ hP hD hS (lv_sub hl [1, 2, 3, 0] rfl) hf
    · have hf := ip_el hc4 hf
      refine lv_aload_n hx hb dX4_choice_29 rfl (lv_at hl 1 rfl) ?_
      refine va_get (D := D) (ci := 4) (v := .int (Se 0 8)) (C := RX4) (T := TX4) (N := 10) hx hb hu inX4 hown hK.1 hP 0 rfl rfl 8 (by decide) (hu _ q171) (fun _ h9 => h9) rfl dX4_choice_30 ?_
      refine lv_goto (tgt := 37) hx hb dX4_choice_33 (by decide) ?_
      exact h37 x1 x2 r1 (Se 0 8) Sc _ _ _ hP hD hS (lv_sub hl [1, 2, 3, 0] rfl) hf
  · have hf := ip_el hc3 hf
    refine lv_aload_n hx hb dX4_choice_14 rfl (lv_at hl 1 rfl) ?_
    refine va_get (D := D) (ci := 4) (v := .int (Se 0 9)) (C := RX4) (T := TX4) (N := 10) hx hb hu inX4 hown hK.1 hP 0 rfl rfl 9 (by decide) (hu _ q172) (fun _ h9 => h9) rfl dX4_choice_15 ?_
    refine lv_goto (tgt := 37) hx hb dX4_choice_18 (by decide) ?_
    exact h37 x1 x2 r1 (Se 0 9) Sc _ _ _ hP hD hS (lv_sub hl [1, 2, 3, 0] rfl) hf

def fX4_next_q_108_s (Fo : ST) (k108 : Int32 → Int32 → Int32 → ST → ST → Option (Int32 × ST × ST)) (y1 : Int32) (y3 : Int32) (y4 : Int32) (Se : ST) (Sc : ST) : Option (Int32 × ST × ST) :=
  (if y3 < y4 then some ((Se 0 6), Se, Sc) else dc_ck y4 4 ((if (Se 5 (Int32.toNatClampNeg y4)) = (-1) then dc_b2 (fX4_choice_q (Se 0 6) y1 Se Fo Sc) (fun r15 Sc_16 => dc_ck y4 4 (dc_lt (sti Se 5 (Int32.toNatClampNeg y4) r15) (fun Se_19 => dc_lt (y4 + 1) (fun v20 => k108 y1 y3 v20 Se_19 Sc_16)))) else dc_lt (y4 + 1) (fun v14 => k108 y1 y3 v14 Se Sc))))
def fX4_next_q_108 (Fo : ST) : Nat → Int32 → Int32 → Int32 → ST → ST → Option (Int32 × ST × ST)
  | 0 => fun _ _ _ _ _ => none
  | n + 1 => fX4_next_q_108_s Fo (fX4_next_q_108 Fo n)
def fX4_next_q_59 (Fo : ST) (y1 : Int32) (Se : ST) (Sc : ST) : Option (Int32 × ST × ST) :=
  (if (Se 0 6) = (-1) then some ((-1), Se, Sc) else dc_ck (Se 0 6) 10 (dc_ck (Se 0 6) 10 (dc_lt (sti Se 6 (Int32.toNatClampNeg (Se 0 6)) ((Se 6 (Int32.toNatClampNeg (Se 0 6))) + 1)) (fun Se_8 => dc_lt ((Se_8 4 0) - 1) (fun v9 => (if (Se_8 4 4) = 1 then fX4_next_q_108 Fo 400 y1 v9 0 Se_8 Sc else fX4_next_q_108 Fo 400 y1 v9 v9 Se_8 Sc))))))
def fX4_next_q_32_s (Fo : ST) (k32 : Int32 → Int32 → Int32 → ST → ST → Option (Int32 × ST × ST)) (y1 : Int32) (y2 : Int32) (y3 : Int32) (Se : ST) (Sc : ST) : Option (Int32 × ST × ST) :=
  (if y2 ≤ y3 then fX4_next_q_59 Fo y1 Se Sc else (if (Se 0 6) = (-1) then dc_b2 (fX4_moveUp Se) (fun r22 Se_23 => dc_lt (sti Se_23 0 6 r22) (fun Se_25 => dc_lt (y3 + 1) (fun v26 => k32 y1 y2 v26 Se_25 Sc))) else fX4_next_q_59 Fo y1 Se Sc))
def fX4_next_q_32 (Fo : ST) : Nat → Int32 → Int32 → Int32 → ST → ST → Option (Int32 × ST × ST)
  | 0 => fun _ _ _ _ _ => none
  | n + 1 => fX4_next_q_32_s Fo (fX4_next_q_32 Fo n)
def fX4_next_q (x1 : Int32) (Se : ST) (Fo : ST) (Sc : ST) : Option (Int32 × ST × ST) :=
  dc_lt (sti Se 0 6 (-1)) (fun Se_1 => dc_lt (sti Se_1 0 7 0) (fun Se_2 => (if (Se_2 4 4) = 0 then dc_lt (Se_2 4 0) (fun v27 => fX4_next_q_32 Fo 400 x1 v27 0 Se_2 Sc) else fX4_next_q_32 Fo 400 x1 1 0 Se_2 Sc)))
abbrev rmX4_next_q : Room := { frames := 5, cells := 0, slots := 0, locals := 127 }
set_option maxRecDepth 100000 in
set_option maxHeartbeats 4000000 in
theorem tX4_next_q (l : Launch) (D : va_G) (cs : Nat → ClassId) (ase : Nat → Nat) (af : Nat → Nat) (ac : Nat → Nat) (tv : Value) (x1 : Int32) (Se : ST) (Fo : ST) (Sc : ST) (r0 : Int32) (Sez : ST) (Scz : ST) (hf : fX4_next_q x1 Se Fo Sc = some (r0, Sez, Scz)) : CG l yX4_next (wsm yX4_next cX4_next 5 (some .int)) rmX4_next_q D cs [.ref (ase 0), .int x1] (some (.int r0)) ((kX4 cs ase (.ref (af 0)) (.ref (ac 0)) tv Se) ++ ((kX1 cs af  Fo) ++ ((kX3 cs ac  Sc)))) ((kX4 cs ase (.ref (af 0)) (.ref (ac 0)) tv Sez) ++ ((kX1 cs af  Fo) ++ ((kX3 cs ac  Scz)))) := by
  refine CG.intro (by decide) (Nat.le_of_ble_eq_true rfl) ?_
  intro p e s m below meth c A Q hx hb hml hown hu hK hZ hP0 hD0 hS0 hA hri hrz hrl hrv hra ls0 hl0
  have hs108 : ∀ (k108 : Int32 → Int32 → Int32 → ST → ST → Option (Int32 × ST × ST)), (∀ (y1 : Int32) (y3 : Int32) (y4 : Int32) (Se : ST) (Sc : ST) (H : Heap) (locs : List Loc) (ls : Array Slot), va_P D vwCl ((kX4 cs ase (.ref (af 0)) (.ref (ac 0)) tv Se) ++ ((kX1 cs af  Fo) ++ ((kX3 cs ac  Sc)))) H → va_D A ((kX4 cs ase (.ref (af 0)) (.ref (ac 0)) tv Se) ++ ((kX1 cs af  Fo) ++ ((kX3 cs ac  Sc)))) → va_S A s.heap H locs → lv_has ls 5 [(0, .ref (ase 0)), (1, .int y1), (3, .int y3), (4, .int y4)] → k108 y1 y3 y4 Se Sc = some (r0, Sez, Scz) → W p l e rmX4_next_q s m [.ref (ase 0), .int x1].toArray below meth c H locs 0 0 Q (F0 m 108 ls [])) → ∀ (y1 : Int32) (y3 : Int32) (y4 : Int32) (Se : ST) (Sc : ST) (H : Heap) (locs : List Loc) (ls : Array Slot), va_P D vwCl ((kX4 cs ase (.ref (af 0)) (.ref (ac 0)) tv Se) ++ ((kX1 cs af  Fo) ++ ((kX3 cs ac  Sc)))) H → va_D A ((kX4 cs ase (.ref (af 0)) (.ref (ac 0)) tv Se) ++ ((kX1 cs af  Fo) ++ ((kX3 cs ac  Sc)))) → va_S A s.heap H locs → lv_has ls 5 [(0, .ref (ase 0)), (1, .int y1), (3, .int y3), (4, .int y4)] → fX4_next_q_108_s Fo k108 y1 y3 y4 Se Sc = some (r0, Sez, Scz) → W p l e rmX4_next_q s m [.ref (ase 0), .int x1].toArray below meth c H locs 0 0 Q (F0 m 108 ls []) := by
    intro k108 hk108 y1 y3 y4 Se Sc H locs ls hP hD hS hl hf
    unfold fX4_next_q_108_s at hf
    refine lv_iload hx hb dX4_next_108 (lv_at hl 3 rfl) ?_
    refine lv_iload_n hx hb dX4_next_110 rfl (lv_at hl 2 rfl) ?_
    refine lv_icmp_gt (tgt := 147) hx hb dX4_next_111 (by decide) (fun hc11 => ?_) (fun hc11 => ?_)
    · have hf := ip_el hc11 hf
      refine lv_aload_n hx hb dX4_next_147 rfl (lv_at hl 0 rfl) ?_
      refine va_get (D := D) (ci := 4) (v := .int (Se 0 6)) (C := RX4) (T := TX4) (N := 10) hx hb hu inX4 hown hK.1 hP 0 rfl rfl 6 (by decide) (hu _ q167) (fun _ h9 => h9) rfl dX4_next_148 ?_
      have he := Option.some.inj hf
      obtain ⟨e0, ht0⟩ := Prod.mk.inj he
      obtain ⟨e1, e2⟩ := Prod.mk.inj ht0
      exact hri _ _ _ rfl (congrArg (fun z => some (Value.int z)) e0.symm) dX4_next_151 _ _ _ (by rw [e1, e2]) hP hD hS
    · have hf := in_el hc11 hf
      refine lv_aload_n hx hb dX4_next_114 rfl (lv_at hl 0 rfl) ?_
      refine va_get (D := D) (ci := 4) (v := .ref (ase 5)) (C := RX4) (T := TX4) (N := 10) hx hb hu inX4 hown hK.1 hP 0 rfl rfl 4 (by decide) (hu _ q163) (fun _ h9 => h9) rfl dX4_next_115 ?_
      refine lv_iload hx hb dX4_next_118 (lv_at hl 3 rfl) ?_
      obtain ⟨hi12, hf⟩ := ck_el hf
      refine va_iald hx hb hK.1 hP 2 0 rfl rfl hi12 dX4_next_120 ?_
      refine lv_iconst (v := (-1)) hx hb dX4_next_121 (by decide) ?_
      refine lv_icmp_ne (tgt := 141) hx hb dX4_next_122 (by decide) (fun hc13 => ?_) (fun hc13 => ?_)
      · have hf := in_el hc13 hf
        obtain ⟨v14, hv14, hf⟩ := lt_el hf
        refine lv_iinc (v := v14) (lv' := [(4, .int v14), (0, .ref (ase 0)), (1, .int y1), (3, .int y3)]) hx hb dX4_next_141 hl (k := 3) rfl (by rw [hv14]; rfl) (by decide) rfl (fun ls hl => ?_)
        refine lv_goto (tgt := 108) hx hb dX4_next_144 (by decide) ?_
        exact hk108 y1 y3 v14 Se Sc _ _ _ hP hD hS (lv_sub hl [1, 2, 3, 0] rfl) hf
      · have hf := ip_el hc13 hf
        refine lv_aload_n hx hb dX4_next_125 rfl (lv_at hl 0 rfl) ?_
        refine va_get (D := D) (ci := 4) (v := .ref (ase 5)) (C := RX4) (T := TX4) (N := 10) hx hb hu inX4 hown hK.1 hP 0 rfl rfl 4 (by decide) (hu _ q163) (fun _ h9 => h9) rfl dX4_next_126 ?_
        refine lv_iload hx hb dX4_next_129 (lv_at hl 3 rfl) ?_
        refine lv_aload_n hx hb dX4_next_131 rfl (lv_at hl 0 rfl) ?_
        refine lv_aload_n hx hb dX4_next_132 rfl (lv_at hl 0 rfl) ?_
        refine va_get (D := D) (ci := 4) (v := .int (Se 0 6)) (C := RX4) (T := TX4) (N := 10) hx hb hu inX4 hown hK.1 hP 0 rfl rfl 6 (by decide) (hu _ q167) (fun _ h9 => h9) rfl dX4_next_133 ?_
        refine lv_iload_n hx hb dX4_next_136 rfl (lv_at hl 1 rfl) ?_
        obtain ⟨r15, Sc_16, hg17, hf⟩ := b2_el hf
        refine cc_V1 (w' := ((kX4 cs ase (.ref (af 0)) (.ref (ac 0)) tv Se) ++ ((kX1 cs af  Fo) ++ ((kX3 cs ac  Sc_16))))) (st1 := [.int r15, .int y4, .ref (ase 5)]) [.int (Se 0 6), .int y1] hx hb hml hown hu (tX4_choice_q l D cs ase af ac tv (Se 0 6) y1 Se Fo Sc r15 Sc_16 hg17) q371 q58 q444 q369 q370 pdX4_choice ⟨rfl, rfl, Nat.le_of_ble_eq_true rfl, Nat.le_of_ble_eq_true rfl⟩ hK hZ hP hD hS hA rfl rfl rfl rfl hl.1 rfl (Nat.le_of_ble_eq_true rfl) dX4_next_137 rfl (fun H locs hP hD hS => ?_)
        obtain ⟨hi18, hf⟩ := ck_el hf
        obtain ⟨Se_19, hSe_19, hf⟩ := lt_el hf
        refine va_iast hx hb hK.1 hP hD hS 2 0 rfl rfl hi18 dX4_next_140 (fun H locs hP hD hS => ?_)
        have hP : va_P D vwCl ((kX4 cs ase (.ref (af 0)) (.ref (ac 0)) tv Se_19) ++ ((kX1 cs af  Fo) ++ ((kX3 cs ac  Sc_16)))) H := by rw [hSe_19]; exact hP
        have hD : va_D A ((kX4 cs ase (.ref (af 0)) (.ref (ac 0)) tv Se_19) ++ ((kX1 cs af  Fo) ++ ((kX3 cs ac  Sc_16)))) := by rw [hSe_19]; exact hD
        obtain ⟨v20, hv20, hf⟩ := lt_el hf
        refine lv_iinc (v := v20) (lv' := [(4, .int v20), (0, .ref (ase 0)), (1, .int y1), (3, .int y3)]) hx hb dX4_next_141 hl (k := 3) rfl (by rw [hv20]; rfl) (by decide) rfl (fun ls hl => ?_)
        refine lv_goto (tgt := 108) hx hb dX4_next_144 (by decide) ?_
        exact hk108 y1 y3 v20 Se_19 Sc_16 _ _ _ hP hD hS (lv_sub hl [1, 2, 3, 0] rfl) hf
  have h108 : ∀ (n : Nat), ∀ (y1 : Int32) (y3 : Int32) (y4 : Int32) (Se : ST) (Sc : ST) (H : Heap) (locs : List Loc) (ls : Array Slot), va_P D vwCl ((kX4 cs ase (.ref (af 0)) (.ref (ac 0)) tv Se) ++ ((kX1 cs af  Fo) ++ ((kX3 cs ac  Sc)))) H → va_D A ((kX4 cs ase (.ref (af 0)) (.ref (ac 0)) tv Se) ++ ((kX1 cs af  Fo) ++ ((kX3 cs ac  Sc)))) → va_S A s.heap H locs → lv_has ls 5 [(0, .ref (ase 0)), (1, .int y1), (3, .int y3), (4, .int y4)] → fX4_next_q_108 Fo n y1 y3 y4 Se Sc = some (r0, Sez, Scz) → W p l e rmX4_next_q s m [.ref (ase 0), .int x1].toArray below meth c H locs 0 0 Q (F0 m 108 ls []) := by
    intro n
    induction n with
    | zero => intro y1 y3 y4 Se Sc H locs ls hP hD hS hl hf; exact no_el hf
    | succ n ih => intro y1 y3 y4 Se Sc H locs ls hP hD hS hl hf; exact hs108 _ ih y1 y3 y4 Se Sc _ _ _ hP hD hS hl hf
  have h59 : ∀ (y1 : Int32) (Se : ST) (Sc : ST) (H : Heap) (locs : List Loc) (ls : Array Slot), va_P D vwCl ((kX4 cs ase (.ref (af 0)) (.ref (ac 0)) tv Se) ++ ((kX1 cs af  Fo) ++ ((kX3 cs ac  Sc)))) H → va_D A ((kX4 cs ase (.ref (af 0)) (.ref (ac 0)) tv Se) ++ ((kX1 cs af  Fo) ++ ((kX3 cs ac  Sc)))) → va_S A s.heap H locs → lv_has ls 5 [(0, .ref (ase 0)), (1, .int y1)] → fX4_next_q_59 Fo y1 Se Sc = some (r0, Sez, Scz) → W p l e rmX4_next_q s m [.ref (ase 0), .int x1].toArray below meth c H locs 0 0 Q (F0 m 59 ls []) := by
    intro y1 Se Sc H locs ls hP hD hS hl hf
    unfold fX4_next_q_59 at hf
    refine lv_aload_n hx hb dX4_next_59 rfl (lv_at hl 0 rfl) ?_
    refine va_get (D := D) (ci := 4) (v := .int (Se 0 6)) (C := RX4) (T := TX4) (N := 10) hx hb hu inX4 hown hK.1 hP 0 rfl rfl 6 (by decide) (hu _ q167) (fun _ h9 => h9) rfl dX4_next_60 ?_
    refine lv_iconst (v := (-1)) hx hb dX4_next_63 (by decide) ?_
    refine lv_icmp_ne (tgt := 69) hx hb dX4_next_64 (by decide) (fun hc5 => ?_) (fun hc5 => ?_)
    · have hf := in_el hc5 hf
      refine lv_aload_n hx hb dX4_next_69 rfl (lv_at hl 0 rfl) ?_
      refine va_get (D := D) (ci := 4) (v := .ref (ase 6)) (C := RX4) (T := TX4) (N := 10) hx hb hu inX4 hown hK.1 hP 0 rfl rfl 5 (by decide) (hu _ q165) (fun _ h9 => h9) rfl dX4_next_70 ?_
      refine lv_aload_n hx hb dX4_next_73 rfl (lv_at hl 0 rfl) ?_
      refine va_get (D := D) (ci := 4) (v := .int (Se 0 6)) (C := RX4) (T := TX4) (N := 10) hx hb hu inX4 hown hK.1 hP 0 rfl rfl 6 (by decide) (hu _ q167) (fun _ h9 => h9) rfl dX4_next_74 ?_
      refine lv_dup2_11 hx hb dX4_next_77 rfl rfl ?_
      obtain ⟨hi6, hf⟩ := ck_el hf
      refine va_iald hx hb hK.1 hP 3 0 rfl rfl hi6 dX4_next_78 ?_
      refine lv_iconst (v := 1) hx hb dX4_next_79 (by decide) ?_
      refine lv_iadd hx hb dX4_next_80 ?_
      obtain ⟨hi7, hf⟩ := ck_el hf
      obtain ⟨Se_8, hSe_8, hf⟩ := lt_el hf
      refine va_iast hx hb hK.1 hP hD hS 3 0 rfl rfl hi7 dX4_next_81 (fun H locs hP hD hS => ?_)
      have hP : va_P D vwCl ((kX4 cs ase (.ref (af 0)) (.ref (ac 0)) tv Se_8) ++ ((kX1 cs af  Fo) ++ ((kX3 cs ac  Sc)))) H := by rw [hSe_8]; exact hP
      have hD : va_D A ((kX4 cs ase (.ref (af 0)) (.ref (ac 0)) tv Se_8) ++ ((kX1 cs af  Fo) ++ ((kX3 cs ac  Sc)))) := by rw [hSe_8]; exact hD
      refine lv_aload_n hx hb dX4_next_82 rfl (lv_at hl 0 rfl) ?_
      refine va_get (D := D) (ci := 4) (v := .ref (ase 4)) (C := RX4) (T := TX4) (N := 10) hx hb hu inX4 hown hK.1 hP 0 rfl rfl 3 (by decide) (hu _ q161) (fun _ h9 => h9) rfl dX4_next_83 ?_
      refine lv_iconst (v := 0) hx hb dX4_next_86 (by decide) ?_
      refine ia_lit hx hb hK hP 1 0 rfl (by decide) dX4_next_87 ?_
      refine lv_iconst (v := 1) hx hb dX4_next_88 (by decide) ?_
      refine lv_isub hx hb dX4_next_89 ?_
      obtain ⟨v9, hv9, hf⟩ := lt_el hf
      refine lv_tope hv9 ?_
      refine lv_istore_n (lv' := [(3, .int v9), (0, .ref (ase 0)), (1, .int y1)]) hx hb dX4_next_90 rfl hl (by decide) rfl (fun ls hl => ?_)
      refine lv_aload_n hx hb dX4_next_91 rfl (lv_at hl 1 rfl) ?_
      refine va_get (D := D) (ci := 4) (v := .ref (ase 4)) (C := RX4) (T := TX4) (N := 10) hx hb hu inX4 hown hK.1 hP 0 rfl rfl 3 (by decide) (hu _ q161) (fun _ h9 => h9) rfl dX4_next_92 ?_
      refine lv_iconst (v := 4) hx hb dX4_next_95 (by decide) ?_
      refine ia_lit hx hb hK hP 1 4 rfl (by decide) dX4_next_96 ?_
      refine lv_iconst (v := 1) hx hb dX4_next_97 (by decide) ?_
      refine lv_icmp_ne (tgt := 105) hx hb dX4_next_98 (by decide) (fun hc10 => ?_) (fun hc10 => ?_)
      · have hf := in_el hc10 hf
        refine lv_iload_n hx hb dX4_next_105 rfl (lv_at hl 0 rfl) ?_
        refine lv_istore (lv' := [(4, .int v9), (3, .int v9), (0, .ref (ase 0)), (1, .int y1)]) hx hb dX4_next_106 hl (by decide) rfl (fun ls hl => ?_)
        exact h108 400 y1 v9 v9 Se_8 Sc _ _ _ hP hD hS (lv_sub hl [2, 3, 1, 0] rfl) hf
      · have hf := ip_el hc10 hf
        refine lv_iconst (v := 0) hx hb dX4_next_101 (by decide) ?_
        refine lv_goto (tgt := 106) hx hb dX4_next_102 (by decide) ?_
        refine lv_istore (lv' := [(4, .int 0), (3, .int v9), (0, .ref (ase 0)), (1, .int y1)]) hx hb dX4_next_106 hl (by decide) rfl (fun ls hl => ?_)
        exact h108 400 y1 v9 0 Se_8 Sc _ _ _ hP hD hS (lv_sub hl [2, 3, 1, 0] rfl) hf
    · have hf := ip_el hc5 hf
      refine lv_iconst (v := (-1)) hx hb dX4_next_67 (by decide) ?_
      have he := Option.some.inj hf
      obtain ⟨e0, ht0⟩ := Prod.mk.inj he
      obtain ⟨e1, e2⟩ := Prod.mk.inj ht0
      exact hri _ _ _ rfl (congrArg (fun z => some (Value.int z)) e0.symm) dX4_next_68 _ _ _ (by rw [e1, e2]) hP hD hS
  have hs32 : ∀ (k32 : Int32 → Int32 → Int32 → ST → ST → Option (Int32 × ST × ST)), (∀ (y1 : Int32) (y2 : Int32) (y3 : Int32) (Se : ST) (Sc : ST) (H : Heap) (locs : List Loc) (ls : Array Slot), va_P D vwCl ((kX4 cs ase (.ref (af 0)) (.ref (ac 0)) tv Se) ++ ((kX1 cs af  Fo) ++ ((kX3 cs ac  Sc)))) H → va_D A ((kX4 cs ase (.ref (af 0)) (.ref (ac 0)) tv Se) ++ ((kX1 cs af  Fo) ++ ((kX3 cs ac  Sc)))) → va_S A s.heap H locs → lv_has ls 5 [(0, .ref (ase 0)), (1, .int y1), (2, .int y2), (3, .int y3)] → k32 y1 y2 y3 Se Sc = some (r0, Sez, Scz) → W p l e rmX4_next_q s m [.ref (ase 0), .int x1].toArray below meth c H locs 0 0 Q (F0 m 32 ls [])) → ∀ (y1 : Int32) (y2 : Int32) (y3 : Int32) (Se : ST) (Sc : ST) (H : Heap) (locs : List Loc) (ls : Array Slot), va_P D vwCl ((kX4 cs ase (.ref (af 0)) (.ref (ac 0)) tv Se) ++ ((kX1 cs af  Fo) ++ ((kX3 cs ac  Sc)))) H → va_D A ((kX4 cs ase (.ref (af 0)) (.ref (ac 0)) tv Se) ++ ((kX1 cs af  Fo) ++ ((kX3 cs ac  Sc)))) → va_S A s.heap H locs → lv_has ls 5 [(0, .ref (ase 0)), (1, .int y1), (2, .int y2), (3, .int y3)] → fX4_next_q_32_s Fo k32 y1 y2 y3 Se Sc = some (r0, Sez, Scz) → W p l e rmX4_next_q s m [.ref (ase 0), .int x1].toArray below meth c H locs 0 0 Q (F0 m 32 ls []) := by
    intro k32 hk32 y1 y2 y3 Se Sc H locs ls hP hD hS hl hf
    unfold fX4_next_q_32_s at hf
    refine lv_iload_n hx hb dX4_next_32 rfl (lv_at hl 3 rfl) ?_
    refine lv_iload_n hx hb dX4_next_33 rfl (lv_at hl 2 rfl) ?_
    refine lv_icmp_ge (tgt := 59) hx hb dX4_next_34 (by decide) (fun hc4 => ?_) (fun hc4 => ?_)
    · have hf := ip_el hc4 hf
      exact h59 y1 Se Sc _ _ _ hP hD hS (lv_sub hl [0, 1] rfl) hf
    · have hf := in_el hc4 hf
      refine lv_aload_n hx hb dX4_next_37 rfl (lv_at hl 0 rfl) ?_
      refine va_get (D := D) (ci := 4) (v := .int (Se 0 6)) (C := RX4) (T := TX4) (N := 10) hx hb hu inX4 hown hK.1 hP 0 rfl rfl 6 (by decide) (hu _ q167) (fun _ h9 => h9) rfl dX4_next_38 ?_
      refine lv_iconst (v := (-1)) hx hb dX4_next_41 (by decide) ?_
      refine lv_icmp_ne (tgt := 59) hx hb dX4_next_42 (by decide) (fun hc21 => ?_) (fun hc21 => ?_)
      · have hf := in_el hc21 hf
        exact h59 y1 Se Sc _ _ _ hP hD hS (lv_sub hl [0, 1] rfl) hf
      · have hf := ip_el hc21 hf
        refine lv_aload_n hx hb dX4_next_45 rfl (lv_at hl 0 rfl) ?_
        refine lv_aload_n hx hb dX4_next_46 rfl (lv_at hl 0 rfl) ?_
        obtain ⟨r22, Se_23, hg24, hf⟩ := b2_el hf
        refine cc_V (w' := ((kX4 cs ase (.ref (af 0)) (.ref (ac 0)) tv Se_23) ++ ((kX1 cs af  Fo) ++ ((kX3 cs ac  Sc))))) (wr := ((kX1 cs af  Fo) ++ ((kX3 cs ac  Sc)))) (st1 := [.int r22, .ref (ase 0)]) [] hx hb hml hown hu (tX4_moveUp l D cs ase (.ref (af 0)) (.ref (ac 0)) tv Se r22 Se_23 hg24) q443 q58 q440 q442 q4 pdX4_moveUp ⟨rfl, rfl, Nat.le_of_ble_eq_true rfl, Nat.le_of_ble_eq_true rfl⟩ hK hZ hP hD hS hA [0, 1, 2, 3] [4, 5, 6, 7, 8, 9, 10, 11, 12, 13] [10, 11, 12, 13, 0, 1, 2, 3, 4, 5, 6, 7, 8, 9] rfl rfl rfl rfl rfl rfl rfl rfl rfl rfl hl.1 rfl (Nat.le_of_ble_eq_true rfl) dX4_next_47 rfl (fun H locs hP hD hS => ?_)
        obtain ⟨Se_25, hSe_25, hf⟩ := lt_el hf
        refine va_put (D := D) (ci := 4) (v := .int r22) (ty := .int) (C := RX4) (T := TX4) (N := 10) hx hb hu inX4 tyX4 tyX4_ok nmX4 hown hK.1 hP hD hS 0 rfl rfl 6 (by decide) (hu _ q167) (fun _ h9 => h9) rfl (by decide +kernel) rfl rfl (Nat.le_of_ble_eq_true rfl) dX4_next_50 (fun H locs hP hD hS => ?_)
        have hP : va_P D vwCl ((kX4 cs ase (.ref (af 0)) (.ref (ac 0)) tv Se_25) ++ ((kX1 cs af  Fo) ++ ((kX3 cs ac  Sc)))) H := by rw [hSe_25]; exact hP
        have hD : va_D A ((kX4 cs ase (.ref (af 0)) (.ref (ac 0)) tv Se_25) ++ ((kX1 cs af  Fo) ++ ((kX3 cs ac  Sc)))) := by rw [hSe_25]; exact hD
        obtain ⟨v26, hv26, hf⟩ := lt_el hf
        refine lv_iinc (v := v26) (lv' := [(3, .int v26), (0, .ref (ase 0)), (1, .int y1), (2, .int y2)]) hx hb dX4_next_53 hl (k := 3) rfl (by rw [hv26]; rfl) (by decide) rfl (fun ls hl => ?_)
        refine lv_goto (tgt := 32) hx hb dX4_next_56 (by decide) ?_
        exact hk32 y1 y2 v26 Se_25 Sc _ _ _ hP hD hS (lv_sub hl [1, 2, 3, 0] rfl) hf
  have h32 : ∀ (n : Nat), ∀ (y1 : Int32) (y2 : Int32) (y3 : Int32) (Se : ST) (Sc : ST) (H : Heap) (locs : List Loc) (ls : Array Slot), va_P D vwCl ((kX4 cs ase (.ref (af 0)) (.ref (ac 0)) tv Se) ++ ((kX1 cs af  Fo) ++ ((kX3 cs ac  Sc)))) H → va_D A ((kX4 cs ase (.ref (af 0)) (.ref (ac 0)) tv Se) ++ ((kX1 cs af  Fo) ++ ((kX3 cs ac  Sc)))) → va_S A s.heap H locs → lv_has ls 5 [(0, .ref (ase 0)), (1, .int y1), (2, .int y2), (3, .int y3)] → fX4_next_q_32 Fo n y1 y2 y3 Se Sc = some (r0, Sez, Scz) → W p l e rmX4_next_q s m [.ref (ase 0), .int x1].toArray below meth c H locs 0 0 Q (F0 m 32 ls []) := by
    intro n
    induction n with
    | zero => intro y1 y2 y3 Se Sc H locs ls hP hD hS hl hf; exact no_el hf
    | succ n ih => intro y1 y2 y3 Se Sc H locs ls hP hD hS hl hf; exact hs32 _ ih y1 y2 y3 Se Sc _ _ _ hP hD hS hl hf
  have hl : lv_has ls0 5 [(0, .ref (ase 0)), (1, .int x1)] := hl0
  have hP := hP0
  have hD := hD0
  have hS := hS0
  unfold fX4_next_q at hf
  refine lv_aload_n hx hb dX4_next_0 rfl (lv_at hl 0 rfl) ?_
  refine lv_iconst (v := (-1)) hx hb dX4_next_1 (by decide) ?_
  obtain ⟨Se_1, hSe_1, hf⟩ := lt_el hf
  refine va_put (D := D) (ci := 4) (v := .int (-1)) (ty := .int) (C := RX4) (T := TX4) (N := 10) hx hb hu inX4 tyX4 tyX4_ok nmX4 hown hK.1 hP hD hS 0 rfl rfl 6 (by decide) (hu _ q167) (fun _ h9 => h9) rfl (by decide +kernel) rfl rfl (Nat.le_of_ble_eq_true rfl) dX4_next_2 (fun H locs hP hD hS => ?_)
  have hP : va_P D vwCl ((kX4 cs ase (.ref (af 0)) (.ref (ac 0)) tv Se_1) ++ ((kX1 cs af  Fo) ++ ((kX3 cs ac  Sc)))) H := by rw [hSe_1]; exact hP
  have hD : va_D A ((kX4 cs ase (.ref (af 0)) (.ref (ac 0)) tv Se_1) ++ ((kX1 cs af  Fo) ++ ((kX3 cs ac  Sc)))) := by rw [hSe_1]; exact hD
  refine lv_aload_n hx hb dX4_next_5 rfl (lv_at hl 0 rfl) ?_
  refine lv_iconst (v := 0) hx hb dX4_next_6 (by decide) ?_
  obtain ⟨Se_2, hSe_2, hf⟩ := lt_el hf
  refine va_put (D := D) (ci := 4) (v := .int 0) (ty := .int) (C := RX4) (T := TX4) (N := 10) hx hb hu inX4 tyX4 tyX4_ok nmX4 hown hK.1 hP hD hS 0 rfl rfl 7 (by decide) (hu _ q169) (fun _ h9 => h9) rfl (by decide +kernel) rfl rfl (Nat.le_of_ble_eq_true rfl) dX4_next_7 (fun H locs hP hD hS => ?_)
  have hP : va_P D vwCl ((kX4 cs ase (.ref (af 0)) (.ref (ac 0)) tv Se_2) ++ ((kX1 cs af  Fo) ++ ((kX3 cs ac  Sc)))) H := by rw [hSe_2]; exact hP
  have hD : va_D A ((kX4 cs ase (.ref (af 0)) (.ref (ac 0)) tv Se_2) ++ ((kX1 cs af  Fo) ++ ((kX3 cs ac  Sc)))) := by rw [hSe_2]; exact hD
  refine lv_aload_n hx hb dX4_next_10 rfl (lv_at hl 0 rfl) ?_
  refine va_get (D := D) (ci := 4) (v := .ref (ase 4)) (C := RX4) (T := TX4) (N := 10) hx hb hu inX4 hown hK.1 hP 0 rfl rfl 3 (by decide) (hu _ q161) (fun _ h9 => h9) rfl dX4_next_11 ?_
  refine lv_iconst (v := 4) hx hb dX4_next_14 (by decide) ?_
  refine ia_lit hx hb hK hP 1 4 rfl (by decide) dX4_next_15 ?_
  refine lv_if_ne (tgt := 28) hx hb dX4_next_16 (by decide) (fun hc3 => ?_) (fun hc3 => ?_)
  · have hf := in_el hc3 hf
    refine lv_iconst (v := 1) hx hb dX4_next_28 (by decide) ?_
    refine lv_istore_n (lv' := [(2, .int 1), (0, .ref (ase 0)), (1, .int x1)]) hx hb dX4_next_29 rfl hl (by decide) rfl (fun ls hl => ?_)
    refine lv_iconst (v := 0) hx hb dX4_next_30 (by decide) ?_
    refine lv_istore_n (lv' := [(3, .int 0), (2, .int 1), (0, .ref (ase 0)), (1, .int x1)]) hx hb dX4_next_31 rfl hl (by decide) rfl (fun ls hl => ?_)
    exact h32 400 x1 1 0 Se_2 Sc _ _ _ hP hD hS (lv_sub hl [2, 3, 1, 0] rfl) hf
  · have hf := ip_el hc3 hf
    refine lv_aload_n hx hb dX4_next_19 rfl (lv_at hl 0 rfl) ?_
    refine va_get (D := D) (ci := 4) (v := .ref (ase 4)) (C := RX4) (T := TX4) (N := 10) hx hb hu inX4 hown hK.1 hP 0 rfl rfl 3 (by decide) (hu _ q161) (fun _ h9 => h9) rfl dX4_next_20 ?_
    refine lv_iconst (v := 0) hx hb dX4_next_23 (by decide) ?_
    refine ia_lit hx hb hK hP 1 0 rfl (by decide) dX4_next_24 ?_
    refine lv_goto (tgt := 29) hx hb dX4_next_25 (by decide) ?_
    obtain ⟨v27, hv27, hf⟩ := lt_el hf
    refine lv_tope hv27 ?_
    refine lv_istore_n (lv' := [(2, .int v27), (0, .ref (ase 0)), (1, .int x1)]) hx hb dX4_next_29 rfl hl (by decide) rfl (fun ls hl => ?_)
    refine lv_iconst (v := 0) hx hb dX4_next_30 (by decide) ?_
    refine lv_istore_n (lv' := [(3, .int 0), (2, .int v27), (0, .ref (ase 0)), (1, .int x1)]) hx hb dX4_next_31 rfl hl (by decide) rfl (fun ls hl => ?_)
    exact h32 400 x1 v27 0 Se_2 Sc _ _ _ hP hD hS (lv_sub hl [2, 3, 1, 0] rfl) hf

def fX4_whatFollows_54_s (Se : ST) (Fo : ST) (k54 : Int32 → Int32 → Int32 → Int32 → Int32 → ST → ST → Option (Int32 × ST × ST)) (y1 : Int32) (y3 : Int32) (y4 : Int32) (y5 : Int32) (y6 : Int32) (Sc : ST) (Tr : ST) : Option (Int32 × ST × ST) :=
  (if y5 ≤ y6 then some (y4, Sc, Tr) else dc_b3 (fX4_next_q (y3 - 1) Tr Fo Sc) (fun r8 Tr_9 Sc_10 => (if r8 = (-1) then dc_lt (y6 + 1) (fun v13 => k54 y1 y3 y4 y5 v13 Sc_10 Tr_9) else dc_ck y1 10 (dc_b1 (fX1_worthOf r8 (Fo 4 (Int32.toNatClampNeg y1)) Fo) (fun r15 => dc_lt (y4 + r15) (fun v17 => dc_lt (y6 + 1) (fun v18 => k54 y1 y3 v17 y5 v18 Sc_10 Tr_9)))))))
def fX4_whatFollows_54 (Se : ST) (Fo : ST) : Nat → Int32 → Int32 → Int32 → Int32 → Int32 → ST → ST → Option (Int32 × ST × ST)
  | 0 => fun _ _ _ _ _ _ _ => none
  | n + 1 => fX4_whatFollows_54_s Se Fo (fX4_whatFollows_54 Se Fo n)
def fX4_whatFollows (x1 : Int32) (x2 : Int32) (x3 : Int32) (Se : ST) (Fo : ST) (Sc : ST) (Tr : ST) : Option (Int32 × ST × ST) :=
  (if 0 < x3 then dc_b1 (fX4_takeFrom Tr Se) (fun Tr_2 => dc_ck ((Se 4 0) - 1) 4 (dc_lt (sti Tr_2 5 (Int32.toNatClampNeg ((Se 4 0) - 1)) x2) (fun Tr_5 => dc_lt ((Se 4 0) + 2) (fun v6 => fX4_whatFollows_54 Se Fo 400 x1 x3 0 v6 0 Sc Tr_5)))) else some (0, Sc, Tr))
abbrev rmX4_whatFollows : Room := { frames := 6, cells := 0, slots := 0, locals := 151 }
set_option maxRecDepth 100000 in
set_option maxHeartbeats 4000000 in
theorem tX4_whatFollows (l : Launch) (D : va_G) (cs : Nat → ClassId) (ase : Nat → Nat) (af : Nat → Nat) (ac : Nat → Nat) (atr : Nat → Nat) (x1 : Int32) (x2 : Int32) (x3 : Int32) (Se : ST) (Fo : ST) (Sc : ST) (Tr : ST) (r0 : Int32) (Scz : ST) (Trz : ST) (hf : fX4_whatFollows x1 x2 x3 Se Fo Sc Tr = some (r0, Scz, Trz)) : CG l yX4_whatFollows (wsm yX4_whatFollows cX4_whatFollows 8 (some .int)) rmX4_whatFollows D cs [.ref (ase 0), .int x1, .int x2, .int x3] (some (.int r0)) ((kX4 cs ase (.ref (af 0)) (.ref (ac 0)) (.ref (atr 0)) Se) ++ ((kX1 cs af  Fo) ++ ((kX3 cs ac  Sc) ++ ((kX4 cs atr (.ref (af 0)) (.ref (ac 0)) .null Tr))))) ((kX4 cs ase (.ref (af 0)) (.ref (ac 0)) (.ref (atr 0)) Se) ++ ((kX1 cs af  Fo) ++ ((kX3 cs ac  Scz) ++ ((kX4 cs atr (.ref (af 0)) (.ref (ac 0)) .null Trz))))) := by
  refine CG.intro (by decide) (Nat.le_of_ble_eq_true rfl) ?_
  intro p e s m below meth c A Q hx hb hml hown hu hK hZ hP0 hD0 hS0 hA hri hrz hrl hrv hra ls0 hl0
  have hs54 : ∀ (k54 : Int32 → Int32 → Int32 → Int32 → Int32 → ST → ST → Option (Int32 × ST × ST)), (∀ (y1 : Int32) (y3 : Int32) (y4 : Int32) (y5 : Int32) (y6 : Int32) (Sc : ST) (Tr : ST) (H : Heap) (locs : List Loc) (ls : Array Slot), va_P D vwCl ((kX4 cs ase (.ref (af 0)) (.ref (ac 0)) (.ref (atr 0)) Se) ++ ((kX1 cs af  Fo) ++ ((kX3 cs ac  Sc) ++ ((kX4 cs atr (.ref (af 0)) (.ref (ac 0)) .null Tr))))) H → va_D A ((kX4 cs ase (.ref (af 0)) (.ref (ac 0)) (.ref (atr 0)) Se) ++ ((kX1 cs af  Fo) ++ ((kX3 cs ac  Sc) ++ ((kX4 cs atr (.ref (af 0)) (.ref (ac 0)) .null Tr))))) → va_S A s.heap H locs → lv_has ls 8 [(0, .ref (ase 0)), (1, .int y1), (3, .int y3), (4, .int y4), (5, .int y5), (6, .int y6)] → k54 y1 y3 y4 y5 y6 Sc Tr = some (r0, Scz, Trz) → W p l e rmX4_whatFollows s m [.ref (ase 0), .int x1, .int x2, .int x3].toArray below meth c H locs 0 0 Q (F0 m 54 ls [])) → ∀ (y1 : Int32) (y3 : Int32) (y4 : Int32) (y5 : Int32) (y6 : Int32) (Sc : ST) (Tr : ST) (H : Heap) (locs : List Loc) (ls : Array Slot), va_P D vwCl ((kX4 cs ase (.ref (af 0)) (.ref (ac 0)) (.ref (atr 0)) Se) ++ ((kX1 cs af  Fo) ++ ((kX3 cs ac  Sc) ++ ((kX4 cs atr (.ref (af 0)) (.ref (ac 0)) .null Tr))))) H → va_D A ((kX4 cs ase (.ref (af 0)) (.ref (ac 0)) (.ref (atr 0)) Se) ++ ((kX1 cs af  Fo) ++ ((kX3 cs ac  Sc) ++ ((kX4 cs atr (.ref (af 0)) (.ref (ac 0)) .null Tr))))) → va_S A s.heap H locs → lv_has ls 8 [(0, .ref (ase 0)), (1, .int y1), (3, .int y3), (4, .int y4), (5, .int y5), (6, .int y6)] → fX4_whatFollows_54_s Se Fo k54 y1 y3 y4 y5 y6 Sc Tr = some (r0, Scz, Trz) → W p l e rmX4_whatFollows s m [.ref (ase 0), .int x1, .int x2, .int x3].toArray below meth c H locs 0 0 Q (F0 m 54 ls []) := by
    intro k54 hk54 y1 y3 y4 y5 y6 Sc Tr H locs ls hP hD hS hl hf
    unfold fX4_whatFollows_54_s at hf
    refine lv_iload hx hb dX4_whatFollows_54 (lv_at hl 5 rfl) ?_
    refine lv_iload hx hb dX4_whatFollows_56 (lv_at hl 4 rfl) ?_
    refine lv_icmp_ge (tgt := 108) hx hb dX4_whatFollows_58 (by decide) (fun hc7 => ?_) (fun hc7 => ?_)
    · have hf := ip_el hc7 hf
      refine lv_iload hx hb dX4_whatFollows_108 (lv_at hl 3 rfl) ?_
      have he := Option.some.inj hf
      obtain ⟨e0, ht0⟩ := Prod.mk.inj he
      obtain ⟨e1, e2⟩ := Prod.mk.inj ht0
      exact hri _ _ _ rfl (congrArg (fun z => some (Value.int z)) e0.symm) dX4_whatFollows_110 _ _ _ (by rw [e1, e2]) hP hD hS
    · have hf := in_el hc7 hf
      refine lv_aload_n hx hb dX4_whatFollows_61 rfl (lv_at hl 0 rfl) ?_
      refine va_get (D := D) (ci := 4) (v := .ref (atr 0)) (C := RX4) (T := TX4) (N := 10) hx hb hu inX4 hown hK.1 hP 0 rfl rfl 2 (by decide) (hu _ q160) (fun _ h9 => h9) rfl dX4_whatFollows_62 ?_
      refine lv_iload_n hx hb dX4_whatFollows_65 rfl (lv_at hl 2 rfl) ?_
      refine lv_iconst (v := 1) hx hb dX4_whatFollows_66 (by decide) ?_
      refine lv_isub hx hb dX4_whatFollows_67 ?_
      obtain ⟨r8, Tr_9, Sc_10, hg11, hf⟩ := b3_el hf
      refine cc_V (w' := ((kX4 cs ase (.ref (af 0)) (.ref (ac 0)) (.ref (atr 0)) Se) ++ ((kX1 cs af  Fo) ++ ((kX3 cs ac  Sc_10) ++ ((kX4 cs atr (.ref (af 0)) (.ref (ac 0)) .null Tr_9)))))) (wr := (kX4 cs ase (.ref (af 0)) (.ref (ac 0)) (.ref (atr 0)) Se)) (st1 := [.int r8]) [.int (y3 - 1)] hx hb hml hown hu (tX4_next_q l D cs atr af ac .null (y3 - 1) Tr Fo Sc r8 Tr_9 Sc_10 hg11) q439 q58 q436 q437 q438 pdX4_next ⟨rfl, rfl, Nat.le_of_ble_eq_true rfl, Nat.le_of_ble_eq_true rfl⟩ hK hZ hP hD hS hA [14, 15, 16, 17, 4, 5, 6, 7, 8, 9, 10, 11, 12, 13] [0, 1, 2, 3] [0, 1, 2, 3, 8, 9, 10, 11, 12, 13, 14, 15, 16, 17, 4, 5, 6, 7] rfl rfl rfl rfl rfl rfl rfl rfl rfl rfl hl.1 rfl (Nat.le_of_ble_eq_true rfl) dX4_whatFollows_68 rfl (fun H locs hP hD hS => ?_)
      refine lv_istore (lv' := [(7, .int r8), (0, .ref (ase 0)), (1, .int y1), (3, .int y3), (4, .int y4), (5, .int y5), (6, .int y6)]) hx hb dX4_whatFollows_71 hl (by decide) rfl (fun ls hl => ?_)
      refine lv_iload hx hb dX4_whatFollows_73 (lv_at hl 0 rfl) ?_
      refine lv_iconst (v := (-1)) hx hb dX4_whatFollows_75 (by decide) ?_
      refine lv_icmp_eq (tgt := 102) hx hb dX4_whatFollows_76 (by decide) (fun hc12 => ?_) (fun hc12 => ?_)
      · have hf := ip_el hc12 hf
        obtain ⟨v13, hv13, hf⟩ := lt_el hf
        refine lv_iinc (v := v13) (lv' := [(6, .int v13), (7, .int r8), (0, .ref (ase 0)), (1, .int y1), (3, .int y3), (4, .int y4), (5, .int y5)]) hx hb dX4_whatFollows_102 hl (k := 6) rfl (by rw [hv13]; rfl) (by decide) rfl (fun ls hl => ?_)
        refine lv_goto (tgt := 54) hx hb dX4_whatFollows_105 (by decide) ?_
        exact hk54 y1 y3 y4 y5 v13 Sc_10 Tr_9 _ _ _ hP hD hS (lv_sub hl [2, 3, 4, 5, 6, 0] rfl) hf
      · have hf := in_el hc12 hf
        refine lv_iload hx hb dX4_whatFollows_79 (lv_at hl 4 rfl) ?_
        refine lv_aload_n hx hb dX4_whatFollows_81 rfl (lv_at hl 1 rfl) ?_
        refine va_get (D := D) (ci := 4) (v := .ref (af 0)) (C := RX4) (T := TX4) (N := 10) hx hb hu inX4 hown hK.1 hP 0 rfl rfl 0 (by decide) (hu _ q158) (fun _ h9 => h9) rfl dX4_whatFollows_82 ?_
        refine lv_iload hx hb dX4_whatFollows_85 (lv_at hl 0 rfl) ?_
        refine lv_aload_n hx hb dX4_whatFollows_87 rfl (lv_at hl 1 rfl) ?_
        refine va_get (D := D) (ci := 4) (v := .ref (af 0)) (C := RX4) (T := TX4) (N := 10) hx hb hu inX4 hown hK.1 hP 0 rfl rfl 0 (by decide) (hu _ q158) (fun _ h9 => h9) rfl dX4_whatFollows_88 ?_
        refine va_get (D := D) (ci := 1) (v := .ref (af 4)) (C := RX1) (T := TX1) (N := 9) hx hb hu inX1 hown hK.1 hP 4 rfl rfl 3 (by decide) (hu _ q102) (fun _ h9 => h9) rfl dX4_whatFollows_91 ?_
        refine lv_iload_n hx hb dX4_whatFollows_94 rfl (lv_at hl 2 rfl) ?_
        obtain ⟨hi14, hf⟩ := ck_el hf
        refine va_iald hx hb hK.1 hP 7 0 rfl rfl hi14 dX4_whatFollows_95 ?_
        obtain ⟨r15, hg16, hf⟩ := b1_el hf
        refine cc_V (w' := ((kX4 cs ase (.ref (af 0)) (.ref (ac 0)) (.ref (atr 0)) Se) ++ ((kX1 cs af  Fo) ++ ((kX3 cs ac  Sc_10) ++ ((kX4 cs atr (.ref (af 0)) (.ref (ac 0)) .null Tr_9)))))) (wr := ((kX4 cs ase (.ref (af 0)) (.ref (ac 0)) (.ref (atr 0)) Se) ++ ((kX3 cs ac  Sc_10) ++ ((kX4 cs atr (.ref (af 0)) (.ref (ac 0)) .null Tr_9))))) (st1 := [.int r15, .int y4]) [.int r8, .int (Fo 4 (Int32.toNatClampNeg y1))] hx hb hml hown hu (tX1_worthOf l D cs af r8 (Fo 4 (Int32.toNatClampNeg y1)) Fo r15 hg16) q414 q56 q411 q412 q413 pdX1_worthOf ⟨rfl, rfl, Nat.le_of_ble_eq_true rfl, Nat.le_of_ble_eq_true rfl⟩ hK hZ hP hD hS hA [4, 5, 6, 7, 8, 9, 10] [0, 1, 2, 3, 11, 12, 13, 14, 15, 16, 17] [0, 1, 2, 3, 11, 12, 13, 14, 15, 16, 17, 4, 5, 6, 7, 8, 9, 10] rfl rfl rfl rfl rfl rfl rfl rfl rfl rfl hl.1 rfl (Nat.le_of_ble_eq_true rfl) dX4_whatFollows_96 rfl (fun H locs hP hD hS => ?_)
        refine lv_iadd hx hb dX4_whatFollows_99 ?_
        obtain ⟨v17, hv17, hf⟩ := lt_el hf
        refine lv_tope hv17 ?_
        refine lv_istore (lv' := [(4, .int v17), (7, .int r8), (0, .ref (ase 0)), (1, .int y1), (3, .int y3), (5, .int y5), (6, .int y6)]) hx hb dX4_whatFollows_100 hl (by decide) rfl (fun ls hl => ?_)
        obtain ⟨v18, hv18, hf⟩ := lt_el hf
        refine lv_iinc (v := v18) (lv' := [(6, .int v18), (4, .int v17), (7, .int r8), (0, .ref (ase 0)), (1, .int y1), (3, .int y3), (5, .int y5)]) hx hb dX4_whatFollows_102 hl (k := 6) rfl (by rw [hv18]; rfl) (by decide) rfl (fun ls hl => ?_)
        refine lv_goto (tgt := 54) hx hb dX4_whatFollows_105 (by decide) ?_
        exact hk54 y1 y3 v17 y5 v18 Sc_10 Tr_9 _ _ _ hP hD hS (lv_sub hl [3, 4, 5, 1, 6, 0] rfl) hf
  have h54 : ∀ (n : Nat), ∀ (y1 : Int32) (y3 : Int32) (y4 : Int32) (y5 : Int32) (y6 : Int32) (Sc : ST) (Tr : ST) (H : Heap) (locs : List Loc) (ls : Array Slot), va_P D vwCl ((kX4 cs ase (.ref (af 0)) (.ref (ac 0)) (.ref (atr 0)) Se) ++ ((kX1 cs af  Fo) ++ ((kX3 cs ac  Sc) ++ ((kX4 cs atr (.ref (af 0)) (.ref (ac 0)) .null Tr))))) H → va_D A ((kX4 cs ase (.ref (af 0)) (.ref (ac 0)) (.ref (atr 0)) Se) ++ ((kX1 cs af  Fo) ++ ((kX3 cs ac  Sc) ++ ((kX4 cs atr (.ref (af 0)) (.ref (ac 0)) .null Tr))))) → va_S A s.heap H locs → lv_has ls 8 [(0, .ref (ase 0)), (1, .int y1), (3, .int y3), (4, .int y4), (5, .int y5), (6, .int y6)] → fX4_whatFollows_54 Se Fo n y1 y3 y4 y5 y6 Sc Tr = some (r0, Scz, Trz) → W p l e rmX4_whatFollows s m [.ref (ase 0), .int x1, .int x2, .int x3].toArray below meth c H locs 0 0 Q (F0 m 54 ls []) := by
    intro n
    induction n with
    | zero => intro y1 y3 y4 y5 y6 Sc Tr H locs ls hP hD hS hl hf; exact no_el hf
    | succ n ih => intro y1 y3 y4 y5 y6 Sc Tr H locs ls hP hD hS hl hf; exact hs54 _ ih y1 y3 y4 y5 y6 Sc Tr _ _ _ hP hD hS hl hf
  have hl : lv_has ls0 8 [(0, .ref (ase 0)), (1, .int x1), (2, .int x2), (3, .int x3)] := hl0
  have hP := hP0
  have hD := hD0
  have hS := hS0
  unfold fX4_whatFollows at hf
  refine lv_aload_n hx hb dX4_whatFollows_0 rfl (lv_at hl 0 rfl) ?_
  refine va_get (D := D) (ci := 4) (v := .ref (atr 0)) (C := RX4) (T := TX4) (N := 10) hx hb hu inX4 hown hK.1 hP 0 rfl rfl 2 (by decide) (hu _ q160) (fun _ h9 => h9) rfl dX4_whatFollows_1 ?_
  refine lv_ifnull hx hb dX4_whatFollows_4 ?_
  refine lv_iload_n hx hb dX4_whatFollows_7 rfl (lv_at hl 3 rfl) ?_
  refine lv_if_gt (tgt := 13) hx hb dX4_whatFollows_8 (by decide) (fun hc1 => ?_) (fun hc1 => ?_)
  · have hf := ip_el hc1 hf
    refine lv_aload_n hx hb dX4_whatFollows_13 rfl (lv_at hl 0 rfl) ?_
    refine va_get (D := D) (ci := 4) (v := .ref (atr 0)) (C := RX4) (T := TX4) (N := 10) hx hb hu inX4 hown hK.1 hP 0 rfl rfl 2 (by decide) (hu _ q160) (fun _ h9 => h9) rfl dX4_whatFollows_14 ?_
    refine lv_aload_n hx hb dX4_whatFollows_17 rfl (lv_at hl 0 rfl) ?_
    obtain ⟨Tr_2, hg3, hf⟩ := b1_el hf
    refine cc_V (w' := ((kX4 cs ase (.ref (af 0)) (.ref (ac 0)) (.ref (atr 0)) Se) ++ ((kX1 cs af  Fo) ++ ((kX3 cs ac  Sc) ++ ((kX4 cs atr (.ref (af 0)) (.ref (ac 0)) .null Tr_2)))))) (wr := ((kX1 cs af  Fo) ++ ((kX3 cs ac  Sc)))) (st1 := []) [.ref (ase 0)] hx hb hml hown hu (tX4_takeFrom l D cs atr (.ref (af 0)) (.ref (ac 0)) .null ase (.ref (af 0)) (.ref (ac 0)) (.ref (atr 0)) Tr Se Tr_2 hg3) q428 q58 q425 q426 q427 pdX4_takeFrom ⟨rfl, rfl, Nat.le_of_ble_eq_true rfl, Nat.le_of_ble_eq_true rfl⟩ hK hZ hP hD hS hA [14, 15, 16, 17, 0, 1, 2, 3] [4, 5, 6, 7, 8, 9, 10, 11, 12, 13] [14, 15, 16, 17, 0, 1, 2, 3, 4, 5, 6, 7, 8, 9, 10, 11, 12, 13] rfl rfl rfl rfl rfl rfl rfl rfl rfl rfl hl.1 rfl (Nat.le_of_ble_eq_true rfl) dX4_whatFollows_18 rfl (fun H locs hP hD hS => ?_)
    refine lv_aload_n hx hb dX4_whatFollows_21 rfl (lv_at hl 0 rfl) ?_
    refine va_get (D := D) (ci := 4) (v := .ref (atr 0)) (C := RX4) (T := TX4) (N := 10) hx hb hu inX4 hown hK.1 hP 0 rfl rfl 2 (by decide) (hu _ q160) (fun _ h9 => h9) rfl dX4_whatFollows_22 ?_
    refine va_get (D := D) (ci := 4) (v := .ref (atr 5)) (C := RX4) (T := TX4) (N := 10) hx hb hu inX4 hown hK.1 hP 14 rfl rfl 4 (by decide) (hu _ q163) (fun _ h9 => h9) rfl dX4_whatFollows_25 ?_
    refine lv_aload_n hx hb dX4_whatFollows_28 rfl (lv_at hl 0 rfl) ?_
    refine va_get (D := D) (ci := 4) (v := .ref (ase 4)) (C := RX4) (T := TX4) (N := 10) hx hb hu inX4 hown hK.1 hP 0 rfl rfl 3 (by decide) (hu _ q161) (fun _ h9 => h9) rfl dX4_whatFollows_29 ?_
    refine lv_iconst (v := 0) hx hb dX4_whatFollows_32 (by decide) ?_
    refine ia_lit hx hb hK hP 1 0 rfl (by decide) dX4_whatFollows_33 ?_
    refine lv_iconst (v := 1) hx hb dX4_whatFollows_34 (by decide) ?_
    refine lv_isub hx hb dX4_whatFollows_35 ?_
    refine lv_iload_n hx hb dX4_whatFollows_36 rfl (lv_at hl 2 rfl) ?_
    obtain ⟨hi4, hf⟩ := ck_el hf
    obtain ⟨Tr_5, hTr_5, hf⟩ := lt_el hf
    refine va_iast hx hb hK.1 hP hD hS 16 0 rfl rfl hi4 dX4_whatFollows_37 (fun H locs hP hD hS => ?_)
    have hP : va_P D vwCl ((kX4 cs ase (.ref (af 0)) (.ref (ac 0)) (.ref (atr 0)) Se) ++ ((kX1 cs af  Fo) ++ ((kX3 cs ac  Sc) ++ ((kX4 cs atr (.ref (af 0)) (.ref (ac 0)) .null Tr_5))))) H := by rw [hTr_5]; exact hP
    have hD : va_D A ((kX4 cs ase (.ref (af 0)) (.ref (ac 0)) (.ref (atr 0)) Se) ++ ((kX1 cs af  Fo) ++ ((kX3 cs ac  Sc) ++ ((kX4 cs atr (.ref (af 0)) (.ref (ac 0)) .null Tr_5))))) := by rw [hTr_5]; exact hD
    refine lv_iconst (v := 0) hx hb dX4_whatFollows_38 (by decide) ?_
    refine lv_istore (lv' := [(4, .int 0), (0, .ref (ase 0)), (1, .int x1), (2, .int x2), (3, .int x3)]) hx hb dX4_whatFollows_39 hl (by decide) rfl (fun ls hl => ?_)
    refine lv_aload_n hx hb dX4_whatFollows_41 rfl (lv_at hl 1 rfl) ?_
    refine va_get (D := D) (ci := 4) (v := .ref (ase 4)) (C := RX4) (T := TX4) (N := 10) hx hb hu inX4 hown hK.1 hP 0 rfl rfl 3 (by decide) (hu _ q161) (fun _ h9 => h9) rfl dX4_whatFollows_42 ?_
    refine lv_iconst (v := 0) hx hb dX4_whatFollows_45 (by decide) ?_
    refine ia_lit hx hb hK hP 1 0 rfl (by decide) dX4_whatFollows_46 ?_
    refine lv_iconst (v := 2) hx hb dX4_whatFollows_47 (by decide) ?_
    refine lv_iadd hx hb dX4_whatFollows_48 ?_
    obtain ⟨v6, hv6, hf⟩ := lt_el hf
    refine lv_tope hv6 ?_
    refine lv_istore (lv' := [(5, .int v6), (4, .int 0), (0, .ref (ase 0)), (1, .int x1), (2, .int x2), (3, .int x3)]) hx hb dX4_whatFollows_49 hl (by decide) rfl (fun ls hl => ?_)
    refine lv_iconst (v := 0) hx hb dX4_whatFollows_51 (by decide) ?_
    refine lv_istore (lv' := [(6, .int 0), (5, .int v6), (4, .int 0), (0, .ref (ase 0)), (1, .int x1), (2, .int x2), (3, .int x3)]) hx hb dX4_whatFollows_52 hl (by decide) rfl (fun ls hl => ?_)
    exact h54 400 x1 x3 0 v6 0 Sc Tr_5 _ _ _ hP hD hS (lv_sub hl [3, 4, 6, 2, 1, 0] rfl) hf
  · have hf := in_el hc1 hf
    refine lv_iconst (v := 0) hx hb dX4_whatFollows_11 (by decide) ?_
    have he := Option.some.inj hf
    obtain ⟨e0, ht0⟩ := Prod.mk.inj he
    obtain ⟨e1, e2⟩ := Prod.mk.inj ht0
    exact hri _ _ _ rfl (congrArg (fun z => some (Value.int z)) e0.symm) dX4_whatFollows_12 _ _ _ (by rw [e1, e2]) hP hD hS

def fX4_measure_82 (Se : ST) (Fo : ST) (y2 : Int32) (y3 : Int32) (Sc : ST) (Tr : ST) : Option (Int32 × ST × ST) :=
  dc_ck ((y2 * 10) + y3) 100 (some ((Fo 7 (Int32.toNatClampNeg ((y2 * 10) + y3))), Sc, Tr))
def fX4_measure (x1 : Int32) (x2 : Int32) (x3 : Int32) (x4 : Int32) (Se : ST) (Fo : ST) (Sc : ST) (Tr : ST) : Option (Int32 × ST × ST) :=
  (if x1 = 2 then dc_ck ((x2 * 10) + x3) 100 (some ((-(Fo 7 (Int32.toNatClampNeg ((x2 * 10) + x3)))), Sc, Tr)) else if x1 = 3 then dc_ck x3 10 (some ((Fo 3 (Int32.toNatClampNeg x3)), Sc, Tr)) else if x1 = 4 then fX4_measure_82 Se Fo x2 x3 Sc Tr else if x1 = 5 then dc_b2 (fX3_work x2 x3 Sc Se Fo) (fun r8 Sc_9 => some (r8, Sc_9, Tr)) else if x1 = 6 then dc_b3 (fX4_whatFollows x2 x3 x4 Se Fo Sc Tr) (fun r12 Sc_13 Tr_14 => some (r12, Sc_13, Tr_14)) else fX4_measure_82 Se Fo x2 x3 Sc Tr)
abbrev rmX4_measure : Room := { frames := 7, cells := 0, slots := 0, locals := 178 }
set_option maxRecDepth 100000 in
set_option maxHeartbeats 4000000 in
theorem tX4_measure (l : Launch) (D : va_G) (cs : Nat → ClassId) (ase : Nat → Nat) (af : Nat → Nat) (ac : Nat → Nat) (atr : Nat → Nat) (x1 : Int32) (x2 : Int32) (x3 : Int32) (x4 : Int32) (Se : ST) (Fo : ST) (Sc : ST) (Tr : ST) (r0 : Int32) (Scz : ST) (Trz : ST) (hf : fX4_measure x1 x2 x3 x4 Se Fo Sc Tr = some (r0, Scz, Trz)) : CG l yX4_measure (wsm yX4_measure cX4_measure 5 (some .int)) rmX4_measure D cs [.ref (ase 0), .int x1, .int x2, .int x3, .int x4] (some (.int r0)) ((kX4 cs ase (.ref (af 0)) (.ref (ac 0)) (.ref (atr 0)) Se) ++ ((kX1 cs af  Fo) ++ ((kX3 cs ac  Sc) ++ ((kX4 cs atr (.ref (af 0)) (.ref (ac 0)) .null Tr))))) ((kX4 cs ase (.ref (af 0)) (.ref (ac 0)) (.ref (atr 0)) Se) ++ ((kX1 cs af  Fo) ++ ((kX3 cs ac  Scz) ++ ((kX4 cs atr (.ref (af 0)) (.ref (ac 0)) .null Trz))))) := by
  refine CG.intro (by decide) (Nat.le_of_ble_eq_true rfl) ?_
  intro p e s m below meth c A Q hx hb hml hown hu hK hZ hP0 hD0 hS0 hA hri hrz hrl hrv hra ls0 hl0
  have h82 : ∀ (y2 : Int32) (y3 : Int32) (Sc : ST) (Tr : ST) (H : Heap) (locs : List Loc) (ls : Array Slot), va_P D vwCl ((kX4 cs ase (.ref (af 0)) (.ref (ac 0)) (.ref (atr 0)) Se) ++ ((kX1 cs af  Fo) ++ ((kX3 cs ac  Sc) ++ ((kX4 cs atr (.ref (af 0)) (.ref (ac 0)) .null Tr))))) H → va_D A ((kX4 cs ase (.ref (af 0)) (.ref (ac 0)) (.ref (atr 0)) Se) ++ ((kX1 cs af  Fo) ++ ((kX3 cs ac  Sc) ++ ((kX4 cs atr (.ref (af 0)) (.ref (ac 0)) .null Tr))))) → va_S A s.heap H locs → lv_has ls 5 [(0, .ref (ase 0)), (2, .int y2), (3, .int y3)] → fX4_measure_82 Se Fo y2 y3 Sc Tr = some (r0, Scz, Trz) → W p l e rmX4_measure s m [.ref (ase 0), .int x1, .int x2, .int x3, .int x4].toArray below meth c H locs 0 0 Q (F0 m 82 ls []) := by
    intro y2 y3 Sc Tr H locs ls hP hD hS hl hf
    unfold fX4_measure_82 at hf
    refine lv_aload_n hx hb dX4_measure_82 rfl (lv_at hl 0 rfl) ?_
    refine va_get (D := D) (ci := 4) (v := .ref (af 0)) (C := RX4) (T := TX4) (N := 10) hx hb hu inX4 hown hK.1 hP 0 rfl rfl 0 (by decide) (hu _ q158) (fun _ h9 => h9) rfl dX4_measure_83 ?_
    refine va_get (D := D) (ci := 1) (v := .ref (af 7)) (C := RX1) (T := TX1) (N := 9) hx hb hu inX1 hown hK.1 hP 4 rfl rfl 6 (by decide) (hu _ q108) (fun _ h9 => h9) rfl dX4_measure_86 ?_
    refine lv_iload_n hx hb dX4_measure_89 rfl (lv_at hl 1 rfl) ?_
    refine lv_bipush (v := 10) hx hb dX4_measure_90 (by decide) ?_
    refine lv_imul hx hb dX4_measure_92 ?_
    refine lv_iload_n hx hb dX4_measure_93 rfl (lv_at hl 2 rfl) ?_
    refine lv_iadd hx hb dX4_measure_94 ?_
    obtain ⟨hi6, hf⟩ := ck_el hf
    refine va_iald hx hb hK.1 hP 9 0 rfl rfl hi6 dX4_measure_95 ?_
    have he := Option.some.inj hf
    obtain ⟨e0, ht0⟩ := Prod.mk.inj he
    obtain ⟨e1, e2⟩ := Prod.mk.inj ht0
    exact hri _ _ _ rfl (congrArg (fun z => some (Value.int z)) e0.symm) dX4_measure_96 _ _ _ (by rw [e1, e2]) hP hD hS
  have hl : lv_has ls0 5 [(0, .ref (ase 0)), (1, .int x1), (2, .int x2), (3, .int x3), (4, .int x4)] := hl0
  have hP := hP0
  have hD := hD0
  have hS := hS0
  unfold fX4_measure at hf
  refine lv_iload_n hx hb dX4_measure_0 rfl (lv_at hl 1 rfl) ?_
  by_cases hc1 : x1 = 2
  · have hf := ip_el hc1 hf
    refine lv_tableIn (off := 35) (tgt := 36) hx hb dX4_measure_1 (by rw [hc1]; decide) (by rw [hc1]; decide) (by rw [hc1]; decide) (by decide) ?_
    refine lv_aload_n hx hb dX4_measure_36 rfl (lv_at hl 0 rfl) ?_
    refine va_get (D := D) (ci := 4) (v := .ref (af 0)) (C := RX4) (T := TX4) (N := 10) hx hb hu inX4 hown hK.1 hP 0 rfl rfl 0 (by decide) (hu _ q158) (fun _ h9 => h9) rfl dX4_measure_37 ?_
    refine va_get (D := D) (ci := 1) (v := .ref (af 7)) (C := RX1) (T := TX1) (N := 9) hx hb hu inX1 hown hK.1 hP 4 rfl rfl 6 (by decide) (hu _ q108) (fun _ h9 => h9) rfl dX4_measure_40 ?_
    refine lv_iload_n hx hb dX4_measure_43 rfl (lv_at hl 2 rfl) ?_
    refine lv_bipush (v := 10) hx hb dX4_measure_44 (by decide) ?_
    refine lv_imul hx hb dX4_measure_46 ?_
    refine lv_iload_n hx hb dX4_measure_47 rfl (lv_at hl 3 rfl) ?_
    refine lv_iadd hx hb dX4_measure_48 ?_
    obtain ⟨hi2, hf⟩ := ck_el hf
    refine va_iald hx hb hK.1 hP 9 0 rfl rfl hi2 dX4_measure_49 ?_
    refine lv_ineg hx hb dX4_measure_50 ?_
    have he := Option.some.inj hf
    obtain ⟨e0, ht0⟩ := Prod.mk.inj he
    obtain ⟨e1, e2⟩ := Prod.mk.inj ht0
    exact hri _ _ _ rfl (congrArg (fun z => some (Value.int z)) e0.symm) dX4_measure_51 _ _ _ (by rw [e1, e2]) hP hD hS
  have hf := in_el hc1 hf
  by_cases hc3 : x1 = 3
  · have hf := ip_el hc3 hf
    refine lv_tableIn (off := 51) (tgt := 52) hx hb dX4_measure_1 (by rw [hc3]; decide) (by rw [hc3]; decide) (by rw [hc3]; decide) (by decide) ?_
    refine lv_aload_n hx hb dX4_measure_52 rfl (lv_at hl 0 rfl) ?_
    refine va_get (D := D) (ci := 4) (v := .ref (af 0)) (C := RX4) (T := TX4) (N := 10) hx hb hu inX4 hown hK.1 hP 0 rfl rfl 0 (by decide) (hu _ q158) (fun _ h9 => h9) rfl dX4_measure_53 ?_
    refine va_get (D := D) (ci := 1) (v := .ref (af 3)) (C := RX1) (T := TX1) (N := 9) hx hb hu inX1 hown hK.1 hP 4 rfl rfl 2 (by decide) (hu _ q99) (fun _ h9 => h9) rfl dX4_measure_56 ?_
    refine lv_iload_n hx hb dX4_measure_59 rfl (lv_at hl 3 rfl) ?_
    obtain ⟨hi4, hf⟩ := ck_el hf
    refine va_iald hx hb hK.1 hP 6 0 rfl rfl hi4 dX4_measure_60 ?_
    have he := Option.some.inj hf
    obtain ⟨e0, ht0⟩ := Prod.mk.inj he
    obtain ⟨e1, e2⟩ := Prod.mk.inj ht0
    exact hri _ _ _ rfl (congrArg (fun z => some (Value.int z)) e0.symm) dX4_measure_61 _ _ _ (by rw [e1, e2]) hP hD hS
  have hf := in_el hc3 hf
  by_cases hc5 : x1 = 4
  · have hf := ip_el hc5 hf
    refine lv_tableIn (off := 81) (tgt := 82) hx hb dX4_measure_1 (by rw [hc5]; decide) (by rw [hc5]; decide) (by rw [hc5]; decide) (by decide) ?_
    exact h82 x2 x3 Sc Tr _ _ _ hP hD hS (lv_sub hl [0, 2, 3] rfl) hf
  have hf := in_el hc5 hf
  by_cases hc7 : x1 = 5
  · have hf := ip_el hc7 hf
    refine lv_tableIn (off := 61) (tgt := 62) hx hb dX4_measure_1 (by rw [hc7]; decide) (by rw [hc7]; decide) (by rw [hc7]; decide) (by decide) ?_
    refine lv_aload_n hx hb dX4_measure_62 rfl (lv_at hl 0 rfl) ?_
    refine va_get (D := D) (ci := 4) (v := .ref (ac 0)) (C := RX4) (T := TX4) (N := 10) hx hb hu inX4 hown hK.1 hP 0 rfl rfl 1 (by decide) (hu _ q159) (fun _ h9 => h9) rfl dX4_measure_63 ?_
    refine lv_aload_n hx hb dX4_measure_66 rfl (lv_at hl 0 rfl) ?_
    refine lv_iload_n hx hb dX4_measure_67 rfl (lv_at hl 2 rfl) ?_
    refine lv_iload_n hx hb dX4_measure_68 rfl (lv_at hl 3 rfl) ?_
    obtain ⟨r8, Sc_9, hg10, hf⟩ := b2_el hf
    refine cc_V (w' := ((kX4 cs ase (.ref (af 0)) (.ref (ac 0)) (.ref (atr 0)) Se) ++ ((kX1 cs af  Fo) ++ ((kX3 cs ac  Sc_9) ++ ((kX4 cs atr (.ref (af 0)) (.ref (ac 0)) .null Tr)))))) (wr := (kX4 cs atr (.ref (af 0)) (.ref (ac 0)) .null Tr)) (st1 := [.int r8]) [.ref (ase 0), .int x2, .int x3] hx hb hml hown hu (tX3_work l D cs ac ase af (.ref (atr 0)) x2 x3 Sc Se Fo r8 Sc_9 hg10) q406 q57 q403 q404 q405 pdX3_work ⟨rfl, rfl, Nat.le_of_ble_eq_true rfl, Nat.le_of_ble_eq_true rfl⟩ hK hZ hP hD hS hA [11, 12, 13, 0, 1, 2, 3, 4, 5, 6, 7, 8, 9, 10] [14, 15, 16, 17] [7, 8, 9, 10, 11, 12, 13, 14, 15, 16, 17, 4, 5, 6, 0, 1, 2, 3] rfl rfl rfl rfl rfl rfl rfl rfl rfl rfl hl.1 rfl (Nat.le_of_ble_eq_true rfl) dX4_measure_69 rfl (fun H locs hP hD hS => ?_)
    have he := Option.some.inj hf
    obtain ⟨e0, ht0⟩ := Prod.mk.inj he
    obtain ⟨e1, e2⟩ := Prod.mk.inj ht0
    exact hri _ _ _ rfl (congrArg (fun z => some (Value.int z)) e0.symm) dX4_measure_72 _ _ _ (by rw [e1, e2]) hP hD hS
  have hf := in_el hc7 hf
  by_cases hc11 : x1 = 6
  · have hf := ip_el hc11 hf
    refine lv_tableIn (off := 72) (tgt := 73) hx hb dX4_measure_1 (by rw [hc11]; decide) (by rw [hc11]; decide) (by rw [hc11]; decide) (by decide) ?_
    refine lv_aload_n hx hb dX4_measure_73 rfl (lv_at hl 0 rfl) ?_
    refine lv_iload_n hx hb dX4_measure_74 rfl (lv_at hl 2 rfl) ?_
    refine lv_iload_n hx hb dX4_measure_75 rfl (lv_at hl 3 rfl) ?_
    refine lv_iload hx hb dX4_measure_76 (lv_at hl 4 rfl) ?_
    obtain ⟨r12, Sc_13, Tr_14, hg15, hf⟩ := b3_el hf
    refine cc_V1 (w' := ((kX4 cs ase (.ref (af 0)) (.ref (ac 0)) (.ref (atr 0)) Se) ++ ((kX1 cs af  Fo) ++ ((kX3 cs ac  Sc_13) ++ ((kX4 cs atr (.ref (af 0)) (.ref (ac 0)) .null Tr_14)))))) (st1 := [.int r12]) [.int x2, .int x3, .int x4] hx hb hml hown hu (tX4_whatFollows l D cs ase af ac atr x2 x3 x4 Se Fo Sc Tr r12 Sc_13 Tr_14 hg15) q424 q58 q421 q422 q423 pdX4_whatFollows ⟨rfl, rfl, Nat.le_of_ble_eq_true rfl, Nat.le_of_ble_eq_true rfl⟩ hK hZ hP hD hS hA rfl rfl rfl rfl hl.1 rfl (Nat.le_of_ble_eq_true rfl) dX4_measure_78 rfl (fun H locs hP hD hS => ?_)
    have he := Option.some.inj hf
    obtain ⟨e0, ht0⟩ := Prod.mk.inj he
    obtain ⟨e1, e2⟩ := Prod.mk.inj ht0
    exact hri _ _ _ rfl (congrArg (fun z => some (Value.int z)) e0.symm) dX4_measure_81 _ _ _ (by rw [e1, e2]) hP hD hS
  have hf := in_el hc11 hf
  have nhc1 := sw_ne (a := 2) hc1 (by decide)
  have nhc3 := sw_ne (a := 3) hc3 (by decide)
  have nhc5 := sw_ne (a := 4) hc5 (by decide)
  have nhc7 := sw_ne (a := 5) hc7 (by decide)
  have nhc11 := sw_ne (a := 6) hc11 (by decide)
  refine lv_tableOut (tgt := 82) hx hb dX4_measure_1 (by omega) (by decide) ?_
  exact h82 x2 x3 Sc Tr _ _ _ hP hD hS (lv_sub hl [0, 2, 3] rfl) hf

def fX4_choice_128_s (Se : ST) (Fo : ST) (k128 : Int32 → Int32 → Int32 → Int32 → Int32 → Int32 → Int32 → ST → ST → Option (Int32 × ST × ST)) (y2 : Int32) (y3 : Int32) (y5 : Int32) (y6 : Int32) (y7 : Int32) (y8 : Int32) (y9 : Int32) (Sc : ST) (Tr : ST) : Option (Int32 × ST × ST) :=
  (if (Fo 0 0) ≤ y9 then some (y7, Sc, Tr) else dc_b1 (fX7_isIn y3 y9) (fun r15 => (if r15 = 0 then dc_lt (y9 + 1) (fun v18 => k128 y2 y3 y5 y6 y7 y8 v18 Sc Tr) else dc_b3 (fX4_measure y5 y6 y9 y2 Se Fo Sc Tr) (fun r19 Sc_20 Tr_21 => (if y7 = (-1) then dc_lt (y9 + 1) (fun v24 => k128 y2 y3 y5 y6 y9 r19 v24 Sc_20 Tr_21) else (if r19 ≤ y8 then dc_lt (y9 + 1) (fun v26 => k128 y2 y3 y5 y6 y7 y8 v26 Sc_20 Tr_21) else dc_lt (y9 + 1) (fun v27 => k128 y2 y3 y5 y6 y9 r19 v27 Sc_20 Tr_21)))))))
def fX4_choice_128 (Se : ST) (Fo : ST) : Nat → Int32 → Int32 → Int32 → Int32 → Int32 → Int32 → Int32 → ST → ST → Option (Int32 × ST × ST)
  | 0 => fun _ _ _ _ _ _ _ _ _ => none
  | n + 1 => fX4_choice_128_s Se Fo (fX4_choice_128 Se Fo n)
def fX4_choice_117 (Se : ST) (Fo : ST) (y2 : Int32) (y3 : Int32) (y5 : Int32) (s0 : Int32) (Sc : ST) (Tr : ST) : Option (Int32 × ST × ST) :=
  fX4_choice_128 Se Fo 400 y2 y3 y5 s0 (-1) 0 0 Sc Tr
def fX4_choice_109 (Se : ST) (Fo : ST) (y2 : Int32) (y3 : Int32) (y5 : Int32) (Sc : ST) (Tr : ST) : Option (Int32 × ST × ST) :=
  dc_b1 (fX4_firstNamed Se) (fun r12 => fX4_choice_117 Se Fo y2 y3 y5 r12 Sc Tr)
def fX4_choice_97 (Se : ST) (Fo : ST) (y1 : Int32) (y2 : Int32) (y3 : Int32) (y5 : Int32) (Sc : ST) (Tr : ST) : Option (Int32 × ST × ST) :=
  (if y5 = 1 then fX4_choice_109 Se Fo y2 y3 y5 Sc Tr else (if y5 = 2 then fX4_choice_109 Se Fo y2 y3 y5 Sc Tr else fX4_choice_117 Se Fo y2 y3 y5 y1 Sc Tr))
def fX4_choice_37 (Se : ST) (Fo : ST) (y1 : Int32) (y2 : Int32) (y3 : Int32) (s0 : Int32) (Sc : ST) (Tr : ST) : Option (Int32 × ST × ST) :=
  dc_b1 (fX7_isIn y3 s0) (fun r5 => (if r5 = 0 then dc_b1 (fX4_wayOf y1 y2 Se Fo Sc) (fun r8 => (if r8 = 4 then dc_ck y1 10 (dc_b1 (fX1_ofSort (Fo 4 (Int32.toNatClampNeg y1)) Fo) (fun r30 => dc_lt (y3 &&& r30) (fun v32 => (if v32 = 0 then fX4_choice_97 Se Fo y1 y2 y3 r8 Sc Tr else fX4_choice_97 Se Fo y1 y2 v32 r8 Sc Tr)))) else fX4_choice_97 Se Fo y1 y2 y3 r8 Sc Tr)) else some (s0, Sc, Tr)))
def fX4_choice (x1 : Int32) (x2 : Int32) (Se : ST) (Fo : ST) (Sc : ST) (Tr : ST) : Option (Int32 × ST × ST) :=
  dc_b1 (fX4_allowed x1 Se Fo) (fun r1 => (if x1 = (Se 0 8) then fX4_choice_37 Se Fo x1 x2 r1 (Se 0 9) Sc Tr else (if x1 = (Se 0 9) then fX4_choice_37 Se Fo x1 x2 r1 (Se 0 8) Sc Tr else fX4_choice_37 Se Fo x1 x2 r1 (-1) Sc Tr)))
abbrev rmX4_choice : Room := { frames := 8, cells := 0, slots := 0, locals := 202 }
set_option maxRecDepth 100000 in
set_option maxHeartbeats 4000000 in
theorem tX4_choice (l : Launch) (D : va_G) (cs : Nat → ClassId) (ase : Nat → Nat) (af : Nat → Nat) (ac : Nat → Nat) (atr : Nat → Nat) (x1 : Int32) (x2 : Int32) (Se : ST) (Fo : ST) (Sc : ST) (Tr : ST) (r0 : Int32) (Scz : ST) (Trz : ST) (hf : fX4_choice x1 x2 Se Fo Sc Tr = some (r0, Scz, Trz)) : CG l yX4_choice (wsm yX4_choice cX4_choice 11 (some .int)) rmX4_choice D cs [.ref (ase 0), .int x1, .int x2] (some (.int r0)) ((kX4 cs ase (.ref (af 0)) (.ref (ac 0)) (.ref (atr 0)) Se) ++ ((kX1 cs af  Fo) ++ ((kX3 cs ac  Sc) ++ ((kX4 cs atr (.ref (af 0)) (.ref (ac 0)) .null Tr))))) ((kX4 cs ase (.ref (af 0)) (.ref (ac 0)) (.ref (atr 0)) Se) ++ ((kX1 cs af  Fo) ++ ((kX3 cs ac  Scz) ++ ((kX4 cs atr (.ref (af 0)) (.ref (ac 0)) .null Trz))))) := by
  refine CG.intro (by decide) (Nat.le_of_ble_eq_true rfl) ?_
  intro p e s m below meth c A Q hx hb hml hown hu hK hZ hP0 hD0 hS0 hA hri hrz hrl hrv hra ls0 hl0
  have hs128 : ∀ (k128 : Int32 → Int32 → Int32 → Int32 → Int32 → Int32 → Int32 → ST → ST → Option (Int32 × ST × ST)), (∀ (y2 : Int32) (y3 : Int32) (y5 : Int32) (y6 : Int32) (y7 : Int32) (y8 : Int32) (y9 : Int32) (Sc : ST) (Tr : ST) (H : Heap) (locs : List Loc) (ls : Array Slot), va_P D vwCl ((kX4 cs ase (.ref (af 0)) (.ref (ac 0)) (.ref (atr 0)) Se) ++ ((kX1 cs af  Fo) ++ ((kX3 cs ac  Sc) ++ ((kX4 cs atr (.ref (af 0)) (.ref (ac 0)) .null Tr))))) H → va_D A ((kX4 cs ase (.ref (af 0)) (.ref (ac 0)) (.ref (atr 0)) Se) ++ ((kX1 cs af  Fo) ++ ((kX3 cs ac  Sc) ++ ((kX4 cs atr (.ref (af 0)) (.ref (ac 0)) .null Tr))))) → va_S A s.heap H locs → lv_has ls 11 [(0, .ref (ase 0)), (2, .int y2), (3, .int y3), (5, .int y5), (6, .int y6), (7, .int y7), (8, .int y8), (9, .int y9)] → k128 y2 y3 y5 y6 y7 y8 y9 Sc Tr = some (r0, Scz, Trz) → W p l e rmX4_choice s m [.ref (ase 0), .int x1, .int x2].toArray below meth c H locs 0 0 Q (F0 m 128 ls [])) → ∀ (y2 : Int32) (y3 : Int32) (y5 : Int32) (y6 : Int32) (y7 : Int32) (y8 : Int32) (y9 : Int32) (Sc : ST) (Tr : ST) (H : Heap) (locs : List Loc) (ls : Array Slot), va_P D vwCl ((kX4 cs ase (.ref (af 0)) (.ref (ac 0)) (.ref (atr 0)) Se) ++ ((kX1 cs af  Fo) ++ ((kX3 cs ac  Sc) ++ ((kX4 cs atr (.ref (af 0)) (.ref (ac 0)) .null Tr))))) H → va_D A ((kX4 cs ase (.ref (af 0)) (.ref (ac 0)) (.ref (atr 0)) Se) ++ ((kX1 cs af  Fo) ++ ((kX3 cs ac  Sc) ++ ((kX4 cs atr (.ref (af 0)) (.ref (ac 0)) .null Tr))))) → va_S A s.heap H locs → lv_has ls 11 [(0, .ref (ase 0)), (2, .int y2), (3, .int y3), (5, .int y5), (6, .int y6), (7, .int y7), (8, .int y8), (9, .int y9)] → fX4_choice_128_s Se Fo k128 y2 y3 y5 y6 y7 y8 y9 Sc Tr = some (r0, Scz, Trz) → W p l e rmX4_choice s m [.ref (ase 0), .int x1, .int x2].toArray below meth c H locs 0 0 Q (F0 m 128 ls []) := by
    intro k128 hk128 y2 y3 y5 y6 y7 y8 y9 Sc Tr H locs ls hP hD hS hl hf
    unfold fX4_choice_128_s at hf
    refine lv_iload hx hb dX4_choice_128 (lv_at hl 7 rfl) ?_
    refine lv_aload_n hx hb dX4_choice_130 rfl (lv_at hl 0 rfl) ?_
    refine va_get (D := D) (ci := 4) (v := .ref (af 0)) (C := RX4) (T := TX4) (N := 10) hx hb hu inX4 hown hK.1 hP 0 rfl rfl 0 (by decide) (hu _ q158) (fun _ h9 => h9) rfl dX4_choice_131 ?_
    refine va_get (D := D) (ci := 1) (v := .int (Fo 0 0)) (C := RX1) (T := TX1) (N := 9) hx hb hu inX1 hown hK.1 hP 4 rfl rfl 0 (by decide) (hu _ q94) (fun _ h9 => h9) rfl dX4_choice_134 ?_
    refine lv_icmp_ge (tgt := 189) hx hb dX4_choice_137 (by decide) (fun hc14 => ?_) (fun hc14 => ?_)
    · have hf := ip_el hc14 hf
      refine lv_iload hx hb dX4_choice_189 (lv_at hl 5 rfl) ?_
      have he := Option.some.inj hf
      obtain ⟨e0, ht0⟩ := Prod.mk.inj he
      obtain ⟨e1, e2⟩ := Prod.mk.inj ht0
      exact hri _ _ _ rfl (congrArg (fun z => some (Value.int z)) e0.symm) dX4_choice_191 _ _ _ (by rw [e1, e2]) hP hD hS
    · have hf := in_el hc14 hf
      refine lv_iload_n hx hb dX4_choice_140 rfl (lv_at hl 2 rfl) ?_
      refine lv_iload hx hb dX4_choice_141 (lv_at hl 7 rfl) ?_
      obtain ⟨r15, hg16, hf⟩ := b1_el hf
      refine cc_SN0 (st1 := [.int r15]) [.int y3, .int y9] hx hb hml hown hu (tX7_isIn l D cs y3 y9 r15 hg16) q363 q54 hK.2.2 q362 pdX7_isIn ⟨rfl, rfl, Nat.le_of_ble_eq_true rfl, Nat.le_of_ble_eq_true rfl⟩ hK hZ hP hD hS hA rfl hl.1 rfl (Nat.le_of_ble_eq_true rfl) dX4_choice_143 rfl (fun H locs hP hD hS => ?_)
      refine lv_if_eq (tgt := 183) hx hb dX4_choice_146 (by decide) (fun hc17 => ?_) (fun hc17 => ?_)
      · have hf := ip_el hc17 hf
        obtain ⟨v18, hv18, hf⟩ := lt_el hf
        refine lv_iinc (v := v18) (lv' := [(9, .int v18), (0, .ref (ase 0)), (2, .int y2), (3, .int y3), (5, .int y5), (6, .int y6), (7, .int y7), (8, .int y8)]) hx hb dX4_choice_183 hl (k := 7) rfl (by rw [hv18]; rfl) (by decide) rfl (fun ls hl => ?_)
        refine lv_goto (tgt := 128) hx hb dX4_choice_186 (by decide) ?_
        exact hk128 y2 y3 y5 y6 y7 y8 v18 Sc Tr _ _ _ hP hD hS (lv_sub hl [1, 2, 3, 4, 5, 6, 7, 0] rfl) hf
      · have hf := in_el hc17 hf
        refine lv_aload_n hx hb dX4_choice_149 rfl (lv_at hl 0 rfl) ?_
        refine lv_iload hx hb dX4_choice_150 (lv_at hl 3 rfl) ?_
        refine lv_iload hx hb dX4_choice_152 (lv_at hl 4 rfl) ?_
        refine lv_iload hx hb dX4_choice_154 (lv_at hl 7 rfl) ?_
        refine lv_iload_n hx hb dX4_choice_156 rfl (lv_at hl 1 rfl) ?_
        obtain ⟨r19, Sc_20, Tr_21, hg22, hf⟩ := b3_el hf
        refine cc_V1 (w' := ((kX4 cs ase (.ref (af 0)) (.ref (ac 0)) (.ref (atr 0)) Se) ++ ((kX1 cs af  Fo) ++ ((kX3 cs ac  Sc_20) ++ ((kX4 cs atr (.ref (af 0)) (.ref (ac 0)) .null Tr_21)))))) (st1 := [.int r19]) [.int y5, .int y6, .int y9, .int y2] hx hb hml hown hu (tX4_measure l D cs ase af ac atr y5 y6 y9 y2 Se Fo Sc Tr r19 Sc_20 Tr_21 hg22) q402 q58 q399 q401 q3 pdX4_measure ⟨rfl, rfl, Nat.le_of_ble_eq_true rfl, Nat.le_of_ble_eq_true rfl⟩ hK hZ hP hD hS hA rfl rfl rfl rfl hl.1 rfl (Nat.le_of_ble_eq_true rfl) dX4_choice_157 rfl (fun H locs hP hD hS => ?_)
        refine lv_istore (lv' := [(10, .int r19), (0, .ref (ase 0)), (2, .int y2), (3, .int y3), (5, .int y5), (6, .int y6), (7, .int y7), (8, .int y8), (9, .int y9)]) hx hb dX4_choice_160 hl (by decide) rfl (fun ls hl => ?_)
        refine lv_iload hx hb dX4_choice_162 (lv_at hl 6 rfl) ?_
        refine lv_iconst (v := (-1)) hx hb dX4_choice_164 (by decide) ?_
        refine lv_icmp_eq (tgt := 175) hx hb dX4_choice_165 (by decide) (fun hc23 => ?_) (fun hc23 => ?_)
        · have hf := ip_el hc23 hf
          refine lv_iload hx hb dX4_choice_175 (lv_at hl 8 rfl) ?_
          refine lv_istore (lv' := [(7, .int y9), (10, .int r19), (0, .ref (ase 0)), (2, .int y2), (3, .int y3), (5, .int y5), (6, .int y6), (8, .int y8), (9, .int y9)]) hx hb dX4_choice_177 hl (by decide) rfl (fun ls hl => ?_)
          refine lv_iload hx hb dX4_choice_179 (lv_at hl 1 rfl) ?_
          refine lv_istore (lv' := [(8, .int r19), (7, .int y9), (10, .int r19), (0, .ref (ase 0)), (2, .int y2), (3, .int y3), (5, .int y5), (6, .int y6), (9, .int y9)]) hx hb dX4_choice_181 hl (by decide) rfl (fun ls hl => ?_)
          obtain ⟨v24, hv24, hf⟩ := lt_el hf
          refine lv_iinc (v := v24) (lv' := [(9, .int v24), (8, .int r19), (7, .int y9), (10, .int r19), (0, .ref (ase 0)), (2, .int y2), (3, .int y3), (5, .int y5), (6, .int y6)]) hx hb dX4_choice_183 hl (k := 8) rfl (by rw [hv24]; rfl) (by decide) rfl (fun ls hl => ?_)
          refine lv_goto (tgt := 128) hx hb dX4_choice_186 (by decide) ?_
          exact hk128 y2 y3 y5 y6 y9 r19 v24 Sc_20 Tr_21 _ _ _ hP hD hS (lv_sub hl [4, 5, 6, 7, 8, 2, 1, 0] rfl) hf
        · have hf := in_el hc23 hf
          refine lv_iload hx hb dX4_choice_168 (lv_at hl 0 rfl) ?_
          refine lv_iload hx hb dX4_choice_170 (lv_at hl 7 rfl) ?_
          refine lv_icmp_le (tgt := 183) hx hb dX4_choice_172 (by decide) (fun hc25 => ?_) (fun hc25 => ?_)
          · have hf := ip_el hc25 hf
            obtain ⟨v26, hv26, hf⟩ := lt_el hf
            refine lv_iinc (v := v26) (lv' := [(9, .int v26), (10, .int r19), (0, .ref (ase 0)), (2, .int y2), (3, .int y3), (5, .int y5), (6, .int y6), (7, .int y7), (8, .int y8)]) hx hb dX4_choice_183 hl (k := 8) rfl (by rw [hv26]; rfl) (by decide) rfl (fun ls hl => ?_)
            refine lv_goto (tgt := 128) hx hb dX4_choice_186 (by decide) ?_
            exact hk128 y2 y3 y5 y6 y7 y8 v26 Sc_20 Tr_21 _ _ _ hP hD hS (lv_sub hl [2, 3, 4, 5, 6, 7, 8, 0] rfl) hf
          · have hf := in_el hc25 hf
            refine lv_iload hx hb dX4_choice_175 (lv_at hl 8 rfl) ?_
            refine lv_istore (lv' := [(7, .int y9), (10, .int r19), (0, .ref (ase 0)), (2, .int y2), (3, .int y3), (5, .int y5), (6, .int y6), (8, .int y8), (9, .int y9)]) hx hb dX4_choice_177 hl (by decide) rfl (fun ls hl => ?_)
            refine lv_iload hx hb dX4_choice_179 (lv_at hl 1 rfl) ?_
            refine lv_istore (lv' := [(8, .int r19), (7, .int y9), (10, .int r19), (0, .ref (ase 0)), (2, .int y2), (3, .int y3), (5, .int y5), (6, .int y6), (9, .int y9)]) hx hb dX4_choice_181 hl (by decide) rfl (fun ls hl => ?_)
            obtain ⟨v27, hv27, hf⟩ := lt_el hf
            refine lv_iinc (v := v27) (lv' := [(9, .int v27), (8, .int r19), (7, .int y9), (10, .int r19), (0, .ref (ase 0)), (2, .int y2), (3, .int y3), (5, .int y5), (6, .int y6)]) hx hb dX4_choice_183 hl (k := 8) rfl (by rw [hv27]; rfl) (by decide) rfl (fun ls hl => ?_)
            refine lv_goto (tgt := 128) hx hb dX4_choice_186 (by decide) ?_
            exact hk128 y2 y3 y5 y6 y9 r19 v27 Sc_20 Tr_21 _ _ _ hP hD hS (lv_sub hl [4, 5, 6, 7, 8, 2, 1, 0] rfl) hf
  have h128 : ∀ (n : Nat), ∀ (y2 : Int32) (y3 : Int32) (y5 : Int32) (y6 : Int32) (y7 : Int32) (y8 : Int32) (y9 : Int32) (Sc : ST) (Tr : ST) (H : Heap) (locs : List Loc) (ls : Array Slot), va_P D vwCl ((kX4 cs ase (.ref (af 0)) (.ref (ac 0)) (.ref (atr 0)) Se) ++ ((kX1 cs af  Fo) ++ ((kX3 cs ac  Sc) ++ ((kX4 cs atr (.ref (af 0)) (.ref (ac 0)) .null Tr))))) H → va_D A ((kX4 cs ase (.ref (af 0)) (.ref (ac 0)) (.ref (atr 0)) Se) ++ ((kX1 cs af  Fo) ++ ((kX3 cs ac  Sc) ++ ((kX4 cs atr (.ref (af 0)) (.ref (ac 0)) .null Tr))))) → va_S A s.heap H locs → lv_has ls 11 [(0, .ref (ase 0)), (2, .int y2), (3, .int y3), (5, .int y5), (6, .int y6), (7, .int y7), (8, .int y8), (9, .int y9)] → fX4_choice_128 Se Fo n y2 y3 y5 y6 y7 y8 y9 Sc Tr = some (r0, Scz, Trz) → W p l e rmX4_choice s m [.ref (ase 0), .int x1, .int x2].toArray below meth c H locs 0 0 Q (F0 m 128 ls []) := by
    intro n
    induction n with
    | zero => intro y2 y3 y5 y6 y7 y8 y9 Sc Tr H locs ls hP hD hS hl hf; exact no_el hf
    | succ n ih => intro y2 y3 y5 y6 y7 y8 y9 Sc Tr H locs ls hP hD hS hl hf; exact hs128 _ ih y2 y3 y5 y6 y7 y8 y9 Sc Tr _ _ _ hP hD hS hl hf
  have h117 : ∀ (y2 : Int32) (y3 : Int32) (y5 : Int32) (s0 : Int32) (Sc : ST) (Tr : ST) (H : Heap) (locs : List Loc) (ls : Array Slot), va_P D vwCl ((kX4 cs ase (.ref (af 0)) (.ref (ac 0)) (.ref (atr 0)) Se) ++ ((kX1 cs af  Fo) ++ ((kX3 cs ac  Sc) ++ ((kX4 cs atr (.ref (af 0)) (.ref (ac 0)) .null Tr))))) H → va_D A ((kX4 cs ase (.ref (af 0)) (.ref (ac 0)) (.ref (atr 0)) Se) ++ ((kX1 cs af  Fo) ++ ((kX3 cs ac  Sc) ++ ((kX4 cs atr (.ref (af 0)) (.ref (ac 0)) .null Tr))))) → va_S A s.heap H locs → lv_has ls 11 [(0, .ref (ase 0)), (2, .int y2), (3, .int y3), (5, .int y5)] → fX4_choice_117 Se Fo y2 y3 y5 s0 Sc Tr = some (r0, Scz, Trz) → W p l e rmX4_choice s m [.ref (ase 0), .int x1, .int x2].toArray below meth c H locs 0 0 Q (F0 m 117 ls [.int s0]) := by
    intro y2 y3 y5 s0 Sc Tr H locs ls hP hD hS hl hf
    unfold fX4_choice_117 at hf
    refine lv_istore (lv' := [(6, .int s0), (0, .ref (ase 0)), (2, .int y2), (3, .int y3), (5, .int y5)]) hx hb dX4_choice_117 hl (by decide) rfl (fun ls hl => ?_)
    refine lv_iconst (v := (-1)) hx hb dX4_choice_119 (by decide) ?_
    refine lv_istore (lv' := [(7, .int (-1)), (6, .int s0), (0, .ref (ase 0)), (2, .int y2), (3, .int y3), (5, .int y5)]) hx hb dX4_choice_120 hl (by decide) rfl (fun ls hl => ?_)
    refine lv_iconst (v := 0) hx hb dX4_choice_122 (by decide) ?_
    refine lv_istore (lv' := [(8, .int 0), (7, .int (-1)), (6, .int s0), (0, .ref (ase 0)), (2, .int y2), (3, .int y3), (5, .int y5)]) hx hb dX4_choice_123 hl (by decide) rfl (fun ls hl => ?_)
    refine lv_iconst (v := 0) hx hb dX4_choice_125 (by decide) ?_
    refine lv_istore (lv' := [(9, .int 0), (8, .int 0), (7, .int (-1)), (6, .int s0), (0, .ref (ase 0)), (2, .int y2), (3, .int y3), (5, .int y5)]) hx hb dX4_choice_126 hl (by decide) rfl (fun ls hl => ?_)
    exact h128 400 y2 y3 y5 s0 (-1) 0 0 Sc Tr _ _ _ hP hD hS (lv_sub hl [4, 5, 6, 7, 3, 2, 1, 0] rfl) hf
  have h109 : ∀ (y2 : Int32) (y3 : Int32) (y5 : Int32) (Sc : ST) (Tr : ST) (H : Heap) (locs : List Loc) (ls : Array Slot), va_P D vwCl ((kX4 cs ase (.ref (af 0)) (.ref (ac 0)) (.ref (atr 0)) Se) ++ ((kX1 cs af  Fo) ++ ((kX3 cs ac  Sc) ++ ((kX4 cs atr (.ref (af 0)) (.ref (ac 0)) .null Tr))))) H → va_D A ((kX4 cs ase (.ref (af 0)) (.ref (ac 0)) (.ref (atr 0)) Se) ++ ((kX1 cs af  Fo) ++ ((kX3 cs ac  Sc) ++ ((kX4 cs atr (.ref (af 0)) (.ref (ac 0)) .null Tr))))) → va_S A s.heap H locs → lv_has ls 11 [(0, .ref (ase 0)), (2, .int y2), (3, .int y3), (5, .int y5)] → fX4_choice_109 Se Fo y2 y3 y5 Sc Tr = some (r0, Scz, Trz) → W p l e rmX4_choice s m [.ref (ase 0), .int x1, .int x2].toArray below meth c H locs 0 0 Q (F0 m 109 ls []) := by
    intro y2 y3 y5 Sc Tr H locs ls hP hD hS hl hf
    unfold fX4_choice_109 at hf
    refine lv_aload_n hx hb dX4_choice_109 rfl (lv_at hl 0 rfl) ?_
    obtain ⟨r12, hg13, hf⟩ := b1_el hf
    refine cc_V (w' := ((kX4 cs ase (.ref (af 0)) (.ref (ac 0)) (.ref (atr 0)) Se) ++ ((kX1 cs af  Fo) ++ ((kX3 cs ac  Sc) ++ ((kX4 cs atr (.ref (af 0)) (.ref (ac 0)) .null Tr)))))) (wr := ((kX1 cs af  Fo) ++ ((kX3 cs ac  Sc) ++ ((kX4 cs atr (.ref (af 0)) (.ref (ac 0)) .null Tr))))) (st1 := [.int r12]) [] hx hb hml hown hu (tX4_firstNamed l D cs ase (.ref (af 0)) (.ref (ac 0)) (.ref (atr 0)) Se r12 hg13) q390 q58 q387 q388 q389 pdX4_firstNamed ⟨rfl, rfl, Nat.le_of_ble_eq_true rfl, Nat.le_of_ble_eq_true rfl⟩ hK hZ hP hD hS hA [0, 1, 2, 3] [4, 5, 6, 7, 8, 9, 10, 11, 12, 13, 14, 15, 16, 17] [14, 15, 16, 17, 0, 1, 2, 3, 4, 5, 6, 7, 8, 9, 10, 11, 12, 13] rfl rfl rfl rfl rfl rfl rfl rfl rfl rfl hl.1 rfl (Nat.le_of_ble_eq_true rfl) dX4_choice_110 rfl (fun H locs hP hD hS => ?_)
    refine lv_goto (tgt := 117) hx hb dX4_choice_113 (by decide) ?_
    exact h117 y2 y3 y5 r12 Sc Tr _ _ _ hP hD hS (lv_sub hl [0, 1, 2, 3] rfl) hf
  have h97 : ∀ (y1 : Int32) (y2 : Int32) (y3 : Int32) (y5 : Int32) (Sc : ST) (Tr : ST) (H : Heap) (locs : List Loc) (ls : Array Slot), va_P D vwCl ((kX4 cs ase (.ref (af 0)) (.ref (ac 0)) (.ref (atr 0)) Se) ++ ((kX1 cs af  Fo) ++ ((kX3 cs ac  Sc) ++ ((kX4 cs atr (.ref (af 0)) (.ref (ac 0)) .null Tr))))) H → va_D A ((kX4 cs ase (.ref (af 0)) (.ref (ac 0)) (.ref (atr 0)) Se) ++ ((kX1 cs af  Fo) ++ ((kX3 cs ac  Sc) ++ ((kX4 cs atr (.ref (af 0)) (.ref (ac 0)) .null Tr))))) → va_S A s.heap H locs → lv_has ls 11 [(0, .ref (ase 0)), (1, .int y1), (2, .int y2), (3, .int y3), (5, .int y5)] → fX4_choice_97 Se Fo y1 y2 y3 y5 Sc Tr = some (r0, Scz, Trz) → W p l e rmX4_choice s m [.ref (ase 0), .int x1, .int x2].toArray below meth c H locs 0 0 Q (F0 m 97 ls []) := by
    intro y1 y2 y3 y5 Sc Tr H locs ls hP hD hS hl hf
    unfold fX4_choice_97 at hf
    refine lv_iload hx hb dX4_choice_97 (lv_at hl 4 rfl) ?_
    refine lv_iconst (v := 1) hx hb dX4_choice_99 (by decide) ?_
    refine lv_icmp_eq (tgt := 109) hx hb dX4_choice_100 (by decide) (fun hc11 => ?_) (fun hc11 => ?_)
    · have hf := ip_el hc11 hf
      exact h109 y2 y3 y5 Sc Tr _ _ _ hP hD hS (lv_sub hl [0, 2, 3, 4] rfl) hf
    · have hf := in_el hc11 hf
      refine lv_iload hx hb dX4_choice_103 (lv_at hl 4 rfl) ?_
      refine lv_iconst (v := 2) hx hb dX4_choice_105 (by decide) ?_
      refine lv_icmp_ne (tgt := 116) hx hb dX4_choice_106 (by decide) (fun hc28 => ?_) (fun hc28 => ?_)
      · have hf := in_el hc28 hf
        refine lv_iload_n hx hb dX4_choice_116 rfl (lv_at hl 1 rfl) ?_
        exact h117 y2 y3 y5 y1 Sc Tr _ _ _ hP hD hS (lv_sub hl [0, 2, 3, 4] rfl) hf
      · have hf := ip_el hc28 hf
        exact h109 y2 y3 y5 Sc Tr _ _ _ hP hD hS (lv_sub hl [0, 2, 3, 4] rfl) hf
  have h37 : ∀ (y1 : Int32) (y2 : Int32) (y3 : Int32) (s0 : Int32) (Sc : ST) (Tr : ST) (H : Heap) (locs : List Loc) (ls : Array Slot), va_P D vwCl ((kX4 cs ase (.ref (af 0)) (.ref (ac 0)) (.ref (atr 0)) Se) ++ ((kX1 cs af  Fo) ++ ((kX3 cs ac  Sc) ++ ((kX4 cs atr (.ref (af 0)) (.ref (ac 0)) .null Tr))))) H → va_D A ((kX4 cs ase (.ref (af 0)) (.ref (ac 0)) (.ref (atr 0)) Se) ++ ((kX1 cs af  Fo) ++ ((kX3 cs ac  Sc) ++ ((kX4 cs atr (.ref (af 0)) (.ref (ac 0)) .null Tr))))) → va_S A s.heap H locs → lv_has ls 11 [(0, .ref (ase 0)), (1, .int y1), (2, .int y2), (3, .int y3)] → fX4_choice_37 Se Fo y1 y2 y3 s0 Sc Tr = some (r0, Scz, Trz) → W p l e rmX4_choice s m [.ref (ase 0), .int x1, .int x2].toArray below meth c H locs 0 0 Q (F0 m 37 ls [.int s0]) := by
    intro y1 y2 y3 s0 Sc Tr H locs ls hP hD hS hl hf
    unfold fX4_choice_37 at hf
    refine lv_istore (lv' := [(4, .int s0), (0, .ref (ase 0)), (1, .int y1), (2, .int y2), (3, .int y3)]) hx hb dX4_choice_37 hl (by decide) rfl (fun ls hl => ?_)
    refine lv_iload_n hx hb dX4_choice_39 rfl (lv_at hl 4 rfl) ?_
    refine lv_iload hx hb dX4_choice_40 (lv_at hl 0 rfl) ?_
    obtain ⟨r5, hg6, hf⟩ := b1_el hf
    refine cc_SN0 (st1 := [.int r5]) [.int y3, .int s0] hx hb hml hown hu (tX7_isIn l D cs y3 s0 r5 hg6) q363 q54 hK.2.2 q362 pdX7_isIn ⟨rfl, rfl, Nat.le_of_ble_eq_true rfl, Nat.le_of_ble_eq_true rfl⟩ hK hZ hP hD hS hA rfl hl.1 rfl (Nat.le_of_ble_eq_true rfl) dX4_choice_42 rfl (fun H locs hP hD hS => ?_)
    refine lv_if_eq (tgt := 51) hx hb dX4_choice_45 (by decide) (fun hc7 => ?_) (fun hc7 => ?_)
    · have hf := ip_el hc7 hf
      refine lv_aload_n hx hb dX4_choice_51 rfl (lv_at hl 1 rfl) ?_
      refine lv_iload_n hx hb dX4_choice_52 rfl (lv_at hl 2 rfl) ?_
      refine lv_iload_n hx hb dX4_choice_53 rfl (lv_at hl 3 rfl) ?_
      obtain ⟨r8, hg9, hf⟩ := b1_el hf
      refine cc_V (w' := ((kX4 cs ase (.ref (af 0)) (.ref (ac 0)) (.ref (atr 0)) Se) ++ ((kX1 cs af  Fo) ++ ((kX3 cs ac  Sc) ++ ((kX4 cs atr (.ref (af 0)) (.ref (ac 0)) .null Tr)))))) (wr := (kX4 cs atr (.ref (af 0)) (.ref (ac 0)) .null Tr)) (st1 := [.int r8]) [.int y1, .int y2] hx hb hml hown hu (tX4_wayOf l D cs ase af ac (.ref (atr 0)) y1 y2 Se Fo Sc r8 hg9) q386 q58 q383 q385 q2 pdX4_wayOf ⟨rfl, rfl, Nat.le_of_ble_eq_true rfl, Nat.le_of_ble_eq_true rfl⟩ hK hZ hP hD hS hA [0, 1, 2, 3, 4, 5, 6, 7, 8, 9, 10, 11, 12, 13] [14, 15, 16, 17] [4, 5, 6, 7, 8, 9, 10, 11, 12, 13, 14, 15, 16, 17, 0, 1, 2, 3] rfl rfl rfl rfl rfl rfl rfl rfl rfl rfl hl.1 rfl (Nat.le_of_ble_eq_true rfl) dX4_choice_54 rfl (fun H locs hP hD hS => ?_)
      refine lv_istore (lv' := [(5, .int r8), (4, .int s0), (0, .ref (ase 0)), (1, .int y1), (2, .int y2), (3, .int y3)]) hx hb dX4_choice_57 hl (by decide) rfl (fun ls hl => ?_)
      refine lv_iload hx hb dX4_choice_59 (lv_at hl 0 rfl) ?_
      refine lv_iconst (v := 4) hx hb dX4_choice_61 (by decide) ?_
      refine lv_icmp_ne (tgt := 97) hx hb dX4_choice_62 (by decide) (fun hc10 => ?_) (fun hc10 => ?_)
      · have hf := in_el hc10 hf
        exact h97 y1 y2 y3 r8 Sc Tr _ _ _ hP hD hS (lv_sub hl [2, 3, 4, 5, 0] rfl) hf
      · have hf := ip_el hc10 hf
        refine lv_iload_n hx hb dX4_choice_65 rfl (lv_at hl 5 rfl) ?_
        refine lv_aload_n hx hb dX4_choice_66 rfl (lv_at hl 2 rfl) ?_
        refine va_get (D := D) (ci := 4) (v := .ref (af 0)) (C := RX4) (T := TX4) (N := 10) hx hb hu inX4 hown hK.1 hP 0 rfl rfl 0 (by decide) (hu _ q158) (fun _ h9 => h9) rfl dX4_choice_67 ?_
        refine lv_aload_n hx hb dX4_choice_70 rfl (lv_at hl 2 rfl) ?_
        refine va_get (D := D) (ci := 4) (v := .ref (af 0)) (C := RX4) (T := TX4) (N := 10) hx hb hu inX4 hown hK.1 hP 0 rfl rfl 0 (by decide) (hu _ q158) (fun _ h9 => h9) rfl dX4_choice_71 ?_
        refine va_get (D := D) (ci := 1) (v := .ref (af 4)) (C := RX1) (T := TX1) (N := 9) hx hb hu inX1 hown hK.1 hP 4 rfl rfl 3 (by decide) (hu _ q102) (fun _ h9 => h9) rfl dX4_choice_74 ?_
        refine lv_iload_n hx hb dX4_choice_77 rfl (lv_at hl 3 rfl) ?_
        obtain ⟨hi29, hf⟩ := ck_el hf
        refine va_iald hx hb hK.1 hP 7 0 rfl rfl hi29 dX4_choice_78 ?_
        obtain ⟨r30, hg31, hf⟩ := b1_el hf
        refine cc_V (w' := ((kX4 cs ase (.ref (af 0)) (.ref (ac 0)) (.ref (atr 0)) Se) ++ ((kX1 cs af  Fo) ++ ((kX3 cs ac  Sc) ++ ((kX4 cs atr (.ref (af 0)) (.ref (ac 0)) .null Tr)))))) (wr := ((kX4 cs ase (.ref (af 0)) (.ref (ac 0)) (.ref (atr 0)) Se) ++ ((kX3 cs ac  Sc) ++ ((kX4 cs atr (.ref (af 0)) (.ref (ac 0)) .null Tr))))) (st1 := [.int r30, .int y3]) [.int (Fo 4 (Int32.toNatClampNeg y1))] hx hb hml hown hu (tX1_ofSort l D cs af (Fo 4 (Int32.toNatClampNeg y1)) Fo r30 hg31) q398 q56 q395 q396 q397 pdX1_ofSort ⟨rfl, rfl, Nat.le_of_ble_eq_true rfl, Nat.le_of_ble_eq_true rfl⟩ hK hZ hP hD hS hA [4, 5, 6, 7, 8, 9, 10] [0, 1, 2, 3, 11, 12, 13, 14, 15, 16, 17] [0, 1, 2, 3, 11, 12, 13, 14, 15, 16, 17, 4, 5, 6, 7, 8, 9, 10] rfl rfl rfl rfl rfl rfl rfl rfl rfl rfl hl.1 rfl (Nat.le_of_ble_eq_true rfl) dX4_choice_79 rfl (fun H locs hP hD hS => ?_)
        refine lv_iand hx hb dX4_choice_82 ?_
        obtain ⟨v32, hv32, hf⟩ := lt_el hf
        refine lv_tope hv32 ?_
        refine lv_istore (lv' := [(6, .int v32), (5, .int r8), (4, .int s0), (0, .ref (ase 0)), (1, .int y1), (2, .int y2), (3, .int y3)]) hx hb dX4_choice_83 hl (by decide) rfl (fun ls hl => ?_)
        refine lv_iload hx hb dX4_choice_85 (lv_at hl 0 rfl) ?_
        refine lv_if_eq (tgt := 95) hx hb dX4_choice_87 (by decide) (fun hc33 => ?_) (fun hc33 => ?_)
        · have hf := ip_el hc33 hf
          refine lv_iload_n hx hb dX4_choice_95 rfl (lv_at hl 6 rfl) ?_
          refine lv_istore_n (lv' := [(3, .int y3), (6, .int v32), (5, .int r8), (4, .int s0), (0, .ref (ase 0)), (1, .int y1), (2, .int y2)]) hx hb dX4_choice_96 rfl hl (by decide) rfl (fun ls hl => ?_)
          exact h97 y1 y2 y3 r8 Sc Tr _ _ _ hP hD hS (lv_sub hl [4, 5, 6, 0, 2] rfl) hf
        · have hf := in_el hc33 hf
          refine lv_iload hx hb dX4_choice_90 (lv_at hl 0 rfl) ?_
          refine lv_goto (tgt := 96) hx hb dX4_choice_92 (by decide) ?_
          refine lv_istore_n (lv' := [(3, .int v32), (6, .int v32), (5, .int r8), (4, .int s0), (0, .ref (ase 0)), (1, .int y1), (2, .int y2)]) hx hb dX4_choice_96 rfl hl (by decide) rfl (fun ls hl => ?_)
          exact h97 y1 y2 v32 r8 Sc Tr _ _ _ hP hD hS (lv_sub hl [4, 5, 6, 0, 2] rfl) hf
    · have hf := in_el hc7 hf
      refine lv_iload hx hb dX4_choice_48 (lv_at hl 0 rfl) ?_
      have he := Option.some.inj hf
      obtain ⟨e0, ht0⟩ := Prod.mk.inj he
      obtain ⟨e1, e2⟩ := Prod.mk.inj ht0
      exact hri _ _ _ rfl (congrArg (fun z => some (Value.int z)) e0.symm) dX4_choice_50 _ _ _ (by rw [e1, e2]) hP hD hS
  have hl : lv_has ls0 11 [(0, .ref (ase 0)), (1, .int x1), (2, .int x2)] := hl0
  have hP := hP0
  have hD := hD0
  have hS := hS0
  unfold fX4_choice at hf
  refine lv_aload_n hx hb dX4_choice_0 rfl (lv_at hl 0 rfl) ?_
  refine lv_iload_n hx hb dX4_choice_1 rfl (lv_at hl 1 rfl) ?_
  obtain ⟨r1, hg2, hf⟩ := b1_el hf
  refine cc_V (w' := ((kX4 cs ase (.ref (af 0)) (.ref (ac 0)) (.ref (atr 0)) Se) ++ ((kX1 cs af  Fo) ++ ((kX3 cs ac  Sc) ++ ((kX4 cs atr (.ref (af 0)) (.ref (ac 0)) .null Tr)))))) (wr := ((kX3 cs ac  Sc) ++ ((kX4 cs atr (.ref (af 0)) (.ref (ac 0)) .null Tr)))) (st1 := [.int r1]) [.int x1] hx hb hml hown hu (tX4_allowed l D cs ase af ac (.ref (atr 0)) x1 Se Fo r1 hg2) q375 q58 q372 q373 q374 pdX4_allowed ⟨rfl, rfl, Nat.le_of_ble_eq_true rfl, Nat.le_of_ble_eq_true rfl⟩ hK hZ hP hD hS hA [0, 1, 2, 3, 4, 5, 6, 7, 8, 9, 10] [11, 12, 13, 14, 15, 16, 17] [7, 8, 9, 10, 11, 12, 13, 14, 15, 16, 17, 0, 1, 2, 3, 4, 5, 6] rfl rfl rfl rfl rfl rfl rfl rfl rfl rfl hl.1 rfl (Nat.le_of_ble_eq_true rfl) dX4_choice_2 rfl (fun H locs hP hD hS => ?_)
  refine lv_istore_n (lv' := [(3, .int r1), (0, .ref (ase 0)), (1, .int x1), (2, .int x2)]) hx hb dX4_choice_5 rfl hl (by decide) rfl (fun ls hl => ?_)
  refine lv_iload_n hx hb dX4_choice_6 rfl (lv_at hl 2 rfl) ?_
  refine lv_aload_n hx hb dX4_choice_7 rfl (lv_at hl 1 rfl) ?_
  refine va_get (D := D) (ci := 4) (v := .int (Se 0 8)) (C := RX4) (T := TX4) (N := 10) hx hb hu inX4 hown hK.1 hP 0 rfl rfl 8 (by decide) (hu _ q171) (fun _ h9 => h9) rfl dX4_choice_8 ?_
  refine lv_icmp_ne (tgt := 21) hx hb dX4_choice_11 (by decide) (fun hc3 => ?_) (fun hc3 => ?_)
  · have hf := in_el hc3 hf
    refine lv_iload_n hx hb dX4_choice_21 rfl (lv_at hl 2 rfl) ?_
    refine lv_aload_n hx hb dX4_choice_22 rfl (lv_at hl 1 rfl) ?_
    refine va_get (D := D) (ci := 4) (v := .int (Se 0 9)) (C := RX4) (T := TX4) (N := 10) hx hb hu inX4 hown hK.1 hP 0 rfl rfl 9 (by decide) (hu _ q172) (fun _ h9 => h9) rfl dX4_choice_23 ?_
    refine lv_icmp_ne (tgt := 36) hx hb dX4_choice_26 (by decide) (fun hc4 => ?_) (fun hc4 => ?_)
    · have hf := in_el hc4 hf
      refine lv_iconst (v := (-1)) hx hb dX4_choice_36 (by decide) ?_
      exact h37 x1 x2 r1 (-1) Sc Tr _ _ _ hP hD hS (lv_sub hl [1, 2, 3, 0] rfl) hf
    · have hf := ip_el hc4 hf
      refine lv_aload_n hx hb dX4_choice_29 rfl (lv_at hl 1 rfl) ?_
      refine va_get (D := D) (ci := 4) (v := .int (Se 0 8)) (C := RX4) (T := TX4) (N := 10) hx hb hu inX4 hown hK.1 hP 0 rfl rfl 8 (by decide) (hu _ q171) (fun _ h9 => h9) rfl dX4_choice_30 ?_
      refine lv_goto (tgt := 37) hx hb dX4_choice_33 (by decide) ?_
      exact h37 x1 x2 r1 (Se 0 8) Sc Tr _ _ _ hP hD hS (lv_sub hl [1, 2, 3, 0] rfl) hf
  · have hf := ip_el hc3 hf
    refine lv_aload_n hx hb dX4_choice_14 rfl (lv_at hl 1 rfl) ?_
    refine va_get (D := D) (ci := 4) (v := .int (Se 0 9)) (C := RX4) (T := TX4) (N := 10) hx hb hu inX4 hown hK.1 hP 0 rfl rfl 9 (by decide) (hu _ q172) (fun _ h9 => h9) rfl dX4_choice_15 ?_
    refine lv_goto (tgt := 37) hx hb dX4_choice_18 (by decide) ?_
    exact h37 x1 x2 r1 (Se 0 9) Sc Tr _ _ _ hP hD hS (lv_sub hl [1, 2, 3, 0] rfl) hf

def fX4_next_108_s (Fo : ST) (k108 : Int32 → Int32 → Int32 → ST → ST → ST → Option (Int32 × ST × ST × ST)) (y1 : Int32) (y3 : Int32) (y4 : Int32) (Se : ST) (Sc : ST) (Tr : ST) : Option (Int32 × ST × ST × ST) :=
  (if y3 < y4 then some ((Se 0 6), Se, Sc, Tr) else dc_ck y4 4 ((if (Se 5 (Int32.toNatClampNeg y4)) = (-1) then dc_b3 (fX4_choice (Se 0 6) y1 Se Fo Sc Tr) (fun r15 Sc_16 Tr_17 => dc_ck y4 4 (dc_lt (sti Se 5 (Int32.toNatClampNeg y4) r15) (fun Se_20 => dc_lt (y4 + 1) (fun v21 => k108 y1 y3 v21 Se_20 Sc_16 Tr_17)))) else dc_lt (y4 + 1) (fun v14 => k108 y1 y3 v14 Se Sc Tr))))
def fX4_next_108 (Fo : ST) : Nat → Int32 → Int32 → Int32 → ST → ST → ST → Option (Int32 × ST × ST × ST)
  | 0 => fun _ _ _ _ _ _ => none
  | n + 1 => fX4_next_108_s Fo (fX4_next_108 Fo n)
def fX4_next_59 (Fo : ST) (y1 : Int32) (Se : ST) (Sc : ST) (Tr : ST) : Option (Int32 × ST × ST × ST) :=
  (if (Se 0 6) = (-1) then some ((-1), Se, Sc, Tr) else dc_ck (Se 0 6) 10 (dc_ck (Se 0 6) 10 (dc_lt (sti Se 6 (Int32.toNatClampNeg (Se 0 6)) ((Se 6 (Int32.toNatClampNeg (Se 0 6))) + 1)) (fun Se_8 => dc_lt ((Se_8 4 0) - 1) (fun v9 => (if (Se_8 4 4) = 1 then fX4_next_108 Fo 400 y1 v9 0 Se_8 Sc Tr else fX4_next_108 Fo 400 y1 v9 v9 Se_8 Sc Tr))))))
def fX4_next_32_s (Fo : ST) (k32 : Int32 → Int32 → Int32 → ST → ST → ST → Option (Int32 × ST × ST × ST)) (y1 : Int32) (y2 : Int32) (y3 : Int32) (Se : ST) (Sc : ST) (Tr : ST) : Option (Int32 × ST × ST × ST) :=
  (if y2 ≤ y3 then fX4_next_59 Fo y1 Se Sc Tr else (if (Se 0 6) = (-1) then dc_b2 (fX4_moveUp Se) (fun r23 Se_24 => dc_lt (sti Se_24 0 6 r23) (fun Se_26 => dc_lt (y3 + 1) (fun v27 => k32 y1 y2 v27 Se_26 Sc Tr))) else fX4_next_59 Fo y1 Se Sc Tr))
def fX4_next_32 (Fo : ST) : Nat → Int32 → Int32 → Int32 → ST → ST → ST → Option (Int32 × ST × ST × ST)
  | 0 => fun _ _ _ _ _ _ => none
  | n + 1 => fX4_next_32_s Fo (fX4_next_32 Fo n)
def fX4_next (x1 : Int32) (Se : ST) (Fo : ST) (Sc : ST) (Tr : ST) : Option (Int32 × ST × ST × ST) :=
  dc_lt (sti Se 0 6 (-1)) (fun Se_1 => dc_lt (sti Se_1 0 7 0) (fun Se_2 => (if (Se_2 4 4) = 0 then dc_lt (Se_2 4 0) (fun v28 => fX4_next_32 Fo 400 x1 v28 0 Se_2 Sc Tr) else fX4_next_32 Fo 400 x1 1 0 Se_2 Sc Tr)))
abbrev rmX4_next : Room := { frames := 9, cells := 0, slots := 0, locals := 232 }
set_option maxRecDepth 100000 in
set_option maxHeartbeats 4000000 in
theorem tX4_next (l : Launch) (D : va_G) (cs : Nat → ClassId) (ase : Nat → Nat) (af : Nat → Nat) (ac : Nat → Nat) (atr : Nat → Nat) (x1 : Int32) (Se : ST) (Fo : ST) (Sc : ST) (Tr : ST) (r0 : Int32) (Sez : ST) (Scz : ST) (Trz : ST) (hf : fX4_next x1 Se Fo Sc Tr = some (r0, Sez, Scz, Trz)) : CG l yX4_next (wsm yX4_next cX4_next 5 (some .int)) rmX4_next D cs [.ref (ase 0), .int x1] (some (.int r0)) ((kX4 cs ase (.ref (af 0)) (.ref (ac 0)) (.ref (atr 0)) Se) ++ ((kX1 cs af  Fo) ++ ((kX3 cs ac  Sc) ++ ((kX4 cs atr (.ref (af 0)) (.ref (ac 0)) .null Tr))))) ((kX4 cs ase (.ref (af 0)) (.ref (ac 0)) (.ref (atr 0)) Sez) ++ ((kX1 cs af  Fo) ++ ((kX3 cs ac  Scz) ++ ((kX4 cs atr (.ref (af 0)) (.ref (ac 0)) .null Trz))))) := by
  refine CG.intro (by decide) (Nat.le_of_ble_eq_true rfl) ?_
  intro p e s m below meth c A Q hx hb hml hown hu hK hZ hP0 hD0 hS0 hA hri hrz hrl hrv hra ls0 hl0
  have hs108 : ∀ (k108 : Int32 → Int32 → Int32 → ST → ST → ST → Option (Int32 × ST × ST × ST)), (∀ (y1 : Int32) (y3 : Int32) (y4 : Int32) (Se : ST) (Sc : ST) (Tr : ST) (H : Heap) (locs : List Loc) (ls : Array Slot), va_P D vwCl ((kX4 cs ase (.ref (af 0)) (.ref (ac 0)) (.ref (atr 0)) Se) ++ ((kX1 cs af  Fo) ++ ((kX3 cs ac  Sc) ++ ((kX4 cs atr (.ref (af 0)) (.ref (ac 0)) .null Tr))))) H → va_D A ((kX4 cs ase (.ref (af 0)) (.ref (ac 0)) (.ref (atr 0)) Se) ++ ((kX1 cs af  Fo) ++ ((kX3 cs ac  Sc) ++ ((kX4 cs atr (.ref (af 0)) (.ref (ac 0)) .null Tr))))) → va_S A s.heap H locs → lv_has ls 5 [(0, .ref (ase 0)), (1, .int y1), (3, .int y3), (4, .int y4)] → k108 y1 y3 y4 Se Sc Tr = some (r0, Sez, Scz, Trz) → W p l e rmX4_next s m [.ref (ase 0), .int x1].toArray below meth c H locs 0 0 Q (F0 m 108 ls [])) → ∀ (y1 : Int32) (y3 : Int32) (y4 : Int32) (Se : ST) (Sc : ST) (Tr : ST) (H : Heap) (locs : List Loc) (ls : Array Slot), va_P D vwCl ((kX4 cs ase (.ref (af 0)) (.ref (ac 0)) (.ref (atr 0)) Se) ++ ((kX1 cs af  Fo) ++ ((kX3 cs ac  Sc) ++ ((kX4 cs atr (.ref (af 0)) (.ref (ac 0)) .null Tr))))) H → va_D A ((kX4 cs ase (.ref (af 0)) (.ref (ac 0)) (.ref (atr 0)) Se) ++ ((kX1 cs af  Fo) ++ ((kX3 cs ac  Sc) ++ ((kX4 cs atr (.ref (af 0)) (.ref (ac 0)) .null Tr))))) → va_S A s.heap H locs → lv_has ls 5 [(0, .ref (ase 0)), (1, .int y1), (3, .int y3), (4, .int y4)] → fX4_next_108_s Fo k108 y1 y3 y4 Se Sc Tr = some (r0, Sez, Scz, Trz) → W p l e rmX4_next s m [.ref (ase 0), .int x1].toArray below meth c H locs 0 0 Q (F0 m 108 ls []) := by
    intro k108 hk108 y1 y3 y4 Se Sc Tr H locs ls hP hD hS hl hf
    unfold fX4_next_108_s at hf
    refine lv_iload hx hb dX4_next_108 (lv_at hl 3 rfl) ?_
    refine lv_iload_n hx hb dX4_next_110 rfl (lv_at hl 2 rfl) ?_
    refine lv_icmp_gt (tgt := 147) hx hb dX4_next_111 (by decide) (fun hc11 => ?_) (fun hc11 => ?_)
    · have hf := ip_el hc11 hf
      refine lv_aload_n hx hb dX4_next_147 rfl (lv_at hl 0 rfl) ?_
      refine va_get (D := D) (ci := 4) (v := .int (Se 0 6)) (C := RX4) (T := TX4) (N := 10) hx hb hu inX4 hown hK.1 hP 0 rfl rfl 6 (by decide) (hu _ q167) (fun _ h9 => h9) rfl dX4_next_148 ?_
      have he := Option.some.inj hf
      obtain ⟨e0, ht0⟩ := Prod.mk.inj he
      obtain ⟨e1, ht1⟩ := Prod.mk.inj ht0
      obtain ⟨e2, e3⟩ := Prod.mk.inj ht1
      exact hri _ _ _ rfl (congrArg (fun z => some (Value.int z)) e0.symm) dX4_next_151 _ _ _ (by rw [e1, e2, e3]) hP hD hS
    · have hf := in_el hc11 hf
      refine lv_aload_n hx hb dX4_next_114 rfl (lv_at hl 0 rfl) ?_
      refine va_get (D := D) (ci := 4) (v := .ref (ase 5)) (C := RX4) (T := TX4) (N := 10) hx hb hu inX4 hown hK.1 hP 0 rfl rfl 4 (by decide) (hu _ q163) (fun _ h9 => h9) rfl dX4_next_115 ?_
      refine lv_iload hx hb dX4_next_118 (lv_at hl 3 rfl) ?_
      obtain ⟨hi12, hf⟩ := ck_el hf
      refine va_iald hx hb hK.1 hP 2 0 rfl rfl hi12 dX4_next_120 ?_
      refine lv_iconst (v := (-1)) hx hb dX4_next_121 (by decide) ?_
      refine lv_icmp_ne (tgt := 141) hx hb dX4_next_122 (by decide) (fun hc13 => ?_) (fun hc13 => ?_)
      · have hf := in_el hc13 hf
        obtain ⟨v14, hv14, hf⟩ := lt_el hf
        refine lv_iinc (v := v14) (lv' := [(4, .int v14), (0, .ref (ase 0)), (1, .int y1), (3, .int y3)]) hx hb dX4_next_141 hl (k := 3) rfl (by rw [hv14]; rfl) (by decide) rfl (fun ls hl => ?_)
        refine lv_goto (tgt := 108) hx hb dX4_next_144 (by decide) ?_
        exact hk108 y1 y3 v14 Se Sc Tr _ _ _ hP hD hS (lv_sub hl [1, 2, 3, 0] rfl) hf
      · have hf := ip_el hc13 hf
        refine lv_aload_n hx hb dX4_next_125 rfl (lv_at hl 0 rfl) ?_
        refine va_get (D := D) (ci := 4) (v := .ref (ase 5)) (C := RX4) (T := TX4) (N := 10) hx hb hu inX4 hown hK.1 hP 0 rfl rfl 4 (by decide) (hu _ q163) (fun _ h9 => h9) rfl dX4_next_126 ?_
        refine lv_iload hx hb dX4_next_129 (lv_at hl 3 rfl) ?_
        refine lv_aload_n hx hb dX4_next_131 rfl (lv_at hl 0 rfl) ?_
        refine lv_aload_n hx hb dX4_next_132 rfl (lv_at hl 0 rfl) ?_
        refine va_get (D := D) (ci := 4) (v := .int (Se 0 6)) (C := RX4) (T := TX4) (N := 10) hx hb hu inX4 hown hK.1 hP 0 rfl rfl 6 (by decide) (hu _ q167) (fun _ h9 => h9) rfl dX4_next_133 ?_
        refine lv_iload_n hx hb dX4_next_136 rfl (lv_at hl 1 rfl) ?_
        obtain ⟨r15, Sc_16, Tr_17, hg18, hf⟩ := b3_el hf
        refine cc_V1 (w' := ((kX4 cs ase (.ref (af 0)) (.ref (ac 0)) (.ref (atr 0)) Se) ++ ((kX1 cs af  Fo) ++ ((kX3 cs ac  Sc_16) ++ ((kX4 cs atr (.ref (af 0)) (.ref (ac 0)) .null Tr_17)))))) (st1 := [.int r15, .int y4, .ref (ase 5)]) [.int (Se 0 6), .int y1] hx hb hml hown hu (tX4_choice l D cs ase af ac atr (Se 0 6) y1 Se Fo Sc Tr r15 Sc_16 Tr_17 hg18) q371 q58 q444 q369 q370 pdX4_choice ⟨rfl, rfl, Nat.le_of_ble_eq_true rfl, Nat.le_of_ble_eq_true rfl⟩ hK hZ hP hD hS hA rfl rfl rfl rfl hl.1 rfl (Nat.le_of_ble_eq_true rfl) dX4_next_137 rfl (fun H locs hP hD hS => ?_)
        obtain ⟨hi19, hf⟩ := ck_el hf
        obtain ⟨Se_20, hSe_20, hf⟩ := lt_el hf
        refine va_iast hx hb hK.1 hP hD hS 2 0 rfl rfl hi19 dX4_next_140 (fun H locs hP hD hS => ?_)
        have hP : va_P D vwCl ((kX4 cs ase (.ref (af 0)) (.ref (ac 0)) (.ref (atr 0)) Se_20) ++ ((kX1 cs af  Fo) ++ ((kX3 cs ac  Sc_16) ++ ((kX4 cs atr (.ref (af 0)) (.ref (ac 0)) .null Tr_17))))) H := by rw [hSe_20]; exact hP
        have hD : va_D A ((kX4 cs ase (.ref (af 0)) (.ref (ac 0)) (.ref (atr 0)) Se_20) ++ ((kX1 cs af  Fo) ++ ((kX3 cs ac  Sc_16) ++ ((kX4 cs atr (.ref (af 0)) (.ref (ac 0)) .null Tr_17))))) := by rw [hSe_20]; exact hD
        obtain ⟨v21, hv21, hf⟩ := lt_el hf
        refine lv_iinc (v := v21) (lv' := [(4, .int v21), (0, .ref (ase 0)), (1, .int y1), (3, .int y3)]) hx hb dX4_next_141 hl (k := 3) rfl (by rw [hv21]; rfl) (by decide) rfl (fun ls hl => ?_)
        refine lv_goto (tgt := 108) hx hb dX4_next_144 (by decide) ?_
        exact hk108 y1 y3 v21 Se_20 Sc_16 Tr_17 _ _ _ hP hD hS (lv_sub hl [1, 2, 3, 0] rfl) hf
  have h108 : ∀ (n : Nat), ∀ (y1 : Int32) (y3 : Int32) (y4 : Int32) (Se : ST) (Sc : ST) (Tr : ST) (H : Heap) (locs : List Loc) (ls : Array Slot), va_P D vwCl ((kX4 cs ase (.ref (af 0)) (.ref (ac 0)) (.ref (atr 0)) Se) ++ ((kX1 cs af  Fo) ++ ((kX3 cs ac  Sc) ++ ((kX4 cs atr (.ref (af 0)) (.ref (ac 0)) .null Tr))))) H → va_D A ((kX4 cs ase (.ref (af 0)) (.ref (ac 0)) (.ref (atr 0)) Se) ++ ((kX1 cs af  Fo) ++ ((kX3 cs ac  Sc) ++ ((kX4 cs atr (.ref (af 0)) (.ref (ac 0)) .null Tr))))) → va_S A s.heap H locs → lv_has ls 5 [(0, .ref (ase 0)), (1, .int y1), (3, .int y3), (4, .int y4)] → fX4_next_108 Fo n y1 y3 y4 Se Sc Tr = some (r0, Sez, Scz, Trz) → W p l e rmX4_next s m [.ref (ase 0), .int x1].toArray below meth c H locs 0 0 Q (F0 m 108 ls []) := by
    intro n
    induction n with
    | zero => intro y1 y3 y4 Se Sc Tr H locs ls hP hD hS hl hf; exact no_el hf
    | succ n ih => intro y1 y3 y4 Se Sc Tr H locs ls hP hD hS hl hf; exact hs108 _ ih y1 y3 y4 Se Sc Tr _ _ _ hP hD hS hl hf
  have h59 : ∀ (y1 : Int32) (Se : ST) (Sc : ST) (Tr : ST) (H : Heap) (locs : List Loc) (ls : Array Slot), va_P D vwCl ((kX4 cs ase (.ref (af 0)) (.ref (ac 0)) (.ref (atr 0)) Se) ++ ((kX1 cs af  Fo) ++ ((kX3 cs ac  Sc) ++ ((kX4 cs atr (.ref (af 0)) (.ref (ac 0)) .null Tr))))) H → va_D A ((kX4 cs ase (.ref (af 0)) (.ref (ac 0)) (.ref (atr 0)) Se) ++ ((kX1 cs af  Fo) ++ ((kX3 cs ac  Sc) ++ ((kX4 cs atr (.ref (af 0)) (.ref (ac 0)) .null Tr))))) → va_S A s.heap H locs → lv_has ls 5 [(0, .ref (ase 0)), (1, .int y1)] → fX4_next_59 Fo y1 Se Sc Tr = some (r0, Sez, Scz, Trz) → W p l e rmX4_next s m [.ref (ase 0), .int x1].toArray below meth c H locs 0 0 Q (F0 m 59 ls []) := by
    intro y1 Se Sc Tr H locs ls hP hD hS hl hf
    unfold fX4_next_59 at hf
    refine lv_aload_n hx hb dX4_next_59 rfl (lv_at hl 0 rfl) ?_
    refine va_get (D := D) (ci := 4) (v := .int (Se 0 6)) (C := RX4) (T := TX4) (N := 10) hx hb hu inX4 hown hK.1 hP 0 rfl rfl 6 (by decide) (hu _ q167) (fun _ h9 => h9) rfl dX4_next_60 ?_
    refine lv_iconst (v := (-1)) hx hb dX4_next_63 (by decide) ?_
    refine lv_icmp_ne (tgt := 69) hx hb dX4_next_64 (by decide) (fun hc5 => ?_) (fun hc5 => ?_)
    · have hf := in_el hc5 hf
      refine lv_aload_n hx hb dX4_next_69 rfl (lv_at hl 0 rfl) ?_
      refine va_get (D := D) (ci := 4) (v := .ref (ase 6)) (C := RX4) (T := TX4) (N := 10) hx hb hu inX4 hown hK.1 hP 0 rfl rfl 5 (by decide) (hu _ q165) (fun _ h9 => h9) rfl dX4_next_70 ?_
      refine lv_aload_n hx hb dX4_next_73 rfl (lv_at hl 0 rfl) ?_
      refine va_get (D := D) (ci := 4) (v := .int (Se 0 6)) (C := RX4) (T := TX4) (N := 10) hx hb hu inX4 hown hK.1 hP 0 rfl rfl 6 (by decide) (hu _ q167) (fun _ h9 => h9) rfl dX4_next_74 ?_
      refine lv_dup2_11 hx hb dX4_next_77 rfl rfl ?_
      obtain ⟨hi6, hf⟩ := ck_el hf
      refine va_iald hx hb hK.1 hP 3 0 rfl rfl hi6 dX4_next_78 ?_
      refine lv_iconst (v := 1) hx hb dX4_next_79 (by decide) ?_
      refine lv_iadd hx hb dX4_next_80 ?_
      obtain ⟨hi7, hf⟩ := ck_el hf
      obtain ⟨Se_8, hSe_8, hf⟩ := lt_el hf
      refine va_iast hx hb hK.1 hP hD hS 3 0 rfl rfl hi7 dX4_next_81 (fun H locs hP hD hS => ?_)
      have hP : va_P D vwCl ((kX4 cs ase (.ref (af 0)) (.ref (ac 0)) (.ref (atr 0)) Se_8) ++ ((kX1 cs af  Fo) ++ ((kX3 cs ac  Sc) ++ ((kX4 cs atr (.ref (af 0)) (.ref (ac 0)) .null Tr))))) H := by rw [hSe_8]; exact hP
      have hD : va_D A ((kX4 cs ase (.ref (af 0)) (.ref (ac 0)) (.ref (atr 0)) Se_8) ++ ((kX1 cs af  Fo) ++ ((kX3 cs ac  Sc) ++ ((kX4 cs atr (.ref (af 0)) (.ref (ac 0)) .null Tr))))) := by rw [hSe_8]; exact hD
      refine lv_aload_n hx hb dX4_next_82 rfl (lv_at hl 0 rfl) ?_
      refine va_get (D := D) (ci := 4) (v := .ref (ase 4)) (C := RX4) (T := TX4) (N := 10) hx hb hu inX4 hown hK.1 hP 0 rfl rfl 3 (by decide) (hu _ q161) (fun _ h9 => h9) rfl dX4_next_83 ?_
      refine lv_iconst (v := 0) hx hb dX4_next_86 (by decide) ?_
      refine ia_lit hx hb hK hP 1 0 rfl (by decide) dX4_next_87 ?_
      refine lv_iconst (v := 1) hx hb dX4_next_88 (by decide) ?_
      refine lv_isub hx hb dX4_next_89 ?_
      obtain ⟨v9, hv9, hf⟩ := lt_el hf
      refine lv_tope hv9 ?_
      refine lv_istore_n (lv' := [(3, .int v9), (0, .ref (ase 0)), (1, .int y1)]) hx hb dX4_next_90 rfl hl (by decide) rfl (fun ls hl => ?_)
      refine lv_aload_n hx hb dX4_next_91 rfl (lv_at hl 1 rfl) ?_
      refine va_get (D := D) (ci := 4) (v := .ref (ase 4)) (C := RX4) (T := TX4) (N := 10) hx hb hu inX4 hown hK.1 hP 0 rfl rfl 3 (by decide) (hu _ q161) (fun _ h9 => h9) rfl dX4_next_92 ?_
      refine lv_iconst (v := 4) hx hb dX4_next_95 (by decide) ?_
      refine ia_lit hx hb hK hP 1 4 rfl (by decide) dX4_next_96 ?_
      refine lv_iconst (v := 1) hx hb dX4_next_97 (by decide) ?_
      refine lv_icmp_ne (tgt := 105) hx hb dX4_next_98 (by decide) (fun hc10 => ?_) (fun hc10 => ?_)
      · have hf := in_el hc10 hf
        refine lv_iload_n hx hb dX4_next_105 rfl (lv_at hl 0 rfl) ?_
        refine lv_istore (lv' := [(4, .int v9), (3, .int v9), (0, .ref (ase 0)), (1, .int y1)]) hx hb dX4_next_106 hl (by decide) rfl (fun ls hl => ?_)
        exact h108 400 y1 v9 v9 Se_8 Sc Tr _ _ _ hP hD hS (lv_sub hl [2, 3, 1, 0] rfl) hf
      · have hf := ip_el hc10 hf
        refine lv_iconst (v := 0) hx hb dX4_next_101 (by decide) ?_
        refine lv_goto (tgt := 106) hx hb dX4_next_102 (by decide) ?_
        refine lv_istore (lv' := [(4, .int 0), (3, .int v9), (0, .ref (ase 0)), (1, .int y1)]) hx hb dX4_next_106 hl (by decide) rfl (fun ls hl => ?_)
        exact h108 400 y1 v9 0 Se_8 Sc Tr _ _ _ hP hD hS (lv_sub hl [2, 3, 1, 0] rfl) hf
    · have hf := ip_el hc5 hf
      refine lv_iconst (v := (-1)) hx hb dX4_next_67 (by decide) ?_
      have he := Option.some.inj hf
      obtain ⟨e0, ht0⟩ := Prod.mk.inj he
      obtain ⟨e1, ht1⟩ := Prod.mk.inj ht0
      obtain ⟨e2, e3⟩ := Prod.mk.inj ht1
      exact hri _ _ _ rfl (congrArg (fun z => some (Value.int z)) e0.symm) dX4_next_68 _ _ _ (by rw [e1, e2, e3]) hP hD hS
  have hs32 : ∀ (k32 : Int32 → Int32 → Int32 → ST → ST → ST → Option (Int32 × ST × ST × ST)), (∀ (y1 : Int32) (y2 : Int32) (y3 : Int32) (Se : ST) (Sc : ST) (Tr : ST) (H : Heap) (locs : List Loc) (ls : Array Slot), va_P D vwCl ((kX4 cs ase (.ref (af 0)) (.ref (ac 0)) (.ref (atr 0)) Se) ++ ((kX1 cs af  Fo) ++ ((kX3 cs ac  Sc) ++ ((kX4 cs atr (.ref (af 0)) (.ref (ac 0)) .null Tr))))) H → va_D A ((kX4 cs ase (.ref (af 0)) (.ref (ac 0)) (.ref (atr 0)) Se) ++ ((kX1 cs af  Fo) ++ ((kX3 cs ac  Sc) ++ ((kX4 cs atr (.ref (af 0)) (.ref (ac 0)) .null Tr))))) → va_S A s.heap H locs → lv_has ls 5 [(0, .ref (ase 0)), (1, .int y1), (2, .int y2), (3, .int y3)] → k32 y1 y2 y3 Se Sc Tr = some (r0, Sez, Scz, Trz) → W p l e rmX4_next s m [.ref (ase 0), .int x1].toArray below meth c H locs 0 0 Q (F0 m 32 ls [])) → ∀ (y1 : Int32) (y2 : Int32) (y3 : Int32) (Se : ST) (Sc : ST) (Tr : ST) (H : Heap) (locs : List Loc) (ls : Array Slot), va_P D vwCl ((kX4 cs ase (.ref (af 0)) (.ref (ac 0)) (.ref (atr 0)) Se) ++ ((kX1 cs af  Fo) ++ ((kX3 cs ac  Sc) ++ ((kX4 cs atr (.ref (af 0)) (.ref (ac 0)) .null Tr))))) H → va_D A ((kX4 cs ase (.ref (af 0)) (.ref (ac 0)) (.ref (atr 0)) Se) ++ ((kX1 cs af  Fo) ++ ((kX3 cs ac  Sc) ++ ((kX4 cs atr (.ref (af 0)) (.ref (ac 0)) .null Tr))))) → va_S A s.heap H locs → lv_has ls 5 [(0, .ref (ase 0)), (1, .int y1), (2, .int y2), (3, .int y3)] → fX4_next_32_s Fo k32 y1 y2 y3 Se Sc Tr = some (r0, Sez, Scz, Trz) → W p l e rmX4_next s m [.ref (ase 0), .int x1].toArray below meth c H locs 0 0 Q (F0 m 32 ls []) := by
    intro k32 hk32 y1 y2 y3 Se Sc Tr H locs ls hP hD hS hl hf
    unfold fX4_next_32_s at hf
    refine lv_iload_n hx hb dX4_next_32 rfl (lv_at hl 3 rfl) ?_
    refine lv_iload_n hx hb dX4_next_33 rfl (lv_at hl 2 rfl) ?_
    refine lv_icmp_ge (tgt := 59) hx hb dX4_next_34 (by decide) (fun hc4 => ?_) (fun hc4 => ?_)
    · have hf := ip_el hc4 hf
      exact h59 y1 Se Sc Tr _ _ _ hP hD hS (lv_sub hl [0, 1] rfl) hf
    · have hf := in_el hc4 hf
      refine lv_aload_n hx hb dX4_next_37 rfl (lv_at hl 0 rfl) ?_
      refine va_get (D := D) (ci := 4) (v := .int (Se 0 6)) (C := RX4) (T := TX4) (N := 10) hx hb hu inX4 hown hK.1 hP 0 rfl rfl 6 (by decide) (hu _ q167) (fun _ h9 => h9) rfl dX4_next_38 ?_
      refine lv_iconst (v := (-1)) hx hb dX4_next_41 (by decide) ?_
      refine lv_icmp_ne (tgt := 59) hx hb dX4_next_42 (by decide) (fun hc22 => ?_) (fun hc22 => ?_)
      · have hf := in_el hc22 hf
        exact h59 y1 Se Sc Tr _ _ _ hP hD hS (lv_sub hl [0, 1] rfl) hf
      · have hf := ip_el hc22 hf
        refine lv_aload_n hx hb dX4_next_45 rfl (lv_at hl 0 rfl) ?_
        refine lv_aload_n hx hb dX4_next_46 rfl (lv_at hl 0 rfl) ?_
        obtain ⟨r23, Se_24, hg25, hf⟩ := b2_el hf
        refine cc_V (w' := ((kX4 cs ase (.ref (af 0)) (.ref (ac 0)) (.ref (atr 0)) Se_24) ++ ((kX1 cs af  Fo) ++ ((kX3 cs ac  Sc) ++ ((kX4 cs atr (.ref (af 0)) (.ref (ac 0)) .null Tr)))))) (wr := ((kX1 cs af  Fo) ++ ((kX3 cs ac  Sc) ++ ((kX4 cs atr (.ref (af 0)) (.ref (ac 0)) .null Tr))))) (st1 := [.int r23, .ref (ase 0)]) [] hx hb hml hown hu (tX4_moveUp l D cs ase (.ref (af 0)) (.ref (ac 0)) (.ref (atr 0)) Se r23 Se_24 hg25) q443 q58 q440 q442 q4 pdX4_moveUp ⟨rfl, rfl, Nat.le_of_ble_eq_true rfl, Nat.le_of_ble_eq_true rfl⟩ hK hZ hP hD hS hA [0, 1, 2, 3] [4, 5, 6, 7, 8, 9, 10, 11, 12, 13, 14, 15, 16, 17] [14, 15, 16, 17, 0, 1, 2, 3, 4, 5, 6, 7, 8, 9, 10, 11, 12, 13] rfl rfl rfl rfl rfl rfl rfl rfl rfl rfl hl.1 rfl (Nat.le_of_ble_eq_true rfl) dX4_next_47 rfl (fun H locs hP hD hS => ?_)
        obtain ⟨Se_26, hSe_26, hf⟩ := lt_el hf
        refine va_put (D := D) (ci := 4) (v := .int r23) (ty := .int) (C := RX4) (T := TX4) (N := 10) hx hb hu inX4 tyX4 tyX4_ok nmX4 hown hK.1 hP hD hS 0 rfl rfl 6 (by decide) (hu _ q167) (fun _ h9 => h9) rfl (by decide +kernel) rfl rfl (Nat.le_of_ble_eq_true rfl) dX4_next_50 (fun H locs hP hD hS => ?_)
        have hP : va_P D vwCl ((kX4 cs ase (.ref (af 0)) (.ref (ac 0)) (.ref (atr 0)) Se_26) ++ ((kX1 cs af  Fo) ++ ((kX3 cs ac  Sc) ++ ((kX4 cs atr (.ref (af 0)) (.ref (ac 0)) .null Tr))))) H := by rw [hSe_26]; exact hP
        have hD : va_D A ((kX4 cs ase (.ref (af 0)) (.ref (ac 0)) (.ref (atr 0)) Se_26) ++ ((kX1 cs af  Fo) ++ ((kX3 cs ac  Sc) ++ ((kX4 cs atr (.ref (af 0)) (.ref (ac 0)) .null Tr))))) := by rw [hSe_26]; exact hD
        obtain ⟨v27, hv27, hf⟩ := lt_el hf
        refine lv_iinc (v := v27) (lv' := [(3, .int v27), (0, .ref (ase 0)), (1, .int y1), (2, .int y2)]) hx hb dX4_next_53 hl (k := 3) rfl (by rw [hv27]; rfl) (by decide) rfl (fun ls hl => ?_)
        refine lv_goto (tgt := 32) hx hb dX4_next_56 (by decide) ?_
        exact hk32 y1 y2 v27 Se_26 Sc Tr _ _ _ hP hD hS (lv_sub hl [1, 2, 3, 0] rfl) hf
  have h32 : ∀ (n : Nat), ∀ (y1 : Int32) (y2 : Int32) (y3 : Int32) (Se : ST) (Sc : ST) (Tr : ST) (H : Heap) (locs : List Loc) (ls : Array Slot), va_P D vwCl ((kX4 cs ase (.ref (af 0)) (.ref (ac 0)) (.ref (atr 0)) Se) ++ ((kX1 cs af  Fo) ++ ((kX3 cs ac  Sc) ++ ((kX4 cs atr (.ref (af 0)) (.ref (ac 0)) .null Tr))))) H → va_D A ((kX4 cs ase (.ref (af 0)) (.ref (ac 0)) (.ref (atr 0)) Se) ++ ((kX1 cs af  Fo) ++ ((kX3 cs ac  Sc) ++ ((kX4 cs atr (.ref (af 0)) (.ref (ac 0)) .null Tr))))) → va_S A s.heap H locs → lv_has ls 5 [(0, .ref (ase 0)), (1, .int y1), (2, .int y2), (3, .int y3)] → fX4_next_32 Fo n y1 y2 y3 Se Sc Tr = some (r0, Sez, Scz, Trz) → W p l e rmX4_next s m [.ref (ase 0), .int x1].toArray below meth c H locs 0 0 Q (F0 m 32 ls []) := by
    intro n
    induction n with
    | zero => intro y1 y2 y3 Se Sc Tr H locs ls hP hD hS hl hf; exact no_el hf
    | succ n ih => intro y1 y2 y3 Se Sc Tr H locs ls hP hD hS hl hf; exact hs32 _ ih y1 y2 y3 Se Sc Tr _ _ _ hP hD hS hl hf
  have hl : lv_has ls0 5 [(0, .ref (ase 0)), (1, .int x1)] := hl0
  have hP := hP0
  have hD := hD0
  have hS := hS0
  unfold fX4_next at hf
  refine lv_aload_n hx hb dX4_next_0 rfl (lv_at hl 0 rfl) ?_
  refine lv_iconst (v := (-1)) hx hb dX4_next_1 (by decide) ?_
  obtain ⟨Se_1, hSe_1, hf⟩ := lt_el hf
  refine va_put (D := D) (ci := 4) (v := .int (-1)) (ty := .int) (C := RX4) (T := TX4) (N := 10) hx hb hu inX4 tyX4 tyX4_ok nmX4 hown hK.1 hP hD hS 0 rfl rfl 6 (by decide) (hu _ q167) (fun _ h9 => h9) rfl (by decide +kernel) rfl rfl (Nat.le_of_ble_eq_true rfl) dX4_next_2 (fun H locs hP hD hS => ?_)
  have hP : va_P D vwCl ((kX4 cs ase (.ref (af 0)) (.ref (ac 0)) (.ref (atr 0)) Se_1) ++ ((kX1 cs af  Fo) ++ ((kX3 cs ac  Sc) ++ ((kX4 cs atr (.ref (af 0)) (.ref (ac 0)) .null Tr))))) H := by rw [hSe_1]; exact hP
  have hD : va_D A ((kX4 cs ase (.ref (af 0)) (.ref (ac 0)) (.ref (atr 0)) Se_1) ++ ((kX1 cs af  Fo) ++ ((kX3 cs ac  Sc) ++ ((kX4 cs atr (.ref (af 0)) (.ref (ac 0)) .null Tr))))) := by rw [hSe_1]; exact hD
  refine lv_aload_n hx hb dX4_next_5 rfl (lv_at hl 0 rfl) ?_
  refine lv_iconst (v := 0) hx hb dX4_next_6 (by decide) ?_
  obtain ⟨Se_2, hSe_2, hf⟩ := lt_el hf
  refine va_put (D := D) (ci := 4) (v := .int 0) (ty := .int) (C := RX4) (T := TX4) (N := 10) hx hb hu inX4 tyX4 tyX4_ok nmX4 hown hK.1 hP hD hS 0 rfl rfl 7 (by decide) (hu _ q169) (fun _ h9 => h9) rfl (by decide +kernel) rfl rfl (Nat.le_of_ble_eq_true rfl) dX4_next_7 (fun H locs hP hD hS => ?_)
  have hP : va_P D vwCl ((kX4 cs ase (.ref (af 0)) (.ref (ac 0)) (.ref (atr 0)) Se_2) ++ ((kX1 cs af  Fo) ++ ((kX3 cs ac  Sc) ++ ((kX4 cs atr (.ref (af 0)) (.ref (ac 0)) .null Tr))))) H := by rw [hSe_2]; exact hP
  have hD : va_D A ((kX4 cs ase (.ref (af 0)) (.ref (ac 0)) (.ref (atr 0)) Se_2) ++ ((kX1 cs af  Fo) ++ ((kX3 cs ac  Sc) ++ ((kX4 cs atr (.ref (af 0)) (.ref (ac 0)) .null Tr))))) := by rw [hSe_2]; exact hD
  refine lv_aload_n hx hb dX4_next_10 rfl (lv_at hl 0 rfl) ?_
  refine va_get (D := D) (ci := 4) (v := .ref (ase 4)) (C := RX4) (T := TX4) (N := 10) hx hb hu inX4 hown hK.1 hP 0 rfl rfl 3 (by decide) (hu _ q161) (fun _ h9 => h9) rfl dX4_next_11 ?_
  refine lv_iconst (v := 4) hx hb dX4_next_14 (by decide) ?_
  refine ia_lit hx hb hK hP 1 4 rfl (by decide) dX4_next_15 ?_
  refine lv_if_ne (tgt := 28) hx hb dX4_next_16 (by decide) (fun hc3 => ?_) (fun hc3 => ?_)
  · have hf := in_el hc3 hf
    refine lv_iconst (v := 1) hx hb dX4_next_28 (by decide) ?_
    refine lv_istore_n (lv' := [(2, .int 1), (0, .ref (ase 0)), (1, .int x1)]) hx hb dX4_next_29 rfl hl (by decide) rfl (fun ls hl => ?_)
    refine lv_iconst (v := 0) hx hb dX4_next_30 (by decide) ?_
    refine lv_istore_n (lv' := [(3, .int 0), (2, .int 1), (0, .ref (ase 0)), (1, .int x1)]) hx hb dX4_next_31 rfl hl (by decide) rfl (fun ls hl => ?_)
    exact h32 400 x1 1 0 Se_2 Sc Tr _ _ _ hP hD hS (lv_sub hl [2, 3, 1, 0] rfl) hf
  · have hf := ip_el hc3 hf
    refine lv_aload_n hx hb dX4_next_19 rfl (lv_at hl 0 rfl) ?_
    refine va_get (D := D) (ci := 4) (v := .ref (ase 4)) (C := RX4) (T := TX4) (N := 10) hx hb hu inX4 hown hK.1 hP 0 rfl rfl 3 (by decide) (hu _ q161) (fun _ h9 => h9) rfl dX4_next_20 ?_
    refine lv_iconst (v := 0) hx hb dX4_next_23 (by decide) ?_
    refine ia_lit hx hb hK hP 1 0 rfl (by decide) dX4_next_24 ?_
    refine lv_goto (tgt := 29) hx hb dX4_next_25 (by decide) ?_
    obtain ⟨v28, hv28, hf⟩ := lt_el hf
    refine lv_tope hv28 ?_
    refine lv_istore_n (lv' := [(2, .int v28), (0, .ref (ase 0)), (1, .int x1)]) hx hb dX4_next_29 rfl hl (by decide) rfl (fun ls hl => ?_)
    refine lv_iconst (v := 0) hx hb dX4_next_30 (by decide) ?_
    refine lv_istore_n (lv' := [(3, .int 0), (2, .int v28), (0, .ref (ase 0)), (1, .int x1)]) hx hb dX4_next_31 rfl hl (by decide) rfl (fun ls hl => ?_)
    exact h32 400 x1 v28 0 Se_2 Sc Tr _ _ _ hP hD hS (lv_sub hl [2, 3, 1, 0] rfl) hf

def fX4_year_65 (Se : ST) (Fo : ST) (Sc : ST) (Tr : ST) : Option (Int32 × ST × ST × ST × ST) :=
  dc_b4 (fX4_next 1 Se Fo Sc Tr) (fun r9 Se_10 Sc_11 Tr_12 => (if r9 = (-1) then some (0, Se_10, Fo, Sc_11, Tr_12) else some (1, Se_10, Fo, Sc_11, Tr_12)))
def fX4_year_25 (Se : ST) (Fo : ST) (Sc : ST) (Tr : ST) : Option (Int32 × ST × ST × ST × ST) :=
  dc_b1 (fX1_drawLots (Se 4 5) Fo) (fun Fo_4 => dc_b1 (fX4_bury Se Fo_4) (fun Se_6 => (if (Se_6 0 6) = (-1) then fX4_year_65 Se_6 Fo_4 Sc Tr else (if (Se_6 4 1) ≤ (Se_6 0 7) then fX4_year_65 Se_6 Fo_4 Sc Tr else some (0, Se_6, Fo_4, Sc, Tr)))))
def fX4_year (Se : ST) (Fo : ST) (Sc : ST) (Tr : ST) : Option (Int32 × ST × ST × ST × ST) :=
  dc_b1 (fX1_grow Fo) (fun Fo_1 => (if (Se 0 6) = (-1) then fX4_year_25 Se Fo_1 Sc Tr else dc_lt (sti Se 0 7 ((Se 0 7) + 1)) (fun Se_16 => fX4_year_25 Se_16 Fo_1 Sc Tr)))
abbrev rmX4_year : Room := { frames := 10, cells := 0, slots := 0, locals := 256 }
set_option maxRecDepth 100000 in
set_option maxHeartbeats 4000000 in
theorem tX4_year (l : Launch) (D : va_G) (cs : Nat → ClassId) (ase : Nat → Nat) (af : Nat → Nat) (ac : Nat → Nat) (atr : Nat → Nat) (Se : ST) (Fo : ST) (Sc : ST) (Tr : ST) (r0 : Int32) (Sez : ST) (Foz : ST) (Scz : ST) (Trz : ST) (hf : fX4_year Se Fo Sc Tr = some (r0, Sez, Foz, Scz, Trz)) : CG l yX4_year (wsm yX4_year cX4_year 1 (some .boolean)) rmX4_year D cs [.ref (ase 0)] (some (.int r0)) ((kX4 cs ase (.ref (af 0)) (.ref (ac 0)) (.ref (atr 0)) Se) ++ ((kX1 cs af  Fo) ++ ((kX3 cs ac  Sc) ++ ((kX4 cs atr (.ref (af 0)) (.ref (ac 0)) .null Tr))))) ((kX4 cs ase (.ref (af 0)) (.ref (ac 0)) (.ref (atr 0)) Sez) ++ ((kX1 cs af  Foz) ++ ((kX3 cs ac  Scz) ++ ((kX4 cs atr (.ref (af 0)) (.ref (ac 0)) .null Trz))))) := by
  refine CG.intro (by decide) (Nat.le_of_ble_eq_true rfl) ?_
  intro p e s m below meth c A Q hx hb hml hown hu hK hZ hP0 hD0 hS0 hA hri hrz hrl hrv hra ls0 hl0
  have h65 : ∀ (Se : ST) (Fo : ST) (Sc : ST) (Tr : ST) (H : Heap) (locs : List Loc) (ls : Array Slot), va_P D vwCl ((kX4 cs ase (.ref (af 0)) (.ref (ac 0)) (.ref (atr 0)) Se) ++ ((kX1 cs af  Fo) ++ ((kX3 cs ac  Sc) ++ ((kX4 cs atr (.ref (af 0)) (.ref (ac 0)) .null Tr))))) H → va_D A ((kX4 cs ase (.ref (af 0)) (.ref (ac 0)) (.ref (atr 0)) Se) ++ ((kX1 cs af  Fo) ++ ((kX3 cs ac  Sc) ++ ((kX4 cs atr (.ref (af 0)) (.ref (ac 0)) .null Tr))))) → va_S A s.heap H locs → lv_has ls 1 [(0, .ref (ase 0))] → fX4_year_65 Se Fo Sc Tr = some (r0, Sez, Foz, Scz, Trz) → W p l e rmX4_year s m [.ref (ase 0)].toArray below meth c H locs 0 0 Q (F0 m 65 ls []) := by
    intro Se Fo Sc Tr H locs ls hP hD hS hl hf
    unfold fX4_year_65 at hf
    refine lv_aload_n hx hb dX4_year_65 rfl (lv_at hl 0 rfl) ?_
    refine lv_iconst (v := 1) hx hb dX4_year_66 (by decide) ?_
    obtain ⟨r9, Se_10, Sc_11, Tr_12, hg13, hf⟩ := b4_el hf
    refine cc_V1 (w' := ((kX4 cs ase (.ref (af 0)) (.ref (ac 0)) (.ref (atr 0)) Se_10) ++ ((kX1 cs af  Fo) ++ ((kX3 cs ac  Sc_11) ++ ((kX4 cs atr (.ref (af 0)) (.ref (ac 0)) .null Tr_12)))))) (st1 := [.int r9]) [.int 1] hx hb hml hown hu (tX4_next l D cs ase af ac atr 1 Se Fo Sc Tr r9 Se_10 Sc_11 Tr_12 hg13) q439 q58 q436 q437 q438 pdX4_next ⟨rfl, rfl, Nat.le_of_ble_eq_true rfl, Nat.le_of_ble_eq_true rfl⟩ hK hZ hP hD hS hA rfl rfl rfl rfl hl.1 rfl (Nat.le_of_ble_eq_true rfl) dX4_year_67 rfl (fun H locs hP hD hS => ?_)
    refine lv_iconst (v := (-1)) hx hb dX4_year_70 (by decide) ?_
    refine lv_icmp_eq (tgt := 78) hx hb dX4_year_71 (by decide) (fun hc14 => ?_) (fun hc14 => ?_)
    · have hf := ip_el hc14 hf
      refine lv_iconst (v := 0) hx hb dX4_year_78 (by decide) ?_
      have he := Option.some.inj hf
      obtain ⟨e0, ht0⟩ := Prod.mk.inj he
      obtain ⟨e1, ht1⟩ := Prod.mk.inj ht0
      obtain ⟨e2, ht2⟩ := Prod.mk.inj ht1
      obtain ⟨e3, e4⟩ := Prod.mk.inj ht2
      exact hrz _ _ _ .boolean rfl rfl (congrArg (fun z => some (Value.int z)) e0.symm) dX4_year_79 _ _ _ (by rw [e1, e2, e3, e4]) hP hD hS
    · have hf := in_el hc14 hf
      refine lv_iconst (v := 1) hx hb dX4_year_74 (by decide) ?_
      refine lv_goto (tgt := 79) hx hb dX4_year_75 (by decide) ?_
      have he := Option.some.inj hf
      obtain ⟨e0, ht0⟩ := Prod.mk.inj he
      obtain ⟨e1, ht1⟩ := Prod.mk.inj ht0
      obtain ⟨e2, ht2⟩ := Prod.mk.inj ht1
      obtain ⟨e3, e4⟩ := Prod.mk.inj ht2
      exact hrz _ _ _ .boolean rfl rfl (congrArg (fun z => some (Value.int z)) e0.symm) dX4_year_79 _ _ _ (by rw [e1, e2, e3, e4]) hP hD hS
  have h25 : ∀ (Se : ST) (Fo : ST) (Sc : ST) (Tr : ST) (H : Heap) (locs : List Loc) (ls : Array Slot), va_P D vwCl ((kX4 cs ase (.ref (af 0)) (.ref (ac 0)) (.ref (atr 0)) Se) ++ ((kX1 cs af  Fo) ++ ((kX3 cs ac  Sc) ++ ((kX4 cs atr (.ref (af 0)) (.ref (ac 0)) .null Tr))))) H → va_D A ((kX4 cs ase (.ref (af 0)) (.ref (ac 0)) (.ref (atr 0)) Se) ++ ((kX1 cs af  Fo) ++ ((kX3 cs ac  Sc) ++ ((kX4 cs atr (.ref (af 0)) (.ref (ac 0)) .null Tr))))) → va_S A s.heap H locs → lv_has ls 1 [(0, .ref (ase 0))] → fX4_year_25 Se Fo Sc Tr = some (r0, Sez, Foz, Scz, Trz) → W p l e rmX4_year s m [.ref (ase 0)].toArray below meth c H locs 0 0 Q (F0 m 25 ls []) := by
    intro Se Fo Sc Tr H locs ls hP hD hS hl hf
    unfold fX4_year_25 at hf
    refine lv_aload_n hx hb dX4_year_25 rfl (lv_at hl 0 rfl) ?_
    refine va_get (D := D) (ci := 4) (v := .ref (af 0)) (C := RX4) (T := TX4) (N := 10) hx hb hu inX4 hown hK.1 hP 0 rfl rfl 0 (by decide) (hu _ q158) (fun _ h9 => h9) rfl dX4_year_26 ?_
    refine lv_aload_n hx hb dX4_year_29 rfl (lv_at hl 0 rfl) ?_
    refine va_get (D := D) (ci := 4) (v := .ref (ase 4)) (C := RX4) (T := TX4) (N := 10) hx hb hu inX4 hown hK.1 hP 0 rfl rfl 3 (by decide) (hu _ q161) (fun _ h9 => h9) rfl dX4_year_30 ?_
    refine lv_iconst (v := 5) hx hb dX4_year_33 (by decide) ?_
    refine ia_lit hx hb hK hP 1 5 rfl (by decide) dX4_year_34 ?_
    obtain ⟨Fo_4, hg5, hf⟩ := b1_el hf
    refine cc_V (w' := ((kX4 cs ase (.ref (af 0)) (.ref (ac 0)) (.ref (atr 0)) Se) ++ ((kX1 cs af  Fo_4) ++ ((kX3 cs ac  Sc) ++ ((kX4 cs atr (.ref (af 0)) (.ref (ac 0)) .null Tr)))))) (wr := ((kX4 cs ase (.ref (af 0)) (.ref (ac 0)) (.ref (atr 0)) Se) ++ ((kX3 cs ac  Sc) ++ ((kX4 cs atr (.ref (af 0)) (.ref (ac 0)) .null Tr))))) (st1 := []) [.int (Se 4 5)] hx hb hml hown hu (tX1_drawLots l D cs af (Se 4 5) Fo Fo_4 hg5) q545 q56 q542 q543 q544 pdX1_drawLots ⟨rfl, rfl, Nat.le_of_ble_eq_true rfl, Nat.le_of_ble_eq_true rfl⟩ hK hZ hP hD hS hA [4, 5, 6, 7, 8, 9, 10] [0, 1, 2, 3, 11, 12, 13, 14, 15, 16, 17] [0, 1, 2, 3, 11, 12, 13, 14, 15, 16, 17, 4, 5, 6, 7, 8, 9, 10] rfl rfl rfl rfl rfl rfl rfl rfl rfl rfl hl.1 rfl (Nat.le_of_ble_eq_true rfl) dX4_year_35 rfl (fun H locs hP hD hS => ?_)
    refine lv_aload_n hx hb dX4_year_38 rfl (lv_at hl 0 rfl) ?_
    obtain ⟨Se_6, hg7, hf⟩ := b1_el hf
    refine cc_V (w' := ((kX4 cs ase (.ref (af 0)) (.ref (ac 0)) (.ref (atr 0)) Se_6) ++ ((kX1 cs af  Fo_4) ++ ((kX3 cs ac  Sc) ++ ((kX4 cs atr (.ref (af 0)) (.ref (ac 0)) .null Tr)))))) (wr := ((kX3 cs ac  Sc) ++ ((kX4 cs atr (.ref (af 0)) (.ref (ac 0)) .null Tr)))) (st1 := []) [] hx hb hml hown hu (tX4_bury l D cs ase af ac (.ref (atr 0)) Se Fo_4 Se_6 hg7) q550 q58 q547 q549 q8 pdX4_bury ⟨rfl, rfl, Nat.le_of_ble_eq_true rfl, Nat.le_of_ble_eq_true rfl⟩ hK hZ hP hD hS hA [0, 1, 2, 3, 4, 5, 6, 7, 8, 9, 10] [11, 12, 13, 14, 15, 16, 17] [7, 8, 9, 10, 11, 12, 13, 14, 15, 16, 17, 0, 1, 2, 3, 4, 5, 6] rfl rfl rfl rfl rfl rfl rfl rfl rfl rfl hl.1 rfl (Nat.le_of_ble_eq_true rfl) dX4_year_39 rfl (fun H locs hP hD hS => ?_)
    refine lv_aload_n hx hb dX4_year_42 rfl (lv_at hl 0 rfl) ?_
    refine va_get (D := D) (ci := 4) (v := .int (Se_6 0 6)) (C := RX4) (T := TX4) (N := 10) hx hb hu inX4 hown hK.1 hP 0 rfl rfl 6 (by decide) (hu _ q167) (fun _ h9 => h9) rfl dX4_year_43 ?_
    refine lv_iconst (v := (-1)) hx hb dX4_year_46 (by decide) ?_
    refine lv_icmp_eq (tgt := 65) hx hb dX4_year_47 (by decide) (fun hc8 => ?_) (fun hc8 => ?_)
    · have hf := ip_el hc8 hf
      exact h65 Se_6 Fo_4 Sc Tr _ _ _ hP hD hS (lv_sub hl [0] rfl) hf
    · have hf := in_el hc8 hf
      refine lv_aload_n hx hb dX4_year_50 rfl (lv_at hl 0 rfl) ?_
      refine va_get (D := D) (ci := 4) (v := .int (Se_6 0 7)) (C := RX4) (T := TX4) (N := 10) hx hb hu inX4 hown hK.1 hP 0 rfl rfl 7 (by decide) (hu _ q169) (fun _ h9 => h9) rfl dX4_year_51 ?_
      refine lv_aload_n hx hb dX4_year_54 rfl (lv_at hl 0 rfl) ?_
      refine va_get (D := D) (ci := 4) (v := .ref (ase 4)) (C := RX4) (T := TX4) (N := 10) hx hb hu inX4 hown hK.1 hP 0 rfl rfl 3 (by decide) (hu _ q161) (fun _ h9 => h9) rfl dX4_year_55 ?_
      refine lv_iconst (v := 1) hx hb dX4_year_58 (by decide) ?_
      refine ia_lit hx hb hK hP 1 1 rfl (by decide) dX4_year_59 ?_
      refine lv_icmp_ge (tgt := 65) hx hb dX4_year_60 (by decide) (fun hc15 => ?_) (fun hc15 => ?_)
      · have hf := ip_el hc15 hf
        exact h65 Se_6 Fo_4 Sc Tr _ _ _ hP hD hS (lv_sub hl [0] rfl) hf
      · have hf := in_el hc15 hf
        refine lv_iconst (v := 0) hx hb dX4_year_63 (by decide) ?_
        have he := Option.some.inj hf
        obtain ⟨e0, ht0⟩ := Prod.mk.inj he
        obtain ⟨e1, ht1⟩ := Prod.mk.inj ht0
        obtain ⟨e2, ht2⟩ := Prod.mk.inj ht1
        obtain ⟨e3, e4⟩ := Prod.mk.inj ht2
        exact hrz _ _ _ .boolean rfl rfl (congrArg (fun z => some (Value.int z)) e0.symm) dX4_year_64 _ _ _ (by rw [e1, e2, e3, e4]) hP hD hS
  have hl : lv_has ls0 1 [(0, .ref (ase 0))] := hl0
  have hP := hP0
  have hD := hD0
  have hS := hS0
  unfold fX4_year at hf
  refine lv_aload_n hx hb dX4_year_0 rfl (lv_at hl 0 rfl) ?_
  refine va_get (D := D) (ci := 4) (v := .ref (af 0)) (C := RX4) (T := TX4) (N := 10) hx hb hu inX4 hown hK.1 hP 0 rfl rfl 0 (by decide) (hu _ q158) (fun _ h9 => h9) rfl dX4_year_1 ?_
  obtain ⟨Fo_1, hg2, hf⟩ := b1_el hf
  refine cc_V (w' := ((kX4 cs ase (.ref (af 0)) (.ref (ac 0)) (.ref (atr 0)) Se) ++ ((kX1 cs af  Fo_1) ++ ((kX3 cs ac  Sc) ++ ((kX4 cs atr (.ref (af 0)) (.ref (ac 0)) .null Tr)))))) (wr := ((kX4 cs ase (.ref (af 0)) (.ref (ac 0)) (.ref (atr 0)) Se) ++ ((kX3 cs ac  Sc) ++ ((kX4 cs atr (.ref (af 0)) (.ref (ac 0)) .null Tr))))) (st1 := []) [] hx hb hml hown hu (tX1_grow l D cs af Fo Fo_1 hg2) q540 q56 q537 q538 q539 pdX1_grow ⟨rfl, rfl, Nat.le_of_ble_eq_true rfl, Nat.le_of_ble_eq_true rfl⟩ hK hZ hP hD hS hA [4, 5, 6, 7, 8, 9, 10] [0, 1, 2, 3, 11, 12, 13, 14, 15, 16, 17] [0, 1, 2, 3, 11, 12, 13, 14, 15, 16, 17, 4, 5, 6, 7, 8, 9, 10] rfl rfl rfl rfl rfl rfl rfl rfl rfl rfl hl.1 rfl (Nat.le_of_ble_eq_true rfl) dX4_year_4 rfl (fun H locs hP hD hS => ?_)
  refine lv_aload_n hx hb dX4_year_7 rfl (lv_at hl 0 rfl) ?_
  refine va_get (D := D) (ci := 4) (v := .int (Se 0 6)) (C := RX4) (T := TX4) (N := 10) hx hb hu inX4 hown hK.1 hP 0 rfl rfl 6 (by decide) (hu _ q167) (fun _ h9 => h9) rfl dX4_year_8 ?_
  refine lv_iconst (v := (-1)) hx hb dX4_year_11 (by decide) ?_
  refine lv_icmp_eq (tgt := 25) hx hb dX4_year_12 (by decide) (fun hc3 => ?_) (fun hc3 => ?_)
  · have hf := ip_el hc3 hf
    exact h25 Se Fo_1 Sc Tr _ _ _ hP hD hS (lv_sub hl [0] rfl) hf
  · have hf := in_el hc3 hf
    refine lv_aload_n hx hb dX4_year_15 rfl (lv_at hl 0 rfl) ?_
    refine lv_dup hx hb dX4_year_16 rfl ?_
    refine va_get (D := D) (ci := 4) (v := .int (Se 0 7)) (C := RX4) (T := TX4) (N := 10) hx hb hu inX4 hown hK.1 hP 0 rfl rfl 7 (by decide) (hu _ q169) (fun _ h9 => h9) rfl dX4_year_17 ?_
    refine lv_iconst (v := 1) hx hb dX4_year_20 (by decide) ?_
    refine lv_iadd hx hb dX4_year_21 ?_
    obtain ⟨Se_16, hSe_16, hf⟩ := lt_el hf
    refine va_put (D := D) (ci := 4) (v := .int ((Se 0 7) + 1)) (ty := .int) (C := RX4) (T := TX4) (N := 10) hx hb hu inX4 tyX4 tyX4_ok nmX4 hown hK.1 hP hD hS 0 rfl rfl 7 (by decide) (hu _ q169) (fun _ h9 => h9) rfl (by decide +kernel) rfl rfl (Nat.le_of_ble_eq_true rfl) dX4_year_22 (fun H locs hP hD hS => ?_)
    have hP : va_P D vwCl ((kX4 cs ase (.ref (af 0)) (.ref (ac 0)) (.ref (atr 0)) Se_16) ++ ((kX1 cs af  Fo_1) ++ ((kX3 cs ac  Sc) ++ ((kX4 cs atr (.ref (af 0)) (.ref (ac 0)) .null Tr))))) H := by rw [hSe_16]; exact hP
    have hD : va_D A ((kX4 cs ase (.ref (af 0)) (.ref (ac 0)) (.ref (atr 0)) Se_16) ++ ((kX1 cs af  Fo_1) ++ ((kX3 cs ac  Sc) ++ ((kX4 cs atr (.ref (af 0)) (.ref (ac 0)) .null Tr))))) := by rw [hSe_16]; exact hD
    exact h25 Se_16 Fo_1 Sc Tr _ _ _ hP hD hS (lv_sub hl [0] rfl) hf

def fX2_takeFrom (Fo : ST) (Sc : ST) (Se : ST) (Fo2 : ST) (Sc2 : ST) (Se2 : ST) : Option (ST × ST × ST) :=
  dc_b1 (fX1_takeFrom Fo Fo2) (fun Fo_1 => dc_b1 (fX3_takeFrom Sc Sc2) (fun Sc_3 => dc_b1 (fX4_takeFrom Se Se2) (fun Se_5 => some (Fo_1, Sc_3, Se_5))))
abbrev rmX2_takeFrom : Room := { frames := 2, cells := 0, slots := 0, locals := 61 }
set_option maxRecDepth 100000 in
set_option maxHeartbeats 4000000 in
theorem tX2_takeFrom (l : Launch) (D : va_G) (cs : Nat → ClassId) (are : Nat → Nat) (af : Nat → Nat) (ac : Nat → Nat) (rt : Value) (ase : Nat → Nat) (p0 : Value) (p1 : Value) (p2 : Value) (are2 : Nat → Nat) (af2 : Nat → Nat) (ac2 : Nat → Nat) (rt2 : Value) (ase2 : Nat → Nat) (q0 : Value) (q1 : Value) (q2 : Value) (Fo : ST) (Sc : ST) (Se : ST) (Fo2 : ST) (Sc2 : ST) (Se2 : ST) (Foz : ST) (Scz : ST) (Sez : ST) (hf : fX2_takeFrom Fo Sc Se Fo2 Sc2 Se2 = some (Foz, Scz, Sez)) : CG l yX2_takeFrom (wsm yX2_takeFrom cX2_takeFrom 2 none) rmX2_takeFrom D cs [.ref (are 0), .ref (are2 0)] none ((kX2 cs are (.ref (af 0)) (.ref (ac 0)) rt (.ref (ase 0)) ) ++ ((kX1 cs af  Fo) ++ ((kX3 cs ac  Sc) ++ ((kX4 cs ase p0 p1 p2 Se) ++ ((kX2 cs are2 (.ref (af2 0)) (.ref (ac2 0)) rt2 (.ref (ase2 0)) ) ++ ((kX1 cs af2  Fo2) ++ ((kX3 cs ac2  Sc2) ++ ((kX4 cs ase2 q0 q1 q2 Se2))))))))) ((kX2 cs are (.ref (af 0)) (.ref (ac 0)) rt (.ref (ase 0)) ) ++ ((kX1 cs af  Foz) ++ ((kX3 cs ac  Scz) ++ ((kX4 cs ase p0 p1 p2 Sez) ++ ((kX2 cs are2 (.ref (af2 0)) (.ref (ac2 0)) rt2 (.ref (ase2 0)) ) ++ ((kX1 cs af2  Fo2) ++ ((kX3 cs ac2  Sc2) ++ ((kX4 cs ase2 q0 q1 q2 Se2))))))))) := by
  refine CG.intro (by decide) (Nat.le_of_ble_eq_true rfl) ?_
  intro p e s m below meth c A Q hx hb hml hown hu hK hZ hP0 hD0 hS0 hA hri hrz hrl hrv hra ls0 hl0
  have hl : lv_has ls0 2 [(0, .ref (are 0)), (1, .ref (are2 0))] := hl0
  have hP := hP0
  have hD := hD0
  have hS := hS0
  unfold fX2_takeFrom at hf
  refine lv_aload_n hx hb dX2_takeFrom_0 rfl (lv_at hl 0 rfl) ?_
  refine va_get (D := D) (ci := 2) (v := .ref (af 0)) (C := RX2) (T := TX2) (N := 4) hx hb hu inX2 hown hK.1 hP 0 rfl rfl 0 (by decide) (hu _ q194) (fun _ h9 => h9) rfl dX2_takeFrom_1 ?_
  refine lv_aload_n hx hb dX2_takeFrom_4 rfl (lv_at hl 1 rfl) ?_
  refine va_get (D := D) (ci := 2) (v := .ref (af2 0)) (C := RX2) (T := TX2) (N := 4) hx hb hu inX2 hown hK.1 hP 15 rfl rfl 0 (by decide) (hu _ q194) (fun _ h9 => h9) rfl dX2_takeFrom_5 ?_
  obtain ⟨Fo_1, hg2, hf⟩ := b1_el hf
  refine cc_V (w' := ((kX2 cs are (.ref (af 0)) (.ref (ac 0)) rt (.ref (ase 0)) ) ++ ((kX1 cs af  Fo_1) ++ ((kX3 cs ac  Sc) ++ ((kX4 cs ase p0 p1 p2 Se) ++ ((kX2 cs are2 (.ref (af2 0)) (.ref (ac2 0)) rt2 (.ref (ase2 0)) ) ++ ((kX1 cs af2  Fo2) ++ ((kX3 cs ac2  Sc2) ++ ((kX4 cs ase2 q0 q1 q2 Se2)))))))))) (wr := ((kX2 cs are (.ref (af 0)) (.ref (ac 0)) rt (.ref (ase 0)) ) ++ ((kX3 cs ac  Sc) ++ ((kX4 cs ase p0 p1 p2 Se) ++ ((kX2 cs are2 (.ref (af2 0)) (.ref (ac2 0)) rt2 (.ref (ase2 0)) ) ++ ((kX3 cs ac2  Sc2) ++ ((kX4 cs ase2 q0 q1 q2 Se2)))))))) (st1 := []) [.ref (af2 0)] hx hb hml hown hu (tX1_takeFrom l D cs af af2 Fo Fo2 Fo_1 hg2) q662 q56 q659 q660 q661 pdX1_takeFrom ⟨rfl, rfl, Nat.le_of_ble_eq_true rfl, Nat.le_of_ble_eq_true rfl⟩ hK hZ hP hD hS hA [1, 2, 3, 4, 5, 6, 7, 16, 17, 18, 19, 20, 21, 22] [0, 8, 9, 10, 11, 12, 13, 14, 15, 23, 24, 25, 26, 27, 28, 29] [0, 16, 17, 18, 19, 20, 21, 22, 1, 2, 3, 4, 5, 6, 7, 8, 23, 24, 25, 26, 27, 28, 29, 9, 10, 11, 12, 13, 14, 15] rfl rfl rfl rfl rfl rfl rfl rfl rfl rfl hl.1 rfl (Nat.le_of_ble_eq_true rfl) dX2_takeFrom_8 rfl (fun H locs hP hD hS => ?_)
  refine lv_aload_n hx hb dX2_takeFrom_11 rfl (lv_at hl 0 rfl) ?_
  refine va_get (D := D) (ci := 2) (v := .ref (ac 0)) (C := RX2) (T := TX2) (N := 4) hx hb hu inX2 hown hK.1 hP 0 rfl rfl 1 (by decide) (hu _ q197) (fun _ h9 => h9) rfl dX2_takeFrom_12 ?_
  refine lv_aload_n hx hb dX2_takeFrom_15 rfl (lv_at hl 1 rfl) ?_
  refine va_get (D := D) (ci := 2) (v := .ref (ac2 0)) (C := RX2) (T := TX2) (N := 4) hx hb hu inX2 hown hK.1 hP 15 rfl rfl 1 (by decide) (hu _ q197) (fun _ h9 => h9) rfl dX2_takeFrom_16 ?_
  obtain ⟨Sc_3, hg4, hf⟩ := b1_el hf
  refine cc_V (w' := ((kX2 cs are (.ref (af 0)) (.ref (ac 0)) rt (.ref (ase 0)) ) ++ ((kX1 cs af  Fo_1) ++ ((kX3 cs ac  Sc_3) ++ ((kX4 cs ase p0 p1 p2 Se) ++ ((kX2 cs are2 (.ref (af2 0)) (.ref (ac2 0)) rt2 (.ref (ase2 0)) ) ++ ((kX1 cs af2  Fo2) ++ ((kX3 cs ac2  Sc2) ++ ((kX4 cs ase2 q0 q1 q2 Se2)))))))))) (wr := ((kX2 cs are (.ref (af 0)) (.ref (ac 0)) rt (.ref (ase 0)) ) ++ ((kX1 cs af  Fo_1) ++ ((kX4 cs ase p0 p1 p2 Se) ++ ((kX2 cs are2 (.ref (af2 0)) (.ref (ac2 0)) rt2 (.ref (ase2 0)) ) ++ ((kX1 cs af2  Fo2) ++ ((kX4 cs ase2 q0 q1 q2 Se2)))))))) (st1 := []) [.ref (ac2 0)] hx hb hml hown hu (tX3_takeFrom l D cs ac ac2 Sc Sc2 Sc_3 hg4) q667 q57 q664 q665 q666 pdX3_takeFrom ⟨rfl, rfl, Nat.le_of_ble_eq_true rfl, Nat.le_of_ble_eq_true rfl⟩ hK hZ hP hD hS hA [8, 9, 10, 23, 24, 25] [0, 1, 2, 3, 4, 5, 6, 7, 11, 12, 13, 14, 15, 16, 17, 18, 19, 20, 21, 22, 26, 27, 28, 29] [0, 1, 2, 3, 4, 5, 6, 7, 24, 25, 26, 8, 9, 10, 11, 12, 13, 14, 15, 16, 17, 18, 19, 27, 28, 29, 20, 21, 22, 23] rfl rfl rfl rfl rfl rfl rfl rfl rfl rfl hl.1 rfl (Nat.le_of_ble_eq_true rfl) dX2_takeFrom_19 rfl (fun H locs hP hD hS => ?_)
  refine lv_aload_n hx hb dX2_takeFrom_22 rfl (lv_at hl 0 rfl) ?_
  refine va_get (D := D) (ci := 2) (v := .ref (ase 0)) (C := RX2) (T := TX2) (N := 4) hx hb hu inX2 hown hK.1 hP 0 rfl rfl 3 (by decide) (hu _ q202) (fun _ h9 => h9) rfl dX2_takeFrom_23 ?_
  refine lv_aload_n hx hb dX2_takeFrom_26 rfl (lv_at hl 1 rfl) ?_
  refine va_get (D := D) (ci := 2) (v := .ref (ase2 0)) (C := RX2) (T := TX2) (N := 4) hx hb hu inX2 hown hK.1 hP 15 rfl rfl 3 (by decide) (hu _ q202) (fun _ h9 => h9) rfl dX2_takeFrom_27 ?_
  obtain ⟨Se_5, hg6, hf⟩ := b1_el hf
  refine cc_V (w' := ((kX2 cs are (.ref (af 0)) (.ref (ac 0)) rt (.ref (ase 0)) ) ++ ((kX1 cs af  Fo_1) ++ ((kX3 cs ac  Sc_3) ++ ((kX4 cs ase p0 p1 p2 Se_5) ++ ((kX2 cs are2 (.ref (af2 0)) (.ref (ac2 0)) rt2 (.ref (ase2 0)) ) ++ ((kX1 cs af2  Fo2) ++ ((kX3 cs ac2  Sc2) ++ ((kX4 cs ase2 q0 q1 q2 Se2)))))))))) (wr := ((kX2 cs are (.ref (af 0)) (.ref (ac 0)) rt (.ref (ase 0)) ) ++ ((kX1 cs af  Fo_1) ++ ((kX3 cs ac  Sc_3) ++ ((kX2 cs are2 (.ref (af2 0)) (.ref (ac2 0)) rt2 (.ref (ase2 0)) ) ++ ((kX1 cs af2  Fo2) ++ ((kX3 cs ac2  Sc2)))))))) (st1 := []) [.ref (ase2 0)] hx hb hml hown hu (tX4_takeFrom l D cs ase p0 p1 p2 ase2 q0 q1 q2 Se Se2 Se_5 hg6) q428 q58 q669 q426 q427 pdX4_takeFrom ⟨rfl, rfl, Nat.le_of_ble_eq_true rfl, Nat.le_of_ble_eq_true rfl⟩ hK hZ hP hD hS hA [11, 12, 13, 14, 26, 27, 28, 29] [0, 1, 2, 3, 4, 5, 6, 7, 8, 9, 10, 15, 16, 17, 18, 19, 20, 21, 22, 23, 24, 25] [0, 1, 2, 3, 4, 5, 6, 7, 8, 9, 10, 22, 23, 24, 25, 11, 12, 13, 14, 15, 16, 17, 18, 19, 20, 21, 26, 27, 28, 29] rfl rfl rfl rfl rfl rfl rfl rfl rfl rfl hl.1 rfl (Nat.le_of_ble_eq_true rfl) dX2_takeFrom_30 rfl (fun H locs hP hD hS => ?_)
  have he := Option.some.inj hf
  obtain ⟨e0, ht0⟩ := Prod.mk.inj he
  obtain ⟨e1, e2⟩ := Prod.mk.inj ht0
  exact hrv _ _ rfl rfl dX2_takeFrom_33 _ _ _ (by rw [e0, e1, e2]) hP hD hS

def fX0_start (Ch : ST) (Se : ST) (Us : ST) : Option ST :=
  dc_b1 (fX4_takeFrom Us Se) (fun Us_1 => some Us_1)
abbrev rmX0_start : Room := { frames := 2, cells := 0, slots := 0, locals := 61 }
set_option maxRecDepth 100000 in
set_option maxHeartbeats 4000000 in
theorem tX0_start (l : Launch) (D : va_G) (cs : Nat → ClassId) (ach : Nat → Nat) (are : Nat → Nat) (aus : Nat → Nat) (af : Nat → Nat) (ac : Nat → Nat) (atr : Nat → Nat) (ase : Nat → Nat) (Ch : ST) (Se : ST) (Us : ST) (Usz : ST) (hf : fX0_start Ch Se Us = some Usz) : CG l yX0_start (wsm yX0_start cX0_start 1 none) rmX0_start D cs [.ref (ach 0)] none ((kX0 cs ach (.ref (are 0)) (.ref (aus 0)) Ch) ++ ((kX2 cs are (.ref (af 0)) (.ref (ac 0)) (.ref (atr 0)) (.ref (ase 0)) ) ++ ((kX4 cs ase (.ref (af 0)) (.ref (ac 0)) (.ref (atr 0)) Se) ++ ((kX4 cs aus (.ref (af 0)) (.ref (ac 0)) (.ref (atr 0)) Us))))) ((kX0 cs ach (.ref (are 0)) (.ref (aus 0)) Ch) ++ ((kX2 cs are (.ref (af 0)) (.ref (ac 0)) (.ref (atr 0)) (.ref (ase 0)) ) ++ ((kX4 cs ase (.ref (af 0)) (.ref (ac 0)) (.ref (atr 0)) Se) ++ ((kX4 cs aus (.ref (af 0)) (.ref (ac 0)) (.ref (atr 0)) Usz))))) := by
  refine CG.intro (by decide) (Nat.le_of_ble_eq_true rfl) ?_
  intro p e s m below meth c A Q hx hb hml hown hu hK hZ hP0 hD0 hS0 hA hri hrz hrl hrv hra ls0 hl0
  have hl : lv_has ls0 1 [(0, .ref (ach 0))] := hl0
  have hP := hP0
  have hD := hD0
  have hS := hS0
  unfold fX0_start at hf
  refine lv_aload_n hx hb dX0_start_0 rfl (lv_at hl 0 rfl) ?_
  refine va_get (D := D) (ci := 0) (v := .ref (aus 0)) (C := RX0) (T := TX0) (N := 8) hx hb hu inX0 hown hK.1 hP 0 rfl rfl 1 (by decide) (hu _ q223) (fun _ h9 => h9) rfl dX0_start_1 ?_
  refine lv_aload_n hx hb dX0_start_4 rfl (lv_at hl 0 rfl) ?_
  refine va_get (D := D) (ci := 0) (v := .ref (are 0)) (C := RX0) (T := TX0) (N := 8) hx hb hu inX0 hown hK.1 hP 0 rfl rfl 0 (by decide) (hu _ q222) (fun _ h9 => h9) rfl dX0_start_5 ?_
  refine va_get (D := D) (ci := 2) (v := .ref (ase 0)) (C := RX2) (T := TX2) (N := 4) hx hb hu inX2 hown hK.1 hP 5 rfl rfl 3 (by decide) (hu _ q203) (fun _ h9 => h9) rfl dX0_start_8 ?_
  obtain ⟨Us_1, hg2, hf⟩ := b1_el hf
  refine cc_V (w' := ((kX0 cs ach (.ref (are 0)) (.ref (aus 0)) Ch) ++ ((kX2 cs are (.ref (af 0)) (.ref (ac 0)) (.ref (atr 0)) (.ref (ase 0)) ) ++ ((kX4 cs ase (.ref (af 0)) (.ref (ac 0)) (.ref (atr 0)) Se) ++ ((kX4 cs aus (.ref (af 0)) (.ref (ac 0)) (.ref (atr 0)) Us_1)))))) (wr := ((kX0 cs ach (.ref (are 0)) (.ref (aus 0)) Ch) ++ ((kX2 cs are (.ref (af 0)) (.ref (ac 0)) (.ref (atr 0)) (.ref (ase 0)) )))) (st1 := []) [.ref (ase 0)] hx hb hml hown hu (tX4_takeFrom l D cs aus (.ref (af 0)) (.ref (ac 0)) (.ref (atr 0)) ase (.ref (af 0)) (.ref (ac 0)) (.ref (atr 0)) Us Se Us_1 hg2) q428 q58 q571 q426 q427 pdX4_takeFrom ⟨rfl, rfl, Nat.le_of_ble_eq_true rfl, Nat.le_of_ble_eq_true rfl⟩ hK hZ hP hD hS hA [10, 11, 12, 13, 6, 7, 8, 9] [0, 1, 2, 3, 4, 5] [0, 1, 2, 3, 4, 5, 10, 11, 12, 13, 6, 7, 8, 9] rfl rfl rfl rfl rfl rfl rfl rfl rfl rfl hl.1 rfl (Nat.le_of_ble_eq_true rfl) dX0_start_11 rfl (fun H locs hP hD hS => ?_)
  have he := Option.some.inj hf
  have e0 := he
  exact hrv _ _ rfl rfl dX0_start_14 _ _ _ (by rw [e0]) hP hD hS

def fX0_tally_10_s (Fo : ST) (k10 : Int32 → Int32 → ST → ST → ST → ST → Option (ST × ST × ST × ST)) (y1 : Int32) (y2 : Int32) (Ch : ST) (Sc : ST) (Tr : ST) (Us : ST) : Option (ST × ST × ST × ST) :=
  (if y1 ≤ y2 then some (Ch, Sc, Tr, Us) else dc_b4 (fX4_next 1 Us Fo Sc Tr) (fun r5 Us_6 Sc_7 Tr_8 => (if r5 = (-1) then dc_lt (y2 + 1) (fun v11 => k10 y1 v11 Ch Sc_7 Tr_8 Us_6) else dc_ck r5 10 (dc_ck (Fo 4 (Int32.toNatClampNeg r5)) 4 (dc_ck (Fo 4 (Int32.toNatClampNeg r5)) 4 (dc_lt (sti Ch 3 (Int32.toNatClampNeg (Fo 4 (Int32.toNatClampNeg r5))) ((Ch 3 (Int32.toNatClampNeg (Fo 4 (Int32.toNatClampNeg r5)))) + 1)) (fun Ch_15 => dc_lt (y2 + 1) (fun v16 => k10 y1 v16 Ch_15 Sc_7 Tr_8 Us_6))))))))
def fX0_tally_10 (Fo : ST) : Nat → Int32 → Int32 → ST → ST → ST → ST → Option (ST × ST × ST × ST)
  | 0 => fun _ _ _ _ _ _ => none
  | n + 1 => fX0_tally_10_s Fo (fX0_tally_10 Fo n)
def fX0_tally (x1 : Int32) (Ch : ST) (Fo : ST) (Sc : ST) (Tr : ST) (Us : ST) : Option (ST × ST × ST × ST) :=
  dc_b1 (fJ7_fill_53178 0 (Ch 3)) (fun fn2 => dc_lt (va_up Ch 3 fn2) (fun Ch_1 => fX0_tally_10 Fo 400 x1 0 Ch_1 Sc Tr Us))
abbrev rmX0_tally : Room := { frames := 10, cells := 0, slots := 0, locals := 256 }
set_option maxRecDepth 100000 in
set_option maxHeartbeats 4000000 in
theorem tX0_tally (l : Launch) (D : va_G) (cs : Nat → ClassId) (ach : Nat → Nat) (are : Nat → Nat) (aus : Nat → Nat) (af : Nat → Nat) (ac : Nat → Nat) (atr : Nat → Nat) (ase : Nat → Nat) (x1 : Int32) (Ch : ST) (Fo : ST) (Sc : ST) (Tr : ST) (Us : ST) (Chz : ST) (Scz : ST) (Trz : ST) (Usz : ST) (hf : fX0_tally x1 Ch Fo Sc Tr Us = some (Chz, Scz, Trz, Usz)) : CG l yX0_tally (wsm yX0_tally cX0_tally 4 none) rmX0_tally D cs [.ref (ach 0), .int x1] none ((kX0 cs ach (.ref (are 0)) (.ref (aus 0)) Ch) ++ ((kX2 cs are (.ref (af 0)) (.ref (ac 0)) (.ref (atr 0)) (.ref (ase 0)) ) ++ ((kX1 cs af  Fo) ++ ((kX3 cs ac  Sc) ++ ((kX4 cs atr (.ref (af 0)) (.ref (ac 0)) .null Tr) ++ ((kX4 cs aus (.ref (af 0)) (.ref (ac 0)) (.ref (atr 0)) Us))))))) ((kX0 cs ach (.ref (are 0)) (.ref (aus 0)) Chz) ++ ((kX2 cs are (.ref (af 0)) (.ref (ac 0)) (.ref (atr 0)) (.ref (ase 0)) ) ++ ((kX1 cs af  Fo) ++ ((kX3 cs ac  Scz) ++ ((kX4 cs atr (.ref (af 0)) (.ref (ac 0)) .null Trz) ++ ((kX4 cs aus (.ref (af 0)) (.ref (ac 0)) (.ref (atr 0)) Usz))))))) := by
  refine CG.intro (by decide) (Nat.le_of_ble_eq_true rfl) ?_
  intro p e s m below meth c A Q hx hb hml hown hu hK hZ hP0 hD0 hS0 hA hri hrz hrl hrv hra ls0 hl0
  have hs10 : ∀ (k10 : Int32 → Int32 → ST → ST → ST → ST → Option (ST × ST × ST × ST)), (∀ (y1 : Int32) (y2 : Int32) (Ch : ST) (Sc : ST) (Tr : ST) (Us : ST) (H : Heap) (locs : List Loc) (ls : Array Slot), va_P D vwCl ((kX0 cs ach (.ref (are 0)) (.ref (aus 0)) Ch) ++ ((kX2 cs are (.ref (af 0)) (.ref (ac 0)) (.ref (atr 0)) (.ref (ase 0)) ) ++ ((kX1 cs af  Fo) ++ ((kX3 cs ac  Sc) ++ ((kX4 cs atr (.ref (af 0)) (.ref (ac 0)) .null Tr) ++ ((kX4 cs aus (.ref (af 0)) (.ref (ac 0)) (.ref (atr 0)) Us))))))) H → va_D A ((kX0 cs ach (.ref (are 0)) (.ref (aus 0)) Ch) ++ ((kX2 cs are (.ref (af 0)) (.ref (ac 0)) (.ref (atr 0)) (.ref (ase 0)) ) ++ ((kX1 cs af  Fo) ++ ((kX3 cs ac  Sc) ++ ((kX4 cs atr (.ref (af 0)) (.ref (ac 0)) .null Tr) ++ ((kX4 cs aus (.ref (af 0)) (.ref (ac 0)) (.ref (atr 0)) Us))))))) → va_S A s.heap H locs → lv_has ls 4 [(0, .ref (ach 0)), (1, .int y1), (2, .int y2)] → k10 y1 y2 Ch Sc Tr Us = some (Chz, Scz, Trz, Usz) → W p l e rmX0_tally s m [.ref (ach 0), .int x1].toArray below meth c H locs 0 0 Q (F0 m 10 ls [])) → ∀ (y1 : Int32) (y2 : Int32) (Ch : ST) (Sc : ST) (Tr : ST) (Us : ST) (H : Heap) (locs : List Loc) (ls : Array Slot), va_P D vwCl ((kX0 cs ach (.ref (are 0)) (.ref (aus 0)) Ch) ++ ((kX2 cs are (.ref (af 0)) (.ref (ac 0)) (.ref (atr 0)) (.ref (ase 0)) ) ++ ((kX1 cs af  Fo) ++ ((kX3 cs ac  Sc) ++ ((kX4 cs atr (.ref (af 0)) (.ref (ac 0)) .null Tr) ++ ((kX4 cs aus (.ref (af 0)) (.ref (ac 0)) (.ref (atr 0)) Us))))))) H → va_D A ((kX0 cs ach (.ref (are 0)) (.ref (aus 0)) Ch) ++ ((kX2 cs are (.ref (af 0)) (.ref (ac 0)) (.ref (atr 0)) (.ref (ase 0)) ) ++ ((kX1 cs af  Fo) ++ ((kX3 cs ac  Sc) ++ ((kX4 cs atr (.ref (af 0)) (.ref (ac 0)) .null Tr) ++ ((kX4 cs aus (.ref (af 0)) (.ref (ac 0)) (.ref (atr 0)) Us))))))) → va_S A s.heap H locs → lv_has ls 4 [(0, .ref (ach 0)), (1, .int y1), (2, .int y2)] → fX0_tally_10_s Fo k10 y1 y2 Ch Sc Tr Us = some (Chz, Scz, Trz, Usz) → W p l e rmX0_tally s m [.ref (ach 0), .int x1].toArray below meth c H locs 0 0 Q (F0 m 10 ls []) := by
    intro k10 hk10 y1 y2 Ch Sc Tr Us H locs ls hP hD hS hl hf
    unfold fX0_tally_10_s at hf
    refine lv_iload_n hx hb dX0_tally_10 rfl (lv_at hl 2 rfl) ?_
    refine lv_iload_n hx hb dX0_tally_11 rfl (lv_at hl 1 rfl) ?_
    refine lv_icmp_ge (tgt := 56) hx hb dX0_tally_12 (by decide) (fun hc4 => ?_) (fun hc4 => ?_)
    · have hf := ip_el hc4 hf
      have he := Option.some.inj hf
      obtain ⟨e0, ht0⟩ := Prod.mk.inj he
      obtain ⟨e1, ht1⟩ := Prod.mk.inj ht0
      obtain ⟨e2, e3⟩ := Prod.mk.inj ht1
      exact hrv _ _ rfl rfl dX0_tally_56 _ _ _ (by rw [e0, e1, e2, e3]) hP hD hS
    · have hf := in_el hc4 hf
      refine lv_aload_n hx hb dX0_tally_15 rfl (lv_at hl 0 rfl) ?_
      refine va_get (D := D) (ci := 0) (v := .ref (aus 0)) (C := RX0) (T := TX0) (N := 8) hx hb hu inX0 hown hK.1 hP 0 rfl rfl 1 (by decide) (hu _ q223) (fun _ h9 => h9) rfl dX0_tally_16 ?_
      refine lv_iconst (v := 1) hx hb dX0_tally_19 (by decide) ?_
      obtain ⟨r5, Us_6, Sc_7, Tr_8, hg9, hf⟩ := b4_el hf
      refine cc_V (w' := ((kX0 cs ach (.ref (are 0)) (.ref (aus 0)) Ch) ++ ((kX2 cs are (.ref (af 0)) (.ref (ac 0)) (.ref (atr 0)) (.ref (ase 0)) ) ++ ((kX1 cs af  Fo) ++ ((kX3 cs ac  Sc_7) ++ ((kX4 cs atr (.ref (af 0)) (.ref (ac 0)) .null Tr_8) ++ ((kX4 cs aus (.ref (af 0)) (.ref (ac 0)) (.ref (atr 0)) Us_6)))))))) (wr := ((kX0 cs ach (.ref (are 0)) (.ref (aus 0)) Ch) ++ ((kX2 cs are (.ref (af 0)) (.ref (ac 0)) (.ref (atr 0)) (.ref (ase 0)) )))) (st1 := [.int r5]) [.int 1] hx hb hml hown hu (tX4_next l D cs aus af ac atr 1 Us Fo Sc Tr r5 Us_6 Sc_7 Tr_8 hg9) q439 q58 q585 q437 q438 pdX4_next ⟨rfl, rfl, Nat.le_of_ble_eq_true rfl, Nat.le_of_ble_eq_true rfl⟩ hK hZ hP hD hS hA [20, 21, 22, 23, 6, 7, 8, 9, 10, 11, 12, 13, 14, 15, 16, 17, 18, 19] [0, 1, 2, 3, 4, 5] [0, 1, 2, 3, 4, 5, 10, 11, 12, 13, 14, 15, 16, 17, 18, 19, 20, 21, 22, 23, 6, 7, 8, 9] rfl rfl rfl rfl rfl rfl rfl rfl rfl rfl hl.1 rfl (Nat.le_of_ble_eq_true rfl) dX0_tally_20 rfl (fun H locs hP hD hS => ?_)
      refine lv_istore_n (lv' := [(3, .int r5), (0, .ref (ach 0)), (1, .int y1), (2, .int y2)]) hx hb dX0_tally_23 rfl hl (by decide) rfl (fun ls hl => ?_)
      refine lv_iload_n hx hb dX0_tally_24 rfl (lv_at hl 0 rfl) ?_
      refine lv_iconst (v := (-1)) hx hb dX0_tally_25 (by decide) ?_
      refine lv_icmp_eq (tgt := 50) hx hb dX0_tally_26 (by decide) (fun hc10 => ?_) (fun hc10 => ?_)
      · have hf := ip_el hc10 hf
        obtain ⟨v11, hv11, hf⟩ := lt_el hf
        refine lv_iinc (v := v11) (lv' := [(2, .int v11), (3, .int r5), (0, .ref (ach 0)), (1, .int y1)]) hx hb dX0_tally_50 hl (k := 3) rfl (by rw [hv11]; rfl) (by decide) rfl (fun ls hl => ?_)
        refine lv_goto (tgt := 10) hx hb dX0_tally_53 (by decide) ?_
        exact hk10 y1 v11 Ch Sc_7 Tr_8 Us_6 _ _ _ hP hD hS (lv_sub hl [2, 3, 0] rfl) hf
      · have hf := in_el hc10 hf
        refine lv_aload_n hx hb dX0_tally_29 rfl (lv_at hl 1 rfl) ?_
        refine va_get (D := D) (ci := 0) (v := .ref (ach 3)) (C := RX0) (T := TX0) (N := 8) hx hb hu inX0 hown hK.1 hP 0 rfl rfl 2 (by decide) (hu _ q225) (fun _ h9 => h9) rfl dX0_tally_30 ?_
        refine lv_aload_n hx hb dX0_tally_33 rfl (lv_at hl 1 rfl) ?_
        refine va_get (D := D) (ci := 0) (v := .ref (are 0)) (C := RX0) (T := TX0) (N := 8) hx hb hu inX0 hown hK.1 hP 0 rfl rfl 0 (by decide) (hu _ q222) (fun _ h9 => h9) rfl dX0_tally_34 ?_
        refine va_get (D := D) (ci := 2) (v := .ref (af 0)) (C := RX2) (T := TX2) (N := 4) hx hb hu inX2 hown hK.1 hP 5 rfl rfl 0 (by decide) (hu _ q195) (fun _ h9 => h9) rfl dX0_tally_37 ?_
        refine va_get (D := D) (ci := 1) (v := .ref (af 4)) (C := RX1) (T := TX1) (N := 9) hx hb hu inX1 hown hK.1 hP 6 rfl rfl 3 (by decide) (hu _ q101) (fun _ h9 => h9) rfl dX0_tally_40 ?_
        refine lv_iload_n hx hb dX0_tally_43 rfl (lv_at hl 0 rfl) ?_
        obtain ⟨hi12, hf⟩ := ck_el hf
        refine va_iald hx hb hK.1 hP 9 0 rfl rfl hi12 dX0_tally_44 ?_
        refine lv_dup2_11 hx hb dX0_tally_45 rfl rfl ?_
        obtain ⟨hi13, hf⟩ := ck_el hf
        refine va_iald hx hb hK.1 hP 1 0 rfl rfl hi13 dX0_tally_46 ?_
        refine lv_iconst (v := 1) hx hb dX0_tally_47 (by decide) ?_
        refine lv_iadd hx hb dX0_tally_48 ?_
        obtain ⟨hi14, hf⟩ := ck_el hf
        obtain ⟨Ch_15, hCh_15, hf⟩ := lt_el hf
        refine va_iast hx hb hK.1 hP hD hS 1 0 rfl rfl hi14 dX0_tally_49 (fun H locs hP hD hS => ?_)
        have hP : va_P D vwCl ((kX0 cs ach (.ref (are 0)) (.ref (aus 0)) Ch_15) ++ ((kX2 cs are (.ref (af 0)) (.ref (ac 0)) (.ref (atr 0)) (.ref (ase 0)) ) ++ ((kX1 cs af  Fo) ++ ((kX3 cs ac  Sc_7) ++ ((kX4 cs atr (.ref (af 0)) (.ref (ac 0)) .null Tr_8) ++ ((kX4 cs aus (.ref (af 0)) (.ref (ac 0)) (.ref (atr 0)) Us_6))))))) H := by rw [hCh_15]; exact hP
        have hD : va_D A ((kX0 cs ach (.ref (are 0)) (.ref (aus 0)) Ch_15) ++ ((kX2 cs are (.ref (af 0)) (.ref (ac 0)) (.ref (atr 0)) (.ref (ase 0)) ) ++ ((kX1 cs af  Fo) ++ ((kX3 cs ac  Sc_7) ++ ((kX4 cs atr (.ref (af 0)) (.ref (ac 0)) .null Tr_8) ++ ((kX4 cs aus (.ref (af 0)) (.ref (ac 0)) (.ref (atr 0)) Us_6))))))) := by rw [hCh_15]; exact hD
        obtain ⟨v16, hv16, hf⟩ := lt_el hf
        refine lv_iinc (v := v16) (lv' := [(2, .int v16), (3, .int r5), (0, .ref (ach 0)), (1, .int y1)]) hx hb dX0_tally_50 hl (k := 3) rfl (by rw [hv16]; rfl) (by decide) rfl (fun ls hl => ?_)
        refine lv_goto (tgt := 10) hx hb dX0_tally_53 (by decide) ?_
        exact hk10 y1 v16 Ch_15 Sc_7 Tr_8 Us_6 _ _ _ hP hD hS (lv_sub hl [2, 3, 0] rfl) hf
  have h10 : ∀ (n : Nat), ∀ (y1 : Int32) (y2 : Int32) (Ch : ST) (Sc : ST) (Tr : ST) (Us : ST) (H : Heap) (locs : List Loc) (ls : Array Slot), va_P D vwCl ((kX0 cs ach (.ref (are 0)) (.ref (aus 0)) Ch) ++ ((kX2 cs are (.ref (af 0)) (.ref (ac 0)) (.ref (atr 0)) (.ref (ase 0)) ) ++ ((kX1 cs af  Fo) ++ ((kX3 cs ac  Sc) ++ ((kX4 cs atr (.ref (af 0)) (.ref (ac 0)) .null Tr) ++ ((kX4 cs aus (.ref (af 0)) (.ref (ac 0)) (.ref (atr 0)) Us))))))) H → va_D A ((kX0 cs ach (.ref (are 0)) (.ref (aus 0)) Ch) ++ ((kX2 cs are (.ref (af 0)) (.ref (ac 0)) (.ref (atr 0)) (.ref (ase 0)) ) ++ ((kX1 cs af  Fo) ++ ((kX3 cs ac  Sc) ++ ((kX4 cs atr (.ref (af 0)) (.ref (ac 0)) .null Tr) ++ ((kX4 cs aus (.ref (af 0)) (.ref (ac 0)) (.ref (atr 0)) Us))))))) → va_S A s.heap H locs → lv_has ls 4 [(0, .ref (ach 0)), (1, .int y1), (2, .int y2)] → fX0_tally_10 Fo n y1 y2 Ch Sc Tr Us = some (Chz, Scz, Trz, Usz) → W p l e rmX0_tally s m [.ref (ach 0), .int x1].toArray below meth c H locs 0 0 Q (F0 m 10 ls []) := by
    intro n
    induction n with
    | zero => intro y1 y2 Ch Sc Tr Us H locs ls hP hD hS hl hf; exact no_el hf
    | succ n ih => intro y1 y2 Ch Sc Tr Us H locs ls hP hD hS hl hf; exact hs10 _ ih y1 y2 Ch Sc Tr Us _ _ _ hP hD hS hl hf
  have hl : lv_has ls0 4 [(0, .ref (ach 0)), (1, .int x1)] := hl0
  have hP := hP0
  have hD := hD0
  have hS := hS0
  unfold fX0_tally at hf
  refine lv_aload_n hx hb dX0_tally_0 rfl (lv_at hl 0 rfl) ?_
  refine va_get (D := D) (ci := 0) (v := .ref (ach 3)) (C := RX0) (T := TX0) (N := 8) hx hb hu inX0 hown hK.1 hP 0 rfl rfl 2 (by decide) (hu _ q225) (fun _ h9 => h9) rfl dX0_tally_1 ?_
  refine lv_iconst (v := 0) hx hb dX0_tally_4 (by decide) ?_
  obtain ⟨fn2, hg3, hf⟩ := b1_el hf
  obtain ⟨Ch_1, hCh_1, hf⟩ := lt_el hf
  refine cc_S (w' := ((kX0 cs ach (.ref (are 0)) (.ref (aus 0)) Ch_1) ++ ((kX2 cs are (.ref (af 0)) (.ref (ac 0)) (.ref (atr 0)) (.ref (ase 0)) ) ++ ((kX1 cs af  Fo) ++ ((kX3 cs ac  Sc) ++ ((kX4 cs atr (.ref (af 0)) (.ref (ac 0)) .null Tr) ++ ((kX4 cs aus (.ref (af 0)) (.ref (ac 0)) (.ref (atr 0)) Us)))))))) (wr := ((kX0 cs ach (.ref (are 0)) (.ref (aus 0)) Ch) ++ ((kX2 cs are (.ref (af 0)) (.ref (ac 0)) (.ref (atr 0)) (.ref (ase 0)) ) ++ ((kX1 cs af  Fo) ++ ((kX3 cs ac  Sc) ++ ((kX4 cs atr (.ref (af 0)) (.ref (ac 0)) .null Tr) ++ ((kX4 cs aus (.ref (af 0)) (.ref (ac 0)) (.ref (atr 0)) Us))))))).eraseIdx 1) (st1 := []) [.ref (ach 3), .int 0] hx hb hml hown hu (tJ7_fill_53178 l D cs (fun _ => ach 3) 0 (Ch 3) fn2 hg3) q605 q64 q603 q604 pdJ7_fill_53178 ⟨rfl, rfl, Nat.le_of_ble_eq_true rfl, Nat.le_of_ble_eq_true rfl⟩ hK hZ hP hD hS hA [1] [0, 2, 3, 4, 5, 6, 7, 8, 9, 10, 11, 12, 13, 14, 15, 16, 17, 18, 19, 20, 21, 22, 23] [0, 23, 1, 2, 3, 4, 5, 6, 7, 8, 9, 10, 11, 12, 13, 14, 15, 16, 17, 18, 19, 20, 21, 22] rfl rfl rfl rfl (by rw [hCh_1]; rfl) rfl rfl rfl hl.1 rfl (Nat.le_of_ble_eq_true rfl) dX0_tally_5 rfl (fun H locs hP hD hS => ?_)
  refine lv_iconst (v := 0) hx hb dX0_tally_8 (by decide) ?_
  refine lv_istore_n (lv' := [(2, .int 0), (0, .ref (ach 0)), (1, .int x1)]) hx hb dX0_tally_9 rfl hl (by decide) rfl (fun ls hl => ?_)
  exact h10 400 x1 0 Ch_1 Sc Tr Us _ _ _ hP hD hS (lv_sub hl [1, 2, 0] rfl) hf

def fX0_worthFor_4_s (Ch : ST) (Fo : ST) (k4 : Int32 → Int32 → Int32 → Option Int32) (y1 : Int32) (y2 : Int32) (y3 : Int32) : Option Int32 :=
  (if 4 ≤ y3 then some y2 else dc_ck y3 4 (dc_ck ((y3 * 4) + y1) 16 (dc_lt (y2 + ((Ch 3 (Int32.toNatClampNeg y3)) * (Fo 8 (Int32.toNatClampNeg ((y3 * 4) + y1))))) (fun v4 => dc_lt (y3 + 1) (fun v5 => k4 y1 v4 v5)))))
def fX0_worthFor_4 (Ch : ST) (Fo : ST) : Nat → Int32 → Int32 → Int32 → Option Int32
  | 0 => fun _ _ _ => none
  | n + 1 => fX0_worthFor_4_s Ch Fo (fX0_worthFor_4 Ch Fo n)
def fX0_worthFor (x1 : Int32) (Ch : ST) (Fo : ST) : Option Int32 :=
  fX0_worthFor_4 Ch Fo 400 x1 0 0
abbrev rmX0_worthFor : Room := { frames := 0, cells := 0, slots := 0, locals := 0 }
set_option maxRecDepth 100000 in
set_option maxHeartbeats 4000000 in
theorem tX0_worthFor (l : Launch) (D : va_G) (cs : Nat → ClassId) (ach : Nat → Nat) (are : Nat → Nat) (aus : Nat → Nat) (af : Nat → Nat) (ac : Nat → Nat) (atr : Nat → Nat) (ase : Nat → Nat) (x1 : Int32) (Ch : ST) (Fo : ST) (r0 : Int32) (hf : fX0_worthFor x1 Ch Fo = some r0) : CG l yX0_worthFor (wsm yX0_worthFor cX0_worthFor 4 (some .int)) rmX0_worthFor D cs [.ref (ach 0), .int x1] (some (.int r0)) ((kX0 cs ach (.ref (are 0)) (.ref (aus 0)) Ch) ++ ((kX2 cs are (.ref (af 0)) (.ref (ac 0)) (.ref (atr 0)) (.ref (ase 0)) ) ++ ((kX1 cs af  Fo)))) ((kX0 cs ach (.ref (are 0)) (.ref (aus 0)) Ch) ++ ((kX2 cs are (.ref (af 0)) (.ref (ac 0)) (.ref (atr 0)) (.ref (ase 0)) ) ++ ((kX1 cs af  Fo)))) := by
  refine CG.intro (by decide) (Nat.le_of_ble_eq_true rfl) ?_
  intro p e s m below meth c A Q hx hb hml hown hu hK hZ hP0 hD0 hS0 hA hri hrz hrl hrv hra ls0 hl0
  have hs4 : ∀ (k4 : Int32 → Int32 → Int32 → Option Int32), (∀ (y1 : Int32) (y2 : Int32) (y3 : Int32) (H : Heap) (locs : List Loc) (ls : Array Slot), va_P D vwCl ((kX0 cs ach (.ref (are 0)) (.ref (aus 0)) Ch) ++ ((kX2 cs are (.ref (af 0)) (.ref (ac 0)) (.ref (atr 0)) (.ref (ase 0)) ) ++ ((kX1 cs af  Fo)))) H → va_D A ((kX0 cs ach (.ref (are 0)) (.ref (aus 0)) Ch) ++ ((kX2 cs are (.ref (af 0)) (.ref (ac 0)) (.ref (atr 0)) (.ref (ase 0)) ) ++ ((kX1 cs af  Fo)))) → va_S A s.heap H locs → lv_has ls 4 [(0, .ref (ach 0)), (1, .int y1), (2, .int y2), (3, .int y3)] → k4 y1 y2 y3 = some r0 → W p l e rmX0_worthFor s m [.ref (ach 0), .int x1].toArray below meth c H locs 0 0 Q (F0 m 4 ls [])) → ∀ (y1 : Int32) (y2 : Int32) (y3 : Int32) (H : Heap) (locs : List Loc) (ls : Array Slot), va_P D vwCl ((kX0 cs ach (.ref (are 0)) (.ref (aus 0)) Ch) ++ ((kX2 cs are (.ref (af 0)) (.ref (ac 0)) (.ref (atr 0)) (.ref (ase 0)) ) ++ ((kX1 cs af  Fo)))) H → va_D A ((kX0 cs ach (.ref (are 0)) (.ref (aus 0)) Ch) ++ ((kX2 cs are (.ref (af 0)) (.ref (ac 0)) (.ref (atr 0)) (.ref (ase 0)) ) ++ ((kX1 cs af  Fo)))) → va_S A s.heap H locs → lv_has ls 4 [(0, .ref (ach 0)), (1, .int y1), (2, .int y2), (3, .int y3)] → fX0_worthFor_4_s Ch Fo k4 y1 y2 y3 = some r0 → W p l e rmX0_worthFor s m [.ref (ach 0), .int x1].toArray below meth c H locs 0 0 Q (F0 m 4 ls []) := by
    intro k4 hk4 y1 y2 y3 H locs ls hP hD hS hl hf
    unfold fX0_worthFor_4_s at hf
    refine lv_iload_n hx hb dX0_worthFor_4 rfl (lv_at hl 3 rfl) ?_
    refine lv_iconst (v := 4) hx hb dX0_worthFor_5 (by decide) ?_
    refine lv_icmp_ge (tgt := 41) hx hb dX0_worthFor_6 (by decide) (fun hc1 => ?_) (fun hc1 => ?_)
    · have hf := ip_el hc1 hf
      refine lv_iload_n hx hb dX0_worthFor_41 rfl (lv_at hl 2 rfl) ?_
      have he := Option.some.inj hf
      have e0 := he
      exact hri _ _ _ rfl (congrArg (fun z => some (Value.int z)) e0.symm) dX0_worthFor_42 _ _ _ rfl hP hD hS
    · have hf := in_el hc1 hf
      refine lv_iload_n hx hb dX0_worthFor_9 rfl (lv_at hl 2 rfl) ?_
      refine lv_aload_n hx hb dX0_worthFor_10 rfl (lv_at hl 0 rfl) ?_
      refine va_get (D := D) (ci := 0) (v := .ref (ach 3)) (C := RX0) (T := TX0) (N := 8) hx hb hu inX0 hown hK.1 hP 0 rfl rfl 2 (by decide) (hu _ q225) (fun _ h9 => h9) rfl dX0_worthFor_11 ?_
      refine lv_iload_n hx hb dX0_worthFor_14 rfl (lv_at hl 3 rfl) ?_
      obtain ⟨hi2, hf⟩ := ck_el hf
      refine va_iald hx hb hK.1 hP 1 0 rfl rfl hi2 dX0_worthFor_15 ?_
      refine lv_aload_n hx hb dX0_worthFor_16 rfl (lv_at hl 0 rfl) ?_
      refine va_get (D := D) (ci := 0) (v := .ref (are 0)) (C := RX0) (T := TX0) (N := 8) hx hb hu inX0 hown hK.1 hP 0 rfl rfl 0 (by decide) (hu _ q222) (fun _ h9 => h9) rfl dX0_worthFor_17 ?_
      refine va_get (D := D) (ci := 2) (v := .ref (af 0)) (C := RX2) (T := TX2) (N := 4) hx hb hu inX2 hown hK.1 hP 5 rfl rfl 0 (by decide) (hu _ q195) (fun _ h9 => h9) rfl dX0_worthFor_20 ?_
      refine va_get (D := D) (ci := 1) (v := .ref (af 8)) (C := RX1) (T := TX1) (N := 9) hx hb hu inX1 hown hK.1 hP 6 rfl rfl 7 (by decide) (hu _ q110) (fun _ h9 => h9) rfl dX0_worthFor_23 ?_
      refine lv_iload_n hx hb dX0_worthFor_26 rfl (lv_at hl 3 rfl) ?_
      refine lv_iconst (v := 4) hx hb dX0_worthFor_27 (by decide) ?_
      refine lv_imul hx hb dX0_worthFor_28 ?_
      refine lv_iload_n hx hb dX0_worthFor_29 rfl (lv_at hl 1 rfl) ?_
      refine lv_iadd hx hb dX0_worthFor_30 ?_
      obtain ⟨hi3, hf⟩ := ck_el hf
      refine va_iald hx hb hK.1 hP 12 0 rfl rfl hi3 dX0_worthFor_31 ?_
      refine lv_imul hx hb dX0_worthFor_32 ?_
      refine lv_iadd hx hb dX0_worthFor_33 ?_
      obtain ⟨v4, hv4, hf⟩ := lt_el hf
      refine lv_tope hv4 ?_
      refine lv_istore_n (lv' := [(2, .int v4), (0, .ref (ach 0)), (1, .int y1), (3, .int y3)]) hx hb dX0_worthFor_34 rfl hl (by decide) rfl (fun ls hl => ?_)
      obtain ⟨v5, hv5, hf⟩ := lt_el hf
      refine lv_iinc (v := v5) (lv' := [(3, .int v5), (2, .int v4), (0, .ref (ach 0)), (1, .int y1)]) hx hb dX0_worthFor_35 hl (k := 3) rfl (by rw [hv5]; rfl) (by decide) rfl (fun ls hl => ?_)
      refine lv_goto (tgt := 4) hx hb dX0_worthFor_38 (by decide) ?_
      exact hk4 y1 v4 v5 _ _ _ hP hD hS (lv_sub hl [2, 3, 1, 0] rfl) hf
  have h4 : ∀ (n : Nat), ∀ (y1 : Int32) (y2 : Int32) (y3 : Int32) (H : Heap) (locs : List Loc) (ls : Array Slot), va_P D vwCl ((kX0 cs ach (.ref (are 0)) (.ref (aus 0)) Ch) ++ ((kX2 cs are (.ref (af 0)) (.ref (ac 0)) (.ref (atr 0)) (.ref (ase 0)) ) ++ ((kX1 cs af  Fo)))) H → va_D A ((kX0 cs ach (.ref (are 0)) (.ref (aus 0)) Ch) ++ ((kX2 cs are (.ref (af 0)) (.ref (ac 0)) (.ref (atr 0)) (.ref (ase 0)) ) ++ ((kX1 cs af  Fo)))) → va_S A s.heap H locs → lv_has ls 4 [(0, .ref (ach 0)), (1, .int y1), (2, .int y2), (3, .int y3)] → fX0_worthFor_4 Ch Fo n y1 y2 y3 = some r0 → W p l e rmX0_worthFor s m [.ref (ach 0), .int x1].toArray below meth c H locs 0 0 Q (F0 m 4 ls []) := by
    intro n
    induction n with
    | zero => intro y1 y2 y3 H locs ls hP hD hS hl hf; exact no_el hf
    | succ n ih => intro y1 y2 y3 H locs ls hP hD hS hl hf; exact hs4 _ ih y1 y2 y3 _ _ _ hP hD hS hl hf
  have hl : lv_has ls0 4 [(0, .ref (ach 0)), (1, .int x1)] := hl0
  have hP := hP0
  have hD := hD0
  have hS := hS0
  unfold fX0_worthFor at hf
  refine lv_iconst (v := 0) hx hb dX0_worthFor_0 (by decide) ?_
  refine lv_istore_n (lv' := [(2, .int 0), (0, .ref (ach 0)), (1, .int x1)]) hx hb dX0_worthFor_1 rfl hl (by decide) rfl (fun ls hl => ?_)
  refine lv_iconst (v := 0) hx hb dX0_worthFor_2 (by decide) ?_
  refine lv_istore_n (lv' := [(3, .int 0), (2, .int 0), (0, .ref (ach 0)), (1, .int x1)]) hx hb dX0_worthFor_3 rfl hl (by decide) rfl (fun ls hl => ?_)
  exact h4 400 x1 0 0 _ _ _ hP hD hS (lv_sub hl [2, 3, 1, 0] rfl) hf

def fX0_goRound_55_s (Fo : ST) (Se : ST) (k19 : Int32 → ST → ST → ST → ST → Option (Int32 × ST × ST × ST × ST)) (k55 : Int32 → Int32 → ST → ST → ST → ST → Option (Int32 × ST × ST × ST × ST)) (y1 : Int32) (y2 : Int32) (Ch : ST) (Sc : ST) (Tr : ST) (Us : ST) : Option (Int32 × ST × ST × ST × ST) :=
  (if y1 ≤ y2 then dc_lt (y1 + 1) (fun v19 => k19 v19 Ch Sc Tr Us) else dc_ck y2 301 (dc_ck y1 301 ((if (Ch 5 (Int32.toNatClampNeg y2)) = (Ch 5 (Int32.toNatClampNeg y1)) then dc_lt (sti Ch 0 6 y2) (fun Ch_24 => dc_lt (sti Ch_24 0 7 y1) (fun Ch_25 => some (1, Ch_25, Sc, Tr, Us))) else dc_lt (y2 + 1) (fun v23 => k55 y1 v23 Ch Sc Tr Us)))))
def fX0_goRound_55 (Fo : ST) (Se : ST) (k19 : Int32 → ST → ST → ST → ST → Option (Int32 × ST × ST × ST × ST)) : Nat → Int32 → Int32 → ST → ST → ST → ST → Option (Int32 × ST × ST × ST × ST)
  | 0 => fun _ _ _ _ _ _ => none
  | n + 1 => fX0_goRound_55_s Fo Se k19 (fX0_goRound_55 Fo Se k19 n)
def fX0_goRound_19_s (Fo : ST) (Se : ST) (k19 : Int32 → ST → ST → ST → ST → Option (Int32 × ST × ST × ST × ST)) (y1 : Int32) (Ch : ST) (Sc : ST) (Tr : ST) (Us : ST) : Option (Int32 × ST × ST × ST × ST) :=
  (if 300 < y1 then some (0, Ch, Sc, Tr, Us) else dc_b4 (fX4_next 1 Us Fo Sc Tr) (fun r7 Us_8 Sc_9 Tr_10 => dc_ck y1 301 (dc_lt (sti Ch 6 (Int32.toNatClampNeg y1) r7) (fun Ch_13 => dc_b1 (fX4_code Us_8) (fun r14 => dc_ck y1 301 (dc_lt (sti Ch_13 5 (Int32.toNatClampNeg y1) r14) (fun Ch_17 => fX0_goRound_55 Fo Se k19 400 y1 0 Ch_17 Sc_9 Tr_10 Us_8)))))))
def fX0_goRound_19 (Fo : ST) (Se : ST) : Nat → Int32 → ST → ST → ST → ST → Option (Int32 × ST × ST × ST × ST)
  | 0 => fun _ _ _ _ _ => none
  | n + 1 => fX0_goRound_19_s Fo Se (fX0_goRound_19 Fo Se n)
def fX0_goRound (Ch : ST) (Fo : ST) (Sc : ST) (Se : ST) (Tr : ST) (Us : ST) : Option (Int32 × ST × ST × ST × ST) :=
  dc_b1 (fX0_start Ch Se Us) (fun Us_1 => dc_b1 (fX4_code Us_1) (fun r3 => dc_lt (sti Ch 5 0 r3) (fun Ch_5 => fX0_goRound_19 Fo Se 400 1 Ch_5 Sc Tr Us_1)))
abbrev rmX0_goRound : Room := { frames := 10, cells := 0, slots := 0, locals := 256 }
set_option maxRecDepth 100000 in
set_option maxHeartbeats 4000000 in
theorem tX0_goRound (l : Launch) (D : va_G) (cs : Nat → ClassId) (ach : Nat → Nat) (are : Nat → Nat) (aus : Nat → Nat) (af : Nat → Nat) (ac : Nat → Nat) (atr : Nat → Nat) (ase : Nat → Nat) (Ch : ST) (Fo : ST) (Sc : ST) (Se : ST) (Tr : ST) (Us : ST) (r0 : Int32) (Chz : ST) (Scz : ST) (Trz : ST) (Usz : ST) (hf : fX0_goRound Ch Fo Sc Se Tr Us = some (r0, Chz, Scz, Trz, Usz)) : CG l yX0_goRound (wsm yX0_goRound cX0_goRound 3 (some .boolean)) rmX0_goRound D cs [.ref (ach 0)] (some (.int r0)) ((kX0 cs ach (.ref (are 0)) (.ref (aus 0)) Ch) ++ ((kX2 cs are (.ref (af 0)) (.ref (ac 0)) (.ref (atr 0)) (.ref (ase 0)) ) ++ ((kX1 cs af  Fo) ++ ((kX3 cs ac  Sc) ++ ((kX4 cs ase (.ref (af 0)) (.ref (ac 0)) (.ref (atr 0)) Se) ++ ((kX4 cs atr (.ref (af 0)) (.ref (ac 0)) .null Tr) ++ ((kX4 cs aus (.ref (af 0)) (.ref (ac 0)) (.ref (atr 0)) Us)))))))) ((kX0 cs ach (.ref (are 0)) (.ref (aus 0)) Chz) ++ ((kX2 cs are (.ref (af 0)) (.ref (ac 0)) (.ref (atr 0)) (.ref (ase 0)) ) ++ ((kX1 cs af  Fo) ++ ((kX3 cs ac  Scz) ++ ((kX4 cs ase (.ref (af 0)) (.ref (ac 0)) (.ref (atr 0)) Se) ++ ((kX4 cs atr (.ref (af 0)) (.ref (ac 0)) .null Trz) ++ ((kX4 cs aus (.ref (af 0)) (.ref (ac 0)) (.ref (atr 0)) Usz)))))))) := by
  refine CG.intro (by decide) (Nat.le_of_ble_eq_true rfl) ?_
  intro p e s m below meth c A Q hx hb hml hown hu hK hZ hP0 hD0 hS0 hA hri hrz hrl hrv hra ls0 hl0
  have hs55 : ∀ (k19 : Int32 → ST → ST → ST → ST → Option (Int32 × ST × ST × ST × ST)), (∀ (y1 : Int32) (Ch : ST) (Sc : ST) (Tr : ST) (Us : ST) (H : Heap) (locs : List Loc) (ls : Array Slot), va_P D vwCl ((kX0 cs ach (.ref (are 0)) (.ref (aus 0)) Ch) ++ ((kX2 cs are (.ref (af 0)) (.ref (ac 0)) (.ref (atr 0)) (.ref (ase 0)) ) ++ ((kX1 cs af  Fo) ++ ((kX3 cs ac  Sc) ++ ((kX4 cs ase (.ref (af 0)) (.ref (ac 0)) (.ref (atr 0)) Se) ++ ((kX4 cs atr (.ref (af 0)) (.ref (ac 0)) .null Tr) ++ ((kX4 cs aus (.ref (af 0)) (.ref (ac 0)) (.ref (atr 0)) Us)))))))) H → va_D A ((kX0 cs ach (.ref (are 0)) (.ref (aus 0)) Ch) ++ ((kX2 cs are (.ref (af 0)) (.ref (ac 0)) (.ref (atr 0)) (.ref (ase 0)) ) ++ ((kX1 cs af  Fo) ++ ((kX3 cs ac  Sc) ++ ((kX4 cs ase (.ref (af 0)) (.ref (ac 0)) (.ref (atr 0)) Se) ++ ((kX4 cs atr (.ref (af 0)) (.ref (ac 0)) .null Tr) ++ ((kX4 cs aus (.ref (af 0)) (.ref (ac 0)) (.ref (atr 0)) Us)))))))) → va_S A s.heap H locs → lv_has ls 3 [(0, .ref (ach 0)), (1, .int y1)] → k19 y1 Ch Sc Tr Us = some (r0, Chz, Scz, Trz, Usz) → W p l e rmX0_goRound s m [.ref (ach 0)].toArray below meth c H locs 0 0 Q (F0 m 19 ls [])) → ∀ (k55 : Int32 → Int32 → ST → ST → ST → ST → Option (Int32 × ST × ST × ST × ST)), (∀ (y1 : Int32) (y2 : Int32) (Ch : ST) (Sc : ST) (Tr : ST) (Us : ST) (H : Heap) (locs : List Loc) (ls : Array Slot), va_P D vwCl ((kX0 cs ach (.ref (are 0)) (.ref (aus 0)) Ch) ++ ((kX2 cs are (.ref (af 0)) (.ref (ac 0)) (.ref (atr 0)) (.ref (ase 0)) ) ++ ((kX1 cs af  Fo) ++ ((kX3 cs ac  Sc) ++ ((kX4 cs ase (.ref (af 0)) (.ref (ac 0)) (.ref (atr 0)) Se) ++ ((kX4 cs atr (.ref (af 0)) (.ref (ac 0)) .null Tr) ++ ((kX4 cs aus (.ref (af 0)) (.ref (ac 0)) (.ref (atr 0)) Us)))))))) H → va_D A ((kX0 cs ach (.ref (are 0)) (.ref (aus 0)) Ch) ++ ((kX2 cs are (.ref (af 0)) (.ref (ac 0)) (.ref (atr 0)) (.ref (ase 0)) ) ++ ((kX1 cs af  Fo) ++ ((kX3 cs ac  Sc) ++ ((kX4 cs ase (.ref (af 0)) (.ref (ac 0)) (.ref (atr 0)) Se) ++ ((kX4 cs atr (.ref (af 0)) (.ref (ac 0)) .null Tr) ++ ((kX4 cs aus (.ref (af 0)) (.ref (ac 0)) (.ref (atr 0)) Us)))))))) → va_S A s.heap H locs → lv_has ls 3 [(0, .ref (ach 0)), (1, .int y1), (2, .int y2)] → k55 y1 y2 Ch Sc Tr Us = some (r0, Chz, Scz, Trz, Usz) → W p l e rmX0_goRound s m [.ref (ach 0)].toArray below meth c H locs 0 0 Q (F0 m 55 ls [])) → ∀ (y1 : Int32) (y2 : Int32) (Ch : ST) (Sc : ST) (Tr : ST) (Us : ST) (H : Heap) (locs : List Loc) (ls : Array Slot), va_P D vwCl ((kX0 cs ach (.ref (are 0)) (.ref (aus 0)) Ch) ++ ((kX2 cs are (.ref (af 0)) (.ref (ac 0)) (.ref (atr 0)) (.ref (ase 0)) ) ++ ((kX1 cs af  Fo) ++ ((kX3 cs ac  Sc) ++ ((kX4 cs ase (.ref (af 0)) (.ref (ac 0)) (.ref (atr 0)) Se) ++ ((kX4 cs atr (.ref (af 0)) (.ref (ac 0)) .null Tr) ++ ((kX4 cs aus (.ref (af 0)) (.ref (ac 0)) (.ref (atr 0)) Us)))))))) H → va_D A ((kX0 cs ach (.ref (are 0)) (.ref (aus 0)) Ch) ++ ((kX2 cs are (.ref (af 0)) (.ref (ac 0)) (.ref (atr 0)) (.ref (ase 0)) ) ++ ((kX1 cs af  Fo) ++ ((kX3 cs ac  Sc) ++ ((kX4 cs ase (.ref (af 0)) (.ref (ac 0)) (.ref (atr 0)) Se) ++ ((kX4 cs atr (.ref (af 0)) (.ref (ac 0)) .null Tr) ++ ((kX4 cs aus (.ref (af 0)) (.ref (ac 0)) (.ref (atr 0)) Us)))))))) → va_S A s.heap H locs → lv_has ls 3 [(0, .ref (ach 0)), (1, .int y1), (2, .int y2)] → fX0_goRound_55_s Fo Se k19 k55 y1 y2 Ch Sc Tr Us = some (r0, Chz, Scz, Trz, Usz) → W p l e rmX0_goRound s m [.ref (ach 0)].toArray below meth c H locs 0 0 Q (F0 m 55 ls []) := by
    intro k19 hk19 k55 hk55 y1 y2 Ch Sc Tr Us H locs ls hP hD hS hl hf
    unfold fX0_goRound_55_s at hf
    refine lv_iload_n hx hb dX0_goRound_55 rfl (lv_at hl 2 rfl) ?_
    refine lv_iload_n hx hb dX0_goRound_56 rfl (lv_at hl 1 rfl) ?_
    refine lv_icmp_ge (tgt := 93) hx hb dX0_goRound_57 (by decide) (fun hc18 => ?_) (fun hc18 => ?_)
    · have hf := ip_el hc18 hf
      obtain ⟨v19, hv19, hf⟩ := lt_el hf
      refine lv_iinc (v := v19) (lv' := [(1, .int v19), (0, .ref (ach 0)), (2, .int y2)]) hx hb dX0_goRound_93 hl (k := 1) rfl (by rw [hv19]; rfl) (by decide) rfl (fun ls hl => ?_)
      refine lv_goto (tgt := 19) hx hb dX0_goRound_96 (by decide) ?_
      exact hk19 v19 Ch Sc Tr Us _ _ _ hP hD hS (lv_sub hl [1, 0] rfl) hf
    · have hf := in_el hc18 hf
      refine lv_aload_n hx hb dX0_goRound_60 rfl (lv_at hl 0 rfl) ?_
      refine va_get (D := D) (ci := 0) (v := .ref (ach 5)) (C := RX0) (T := TX0) (N := 8) hx hb hu inX0 hown hK.1 hP 0 rfl rfl 4 (by decide) (hu _ q228) (fun _ h9 => h9) rfl dX0_goRound_61 ?_
      refine lv_iload_n hx hb dX0_goRound_64 rfl (lv_at hl 2 rfl) ?_
      obtain ⟨hi20, hf⟩ := ck_el hf
      refine va_iald hx hb hK.1 hP 3 0 rfl rfl hi20 dX0_goRound_65 ?_
      refine lv_aload_n hx hb dX0_goRound_66 rfl (lv_at hl 0 rfl) ?_
      refine va_get (D := D) (ci := 0) (v := .ref (ach 5)) (C := RX0) (T := TX0) (N := 8) hx hb hu inX0 hown hK.1 hP 0 rfl rfl 4 (by decide) (hu _ q228) (fun _ h9 => h9) rfl dX0_goRound_67 ?_
      refine lv_iload_n hx hb dX0_goRound_70 rfl (lv_at hl 1 rfl) ?_
      obtain ⟨hi21, hf⟩ := ck_el hf
      refine va_iald hx hb hK.1 hP 3 0 rfl rfl hi21 dX0_goRound_71 ?_
      refine lv_icmp_ne (tgt := 87) hx hb dX0_goRound_72 (by decide) (fun hc22 => ?_) (fun hc22 => ?_)
      · have hf := in_el hc22 hf
        obtain ⟨v23, hv23, hf⟩ := lt_el hf
        refine lv_iinc (v := v23) (lv' := [(2, .int v23), (0, .ref (ach 0)), (1, .int y1)]) hx hb dX0_goRound_87 hl (k := 2) rfl (by rw [hv23]; rfl) (by decide) rfl (fun ls hl => ?_)
        refine lv_goto (tgt := 55) hx hb dX0_goRound_90 (by decide) ?_
        exact hk55 y1 v23 Ch Sc Tr Us _ _ _ hP hD hS (lv_sub hl [1, 2, 0] rfl) hf
      · have hf := ip_el hc22 hf
        refine lv_aload_n hx hb dX0_goRound_75 rfl (lv_at hl 0 rfl) ?_
        refine lv_iload_n hx hb dX0_goRound_76 rfl (lv_at hl 2 rfl) ?_
        obtain ⟨Ch_24, hCh_24, hf⟩ := lt_el hf
        refine va_put (D := D) (ci := 0) (v := .int y2) (ty := .int) (C := RX0) (T := TX0) (N := 8) hx hb hu inX0 tyX0 tyX0_ok nmX0 hown hK.1 hP hD hS 0 rfl rfl 6 (by decide) (hu _ q230) (fun _ h9 => h9) rfl (by decide +kernel) rfl rfl (Nat.le_of_ble_eq_true rfl) dX0_goRound_77 (fun H locs hP hD hS => ?_)
        have hP : va_P D vwCl ((kX0 cs ach (.ref (are 0)) (.ref (aus 0)) Ch_24) ++ ((kX2 cs are (.ref (af 0)) (.ref (ac 0)) (.ref (atr 0)) (.ref (ase 0)) ) ++ ((kX1 cs af  Fo) ++ ((kX3 cs ac  Sc) ++ ((kX4 cs ase (.ref (af 0)) (.ref (ac 0)) (.ref (atr 0)) Se) ++ ((kX4 cs atr (.ref (af 0)) (.ref (ac 0)) .null Tr) ++ ((kX4 cs aus (.ref (af 0)) (.ref (ac 0)) (.ref (atr 0)) Us)))))))) H := by rw [hCh_24]; exact hP
        have hD : va_D A ((kX0 cs ach (.ref (are 0)) (.ref (aus 0)) Ch_24) ++ ((kX2 cs are (.ref (af 0)) (.ref (ac 0)) (.ref (atr 0)) (.ref (ase 0)) ) ++ ((kX1 cs af  Fo) ++ ((kX3 cs ac  Sc) ++ ((kX4 cs ase (.ref (af 0)) (.ref (ac 0)) (.ref (atr 0)) Se) ++ ((kX4 cs atr (.ref (af 0)) (.ref (ac 0)) .null Tr) ++ ((kX4 cs aus (.ref (af 0)) (.ref (ac 0)) (.ref (atr 0)) Us)))))))) := by rw [hCh_24]; exact hD
        refine lv_aload_n hx hb dX0_goRound_80 rfl (lv_at hl 0 rfl) ?_
        refine lv_iload_n hx hb dX0_goRound_81 rfl (lv_at hl 1 rfl) ?_
        obtain ⟨Ch_25, hCh_25, hf⟩ := lt_el hf
        refine va_put (D := D) (ci := 0) (v := .int y1) (ty := .int) (C := RX0) (T := TX0) (N := 8) hx hb hu inX0 tyX0 tyX0_ok nmX0 hown hK.1 hP hD hS 0 rfl rfl 7 (by decide) (hu _ q232) (fun _ h9 => h9) rfl (by decide +kernel) rfl rfl (Nat.le_of_ble_eq_true rfl) dX0_goRound_82 (fun H locs hP hD hS => ?_)
        have hP : va_P D vwCl ((kX0 cs ach (.ref (are 0)) (.ref (aus 0)) Ch_25) ++ ((kX2 cs are (.ref (af 0)) (.ref (ac 0)) (.ref (atr 0)) (.ref (ase 0)) ) ++ ((kX1 cs af  Fo) ++ ((kX3 cs ac  Sc) ++ ((kX4 cs ase (.ref (af 0)) (.ref (ac 0)) (.ref (atr 0)) Se) ++ ((kX4 cs atr (.ref (af 0)) (.ref (ac 0)) .null Tr) ++ ((kX4 cs aus (.ref (af 0)) (.ref (ac 0)) (.ref (atr 0)) Us)))))))) H := by rw [hCh_25]; exact hP
        have hD : va_D A ((kX0 cs ach (.ref (are 0)) (.ref (aus 0)) Ch_25) ++ ((kX2 cs are (.ref (af 0)) (.ref (ac 0)) (.ref (atr 0)) (.ref (ase 0)) ) ++ ((kX1 cs af  Fo) ++ ((kX3 cs ac  Sc) ++ ((kX4 cs ase (.ref (af 0)) (.ref (ac 0)) (.ref (atr 0)) Se) ++ ((kX4 cs atr (.ref (af 0)) (.ref (ac 0)) .null Tr) ++ ((kX4 cs aus (.ref (af 0)) (.ref (ac 0)) (.ref (atr 0)) Us)))))))) := by rw [hCh_25]; exact hD
        refine lv_iconst (v := 1) hx hb dX0_goRound_85 (by decide) ?_
        have he := Option.some.inj hf
        obtain ⟨e0, ht0⟩ := Prod.mk.inj he
        obtain ⟨e1, ht1⟩ := Prod.mk.inj ht0
        obtain ⟨e2, ht2⟩ := Prod.mk.inj ht1
        obtain ⟨e3, e4⟩ := Prod.mk.inj ht2
        exact hrz _ _ _ .boolean rfl rfl (congrArg (fun z => some (Value.int z)) e0.symm) dX0_goRound_86 _ _ _ (by rw [e1, e2, e3, e4]) hP hD hS
  have h55 : ∀ (k19 : Int32 → ST → ST → ST → ST → Option (Int32 × ST × ST × ST × ST)), (∀ (y1 : Int32) (Ch : ST) (Sc : ST) (Tr : ST) (Us : ST) (H : Heap) (locs : List Loc) (ls : Array Slot), va_P D vwCl ((kX0 cs ach (.ref (are 0)) (.ref (aus 0)) Ch) ++ ((kX2 cs are (.ref (af 0)) (.ref (ac 0)) (.ref (atr 0)) (.ref (ase 0)) ) ++ ((kX1 cs af  Fo) ++ ((kX3 cs ac  Sc) ++ ((kX4 cs ase (.ref (af 0)) (.ref (ac 0)) (.ref (atr 0)) Se) ++ ((kX4 cs atr (.ref (af 0)) (.ref (ac 0)) .null Tr) ++ ((kX4 cs aus (.ref (af 0)) (.ref (ac 0)) (.ref (atr 0)) Us)))))))) H → va_D A ((kX0 cs ach (.ref (are 0)) (.ref (aus 0)) Ch) ++ ((kX2 cs are (.ref (af 0)) (.ref (ac 0)) (.ref (atr 0)) (.ref (ase 0)) ) ++ ((kX1 cs af  Fo) ++ ((kX3 cs ac  Sc) ++ ((kX4 cs ase (.ref (af 0)) (.ref (ac 0)) (.ref (atr 0)) Se) ++ ((kX4 cs atr (.ref (af 0)) (.ref (ac 0)) .null Tr) ++ ((kX4 cs aus (.ref (af 0)) (.ref (ac 0)) (.ref (atr 0)) Us)))))))) → va_S A s.heap H locs → lv_has ls 3 [(0, .ref (ach 0)), (1, .int y1)] → k19 y1 Ch Sc Tr Us = some (r0, Chz, Scz, Trz, Usz) → W p l e rmX0_goRound s m [.ref (ach 0)].toArray below meth c H locs 0 0 Q (F0 m 19 ls [])) → ∀ (n : Nat), ∀ (y1 : Int32) (y2 : Int32) (Ch : ST) (Sc : ST) (Tr : ST) (Us : ST) (H : Heap) (locs : List Loc) (ls : Array Slot), va_P D vwCl ((kX0 cs ach (.ref (are 0)) (.ref (aus 0)) Ch) ++ ((kX2 cs are (.ref (af 0)) (.ref (ac 0)) (.ref (atr 0)) (.ref (ase 0)) ) ++ ((kX1 cs af  Fo) ++ ((kX3 cs ac  Sc) ++ ((kX4 cs ase (.ref (af 0)) (.ref (ac 0)) (.ref (atr 0)) Se) ++ ((kX4 cs atr (.ref (af 0)) (.ref (ac 0)) .null Tr) ++ ((kX4 cs aus (.ref (af 0)) (.ref (ac 0)) (.ref (atr 0)) Us)))))))) H → va_D A ((kX0 cs ach (.ref (are 0)) (.ref (aus 0)) Ch) ++ ((kX2 cs are (.ref (af 0)) (.ref (ac 0)) (.ref (atr 0)) (.ref (ase 0)) ) ++ ((kX1 cs af  Fo) ++ ((kX3 cs ac  Sc) ++ ((kX4 cs ase (.ref (af 0)) (.ref (ac 0)) (.ref (atr 0)) Se) ++ ((kX4 cs atr (.ref (af 0)) (.ref (ac 0)) .null Tr) ++ ((kX4 cs aus (.ref (af 0)) (.ref (ac 0)) (.ref (atr 0)) Us)))))))) → va_S A s.heap H locs → lv_has ls 3 [(0, .ref (ach 0)), (1, .int y1), (2, .int y2)] → fX0_goRound_55 Fo Se k19 n y1 y2 Ch Sc Tr Us = some (r0, Chz, Scz, Trz, Usz) → W p l e rmX0_goRound s m [.ref (ach 0)].toArray below meth c H locs 0 0 Q (F0 m 55 ls []) := by
    intro k19 hk19 n
    induction n with
    | zero => intro y1 y2 Ch Sc Tr Us H locs ls hP hD hS hl hf; exact no_el hf
    | succ n ih => intro y1 y2 Ch Sc Tr Us H locs ls hP hD hS hl hf; exact hs55 k19 hk19 _ ih y1 y2 Ch Sc Tr Us _ _ _ hP hD hS hl hf
  have hs19 : ∀ (k19 : Int32 → ST → ST → ST → ST → Option (Int32 × ST × ST × ST × ST)), (∀ (y1 : Int32) (Ch : ST) (Sc : ST) (Tr : ST) (Us : ST) (H : Heap) (locs : List Loc) (ls : Array Slot), va_P D vwCl ((kX0 cs ach (.ref (are 0)) (.ref (aus 0)) Ch) ++ ((kX2 cs are (.ref (af 0)) (.ref (ac 0)) (.ref (atr 0)) (.ref (ase 0)) ) ++ ((kX1 cs af  Fo) ++ ((kX3 cs ac  Sc) ++ ((kX4 cs ase (.ref (af 0)) (.ref (ac 0)) (.ref (atr 0)) Se) ++ ((kX4 cs atr (.ref (af 0)) (.ref (ac 0)) .null Tr) ++ ((kX4 cs aus (.ref (af 0)) (.ref (ac 0)) (.ref (atr 0)) Us)))))))) H → va_D A ((kX0 cs ach (.ref (are 0)) (.ref (aus 0)) Ch) ++ ((kX2 cs are (.ref (af 0)) (.ref (ac 0)) (.ref (atr 0)) (.ref (ase 0)) ) ++ ((kX1 cs af  Fo) ++ ((kX3 cs ac  Sc) ++ ((kX4 cs ase (.ref (af 0)) (.ref (ac 0)) (.ref (atr 0)) Se) ++ ((kX4 cs atr (.ref (af 0)) (.ref (ac 0)) .null Tr) ++ ((kX4 cs aus (.ref (af 0)) (.ref (ac 0)) (.ref (atr 0)) Us)))))))) → va_S A s.heap H locs → lv_has ls 3 [(0, .ref (ach 0)), (1, .int y1)] → k19 y1 Ch Sc Tr Us = some (r0, Chz, Scz, Trz, Usz) → W p l e rmX0_goRound s m [.ref (ach 0)].toArray below meth c H locs 0 0 Q (F0 m 19 ls [])) → ∀ (y1 : Int32) (Ch : ST) (Sc : ST) (Tr : ST) (Us : ST) (H : Heap) (locs : List Loc) (ls : Array Slot), va_P D vwCl ((kX0 cs ach (.ref (are 0)) (.ref (aus 0)) Ch) ++ ((kX2 cs are (.ref (af 0)) (.ref (ac 0)) (.ref (atr 0)) (.ref (ase 0)) ) ++ ((kX1 cs af  Fo) ++ ((kX3 cs ac  Sc) ++ ((kX4 cs ase (.ref (af 0)) (.ref (ac 0)) (.ref (atr 0)) Se) ++ ((kX4 cs atr (.ref (af 0)) (.ref (ac 0)) .null Tr) ++ ((kX4 cs aus (.ref (af 0)) (.ref (ac 0)) (.ref (atr 0)) Us)))))))) H → va_D A ((kX0 cs ach (.ref (are 0)) (.ref (aus 0)) Ch) ++ ((kX2 cs are (.ref (af 0)) (.ref (ac 0)) (.ref (atr 0)) (.ref (ase 0)) ) ++ ((kX1 cs af  Fo) ++ ((kX3 cs ac  Sc) ++ ((kX4 cs ase (.ref (af 0)) (.ref (ac 0)) (.ref (atr 0)) Se) ++ ((kX4 cs atr (.ref (af 0)) (.ref (ac 0)) .null Tr) ++ ((kX4 cs aus (.ref (af 0)) (.ref (ac 0)) (.ref (atr 0)) Us)))))))) → va_S A s.heap H locs → lv_has ls 3 [(0, .ref (ach 0)), (1, .int y1)] → fX0_goRound_19_s Fo Se k19 y1 Ch Sc Tr Us = some (r0, Chz, Scz, Trz, Usz) → W p l e rmX0_goRound s m [.ref (ach 0)].toArray below meth c H locs 0 0 Q (F0 m 19 ls []) := by
    intro k19 hk19 y1 Ch Sc Tr Us H locs ls hP hD hS hl hf
    unfold fX0_goRound_19_s at hf
    refine lv_iload_n hx hb dX0_goRound_19 rfl (lv_at hl 1 rfl) ?_
    refine lv_sipush (v := 300) hx hb dX0_goRound_20 (by decide) ?_
    refine lv_icmp_gt (tgt := 99) hx hb dX0_goRound_23 (by decide) (fun hc6 => ?_) (fun hc6 => ?_)
    · have hf := ip_el hc6 hf
      refine lv_iconst (v := 0) hx hb dX0_goRound_99 (by decide) ?_
      have he := Option.some.inj hf
      obtain ⟨e0, ht0⟩ := Prod.mk.inj he
      obtain ⟨e1, ht1⟩ := Prod.mk.inj ht0
      obtain ⟨e2, ht2⟩ := Prod.mk.inj ht1
      obtain ⟨e3, e4⟩ := Prod.mk.inj ht2
      exact hrz _ _ _ .boolean rfl rfl (congrArg (fun z => some (Value.int z)) e0.symm) dX0_goRound_100 _ _ _ (by rw [e1, e2, e3, e4]) hP hD hS
    · have hf := in_el hc6 hf
      refine lv_aload_n hx hb dX0_goRound_26 rfl (lv_at hl 0 rfl) ?_
      refine va_get (D := D) (ci := 0) (v := .ref (ach 6)) (C := RX0) (T := TX0) (N := 8) hx hb hu inX0 hown hK.1 hP 0 rfl rfl 5 (by decide) (hu _ q229) (fun _ h9 => h9) rfl dX0_goRound_27 ?_
      refine lv_iload_n hx hb dX0_goRound_30 rfl (lv_at hl 1 rfl) ?_
      refine lv_aload_n hx hb dX0_goRound_31 rfl (lv_at hl 0 rfl) ?_
      refine va_get (D := D) (ci := 0) (v := .ref (aus 0)) (C := RX0) (T := TX0) (N := 8) hx hb hu inX0 hown hK.1 hP 0 rfl rfl 1 (by decide) (hu _ q223) (fun _ h9 => h9) rfl dX0_goRound_32 ?_
      refine lv_iconst (v := 1) hx hb dX0_goRound_35 (by decide) ?_
      obtain ⟨r7, Us_8, Sc_9, Tr_10, hg11, hf⟩ := b4_el hf
      refine cc_V (w' := ((kX0 cs ach (.ref (are 0)) (.ref (aus 0)) Ch) ++ ((kX2 cs are (.ref (af 0)) (.ref (ac 0)) (.ref (atr 0)) (.ref (ase 0)) ) ++ ((kX1 cs af  Fo) ++ ((kX3 cs ac  Sc_9) ++ ((kX4 cs ase (.ref (af 0)) (.ref (ac 0)) (.ref (atr 0)) Se) ++ ((kX4 cs atr (.ref (af 0)) (.ref (ac 0)) .null Tr_10) ++ ((kX4 cs aus (.ref (af 0)) (.ref (ac 0)) (.ref (atr 0)) Us_8))))))))) (wr := ((kX0 cs ach (.ref (are 0)) (.ref (aus 0)) Ch) ++ ((kX2 cs are (.ref (af 0)) (.ref (ac 0)) (.ref (atr 0)) (.ref (ase 0)) ) ++ ((kX4 cs ase (.ref (af 0)) (.ref (ac 0)) (.ref (atr 0)) Se))))) (st1 := [.int r7, .int y1, .ref (ach 6)]) [.int 1] hx hb hml hown hu (tX4_next l D cs aus af ac atr 1 Us Fo Sc Tr r7 Us_8 Sc_9 Tr_10 hg11) q439 q58 q585 q437 q438 pdX4_next ⟨rfl, rfl, Nat.le_of_ble_eq_true rfl, Nat.le_of_ble_eq_true rfl⟩ hK hZ hP hD hS hA [24, 25, 26, 27, 6, 7, 8, 9, 10, 11, 12, 13, 14, 15, 20, 21, 22, 23] [0, 1, 2, 3, 4, 5, 16, 17, 18, 19] [0, 1, 2, 3, 4, 5, 14, 15, 16, 17, 18, 19, 20, 21, 22, 23, 6, 7, 8, 9, 24, 25, 26, 27, 10, 11, 12, 13] rfl rfl rfl rfl rfl rfl rfl rfl rfl rfl hl.1 rfl (Nat.le_of_ble_eq_true rfl) dX0_goRound_36 rfl (fun H locs hP hD hS => ?_)
      obtain ⟨hi12, hf⟩ := ck_el hf
      obtain ⟨Ch_13, hCh_13, hf⟩ := lt_el hf
      refine va_iast hx hb hK.1 hP hD hS 4 0 rfl rfl hi12 dX0_goRound_39 (fun H locs hP hD hS => ?_)
      have hP : va_P D vwCl ((kX0 cs ach (.ref (are 0)) (.ref (aus 0)) Ch_13) ++ ((kX2 cs are (.ref (af 0)) (.ref (ac 0)) (.ref (atr 0)) (.ref (ase 0)) ) ++ ((kX1 cs af  Fo) ++ ((kX3 cs ac  Sc_9) ++ ((kX4 cs ase (.ref (af 0)) (.ref (ac 0)) (.ref (atr 0)) Se) ++ ((kX4 cs atr (.ref (af 0)) (.ref (ac 0)) .null Tr_10) ++ ((kX4 cs aus (.ref (af 0)) (.ref (ac 0)) (.ref (atr 0)) Us_8)))))))) H := by rw [hCh_13]; exact hP
      have hD : va_D A ((kX0 cs ach (.ref (are 0)) (.ref (aus 0)) Ch_13) ++ ((kX2 cs are (.ref (af 0)) (.ref (ac 0)) (.ref (atr 0)) (.ref (ase 0)) ) ++ ((kX1 cs af  Fo) ++ ((kX3 cs ac  Sc_9) ++ ((kX4 cs ase (.ref (af 0)) (.ref (ac 0)) (.ref (atr 0)) Se) ++ ((kX4 cs atr (.ref (af 0)) (.ref (ac 0)) .null Tr_10) ++ ((kX4 cs aus (.ref (af 0)) (.ref (ac 0)) (.ref (atr 0)) Us_8)))))))) := by rw [hCh_13]; exact hD
      refine lv_aload_n hx hb dX0_goRound_40 rfl (lv_at hl 0 rfl) ?_
      refine va_get (D := D) (ci := 0) (v := .ref (ach 5)) (C := RX0) (T := TX0) (N := 8) hx hb hu inX0 hown hK.1 hP 0 rfl rfl 4 (by decide) (hu _ q228) (fun _ h9 => h9) rfl dX0_goRound_41 ?_
      refine lv_iload_n hx hb dX0_goRound_44 rfl (lv_at hl 1 rfl) ?_
      refine lv_aload_n hx hb dX0_goRound_45 rfl (lv_at hl 0 rfl) ?_
      refine va_get (D := D) (ci := 0) (v := .ref (aus 0)) (C := RX0) (T := TX0) (N := 8) hx hb hu inX0 hown hK.1 hP 0 rfl rfl 1 (by decide) (hu _ q223) (fun _ h9 => h9) rfl dX0_goRound_46 ?_
      obtain ⟨r14, hg15, hf⟩ := b1_el hf
      refine cc_V (w' := ((kX0 cs ach (.ref (are 0)) (.ref (aus 0)) Ch_13) ++ ((kX2 cs are (.ref (af 0)) (.ref (ac 0)) (.ref (atr 0)) (.ref (ase 0)) ) ++ ((kX1 cs af  Fo) ++ ((kX3 cs ac  Sc_9) ++ ((kX4 cs ase (.ref (af 0)) (.ref (ac 0)) (.ref (atr 0)) Se) ++ ((kX4 cs atr (.ref (af 0)) (.ref (ac 0)) .null Tr_10) ++ ((kX4 cs aus (.ref (af 0)) (.ref (ac 0)) (.ref (atr 0)) Us_8))))))))) (wr := ((kX0 cs ach (.ref (are 0)) (.ref (aus 0)) Ch_13) ++ ((kX2 cs are (.ref (af 0)) (.ref (ac 0)) (.ref (atr 0)) (.ref (ase 0)) ) ++ ((kX1 cs af  Fo) ++ ((kX3 cs ac  Sc_9) ++ ((kX4 cs ase (.ref (af 0)) (.ref (ac 0)) (.ref (atr 0)) Se) ++ ((kX4 cs atr (.ref (af 0)) (.ref (ac 0)) .null Tr_10)))))))) (st1 := [.int r14, .int y1, .ref (ach 5)]) [] hx hb hml hown hu (tX4_code l D cs aus (.ref (af 0)) (.ref (ac 0)) (.ref (atr 0)) Us_8 r14 hg15) q584 q58 q581 q582 q583 pdX4_code ⟨rfl, rfl, Nat.le_of_ble_eq_true rfl, Nat.le_of_ble_eq_true rfl⟩ hK hZ hP hD hS hA [24, 25, 26, 27] [0, 1, 2, 3, 4, 5, 6, 7, 8, 9, 10, 11, 12, 13, 14, 15, 16, 17, 18, 19, 20, 21, 22, 23] [0, 1, 2, 3, 4, 5, 6, 7, 8, 9, 10, 11, 12, 13, 14, 15, 16, 17, 18, 19, 20, 21, 22, 23, 24, 25, 26, 27] rfl rfl rfl rfl rfl rfl rfl rfl rfl rfl hl.1 rfl (Nat.le_of_ble_eq_true rfl) dX0_goRound_49 rfl (fun H locs hP hD hS => ?_)
      obtain ⟨hi16, hf⟩ := ck_el hf
      obtain ⟨Ch_17, hCh_17, hf⟩ := lt_el hf
      refine va_iast hx hb hK.1 hP hD hS 3 0 rfl rfl hi16 dX0_goRound_52 (fun H locs hP hD hS => ?_)
      have hP : va_P D vwCl ((kX0 cs ach (.ref (are 0)) (.ref (aus 0)) Ch_17) ++ ((kX2 cs are (.ref (af 0)) (.ref (ac 0)) (.ref (atr 0)) (.ref (ase 0)) ) ++ ((kX1 cs af  Fo) ++ ((kX3 cs ac  Sc_9) ++ ((kX4 cs ase (.ref (af 0)) (.ref (ac 0)) (.ref (atr 0)) Se) ++ ((kX4 cs atr (.ref (af 0)) (.ref (ac 0)) .null Tr_10) ++ ((kX4 cs aus (.ref (af 0)) (.ref (ac 0)) (.ref (atr 0)) Us_8)))))))) H := by rw [hCh_17]; exact hP
      have hD : va_D A ((kX0 cs ach (.ref (are 0)) (.ref (aus 0)) Ch_17) ++ ((kX2 cs are (.ref (af 0)) (.ref (ac 0)) (.ref (atr 0)) (.ref (ase 0)) ) ++ ((kX1 cs af  Fo) ++ ((kX3 cs ac  Sc_9) ++ ((kX4 cs ase (.ref (af 0)) (.ref (ac 0)) (.ref (atr 0)) Se) ++ ((kX4 cs atr (.ref (af 0)) (.ref (ac 0)) .null Tr_10) ++ ((kX4 cs aus (.ref (af 0)) (.ref (ac 0)) (.ref (atr 0)) Us_8)))))))) := by rw [hCh_17]; exact hD
      refine lv_iconst (v := 0) hx hb dX0_goRound_53 (by decide) ?_
      refine lv_istore_n (lv' := [(2, .int 0), (0, .ref (ach 0)), (1, .int y1)]) hx hb dX0_goRound_54 rfl hl (by decide) rfl (fun ls hl => ?_)
      exact h55 k19 hk19 400 y1 0 Ch_17 Sc_9 Tr_10 Us_8 _ _ _ hP hD hS (lv_sub hl [1, 2, 0] rfl) hf
  have h19 : ∀ (n : Nat), ∀ (y1 : Int32) (Ch : ST) (Sc : ST) (Tr : ST) (Us : ST) (H : Heap) (locs : List Loc) (ls : Array Slot), va_P D vwCl ((kX0 cs ach (.ref (are 0)) (.ref (aus 0)) Ch) ++ ((kX2 cs are (.ref (af 0)) (.ref (ac 0)) (.ref (atr 0)) (.ref (ase 0)) ) ++ ((kX1 cs af  Fo) ++ ((kX3 cs ac  Sc) ++ ((kX4 cs ase (.ref (af 0)) (.ref (ac 0)) (.ref (atr 0)) Se) ++ ((kX4 cs atr (.ref (af 0)) (.ref (ac 0)) .null Tr) ++ ((kX4 cs aus (.ref (af 0)) (.ref (ac 0)) (.ref (atr 0)) Us)))))))) H → va_D A ((kX0 cs ach (.ref (are 0)) (.ref (aus 0)) Ch) ++ ((kX2 cs are (.ref (af 0)) (.ref (ac 0)) (.ref (atr 0)) (.ref (ase 0)) ) ++ ((kX1 cs af  Fo) ++ ((kX3 cs ac  Sc) ++ ((kX4 cs ase (.ref (af 0)) (.ref (ac 0)) (.ref (atr 0)) Se) ++ ((kX4 cs atr (.ref (af 0)) (.ref (ac 0)) .null Tr) ++ ((kX4 cs aus (.ref (af 0)) (.ref (ac 0)) (.ref (atr 0)) Us)))))))) → va_S A s.heap H locs → lv_has ls 3 [(0, .ref (ach 0)), (1, .int y1)] → fX0_goRound_19 Fo Se n y1 Ch Sc Tr Us = some (r0, Chz, Scz, Trz, Usz) → W p l e rmX0_goRound s m [.ref (ach 0)].toArray below meth c H locs 0 0 Q (F0 m 19 ls []) := by
    intro n
    induction n with
    | zero => intro y1 Ch Sc Tr Us H locs ls hP hD hS hl hf; exact no_el hf
    | succ n ih => intro y1 Ch Sc Tr Us H locs ls hP hD hS hl hf; exact hs19 _ ih y1 Ch Sc Tr Us _ _ _ hP hD hS hl hf
  have hl : lv_has ls0 3 [(0, .ref (ach 0))] := hl0
  have hP := hP0
  have hD := hD0
  have hS := hS0
  unfold fX0_goRound at hf
  refine lv_aload_n hx hb dX0_goRound_0 rfl (lv_at hl 0 rfl) ?_
  obtain ⟨Us_1, hg2, hf⟩ := b1_el hf
  refine cc_V (w' := ((kX0 cs ach (.ref (are 0)) (.ref (aus 0)) Ch) ++ ((kX2 cs are (.ref (af 0)) (.ref (ac 0)) (.ref (atr 0)) (.ref (ase 0)) ) ++ ((kX1 cs af  Fo) ++ ((kX3 cs ac  Sc) ++ ((kX4 cs ase (.ref (af 0)) (.ref (ac 0)) (.ref (atr 0)) Se) ++ ((kX4 cs atr (.ref (af 0)) (.ref (ac 0)) .null Tr) ++ ((kX4 cs aus (.ref (af 0)) (.ref (ac 0)) (.ref (atr 0)) Us_1))))))))) (wr := ((kX1 cs af  Fo) ++ ((kX3 cs ac  Sc) ++ ((kX4 cs atr (.ref (af 0)) (.ref (ac 0)) .null Tr))))) (st1 := []) [] hx hb hml hown hu (tX0_start l D cs ach are aus af ac atr ase Ch Se Us Us_1 hg2) q570 q59 q580 q568 q569 pdX0_start ⟨rfl, rfl, Nat.le_of_ble_eq_true rfl, Nat.le_of_ble_eq_true rfl⟩ hK hZ hP hD hS hA [0, 1, 2, 3, 4, 5, 16, 17, 18, 19, 24, 25, 26, 27] [6, 7, 8, 9, 10, 11, 12, 13, 14, 15, 20, 21, 22, 23] [14, 15, 16, 17, 18, 19, 0, 1, 2, 3, 4, 5, 6, 7, 8, 9, 20, 21, 22, 23, 10, 11, 12, 13, 24, 25, 26, 27] rfl rfl rfl rfl rfl rfl rfl rfl rfl rfl hl.1 rfl (Nat.le_of_ble_eq_true rfl) dX0_goRound_1 rfl (fun H locs hP hD hS => ?_)
  refine lv_aload_n hx hb dX0_goRound_4 rfl (lv_at hl 0 rfl) ?_
  refine va_get (D := D) (ci := 0) (v := .ref (ach 5)) (C := RX0) (T := TX0) (N := 8) hx hb hu inX0 hown hK.1 hP 0 rfl rfl 4 (by decide) (hu _ q228) (fun _ h9 => h9) rfl dX0_goRound_5 ?_
  refine lv_iconst (v := 0) hx hb dX0_goRound_8 (by decide) ?_
  refine lv_aload_n hx hb dX0_goRound_9 rfl (lv_at hl 0 rfl) ?_
  refine va_get (D := D) (ci := 0) (v := .ref (aus 0)) (C := RX0) (T := TX0) (N := 8) hx hb hu inX0 hown hK.1 hP 0 rfl rfl 1 (by decide) (hu _ q223) (fun _ h9 => h9) rfl dX0_goRound_10 ?_
  obtain ⟨r3, hg4, hf⟩ := b1_el hf
  refine cc_V (w' := ((kX0 cs ach (.ref (are 0)) (.ref (aus 0)) Ch) ++ ((kX2 cs are (.ref (af 0)) (.ref (ac 0)) (.ref (atr 0)) (.ref (ase 0)) ) ++ ((kX1 cs af  Fo) ++ ((kX3 cs ac  Sc) ++ ((kX4 cs ase (.ref (af 0)) (.ref (ac 0)) (.ref (atr 0)) Se) ++ ((kX4 cs atr (.ref (af 0)) (.ref (ac 0)) .null Tr) ++ ((kX4 cs aus (.ref (af 0)) (.ref (ac 0)) (.ref (atr 0)) Us_1))))))))) (wr := ((kX0 cs ach (.ref (are 0)) (.ref (aus 0)) Ch) ++ ((kX2 cs are (.ref (af 0)) (.ref (ac 0)) (.ref (atr 0)) (.ref (ase 0)) ) ++ ((kX1 cs af  Fo) ++ ((kX3 cs ac  Sc) ++ ((kX4 cs ase (.ref (af 0)) (.ref (ac 0)) (.ref (atr 0)) Se) ++ ((kX4 cs atr (.ref (af 0)) (.ref (ac 0)) .null Tr)))))))) (st1 := [.int r3, .int 0, .ref (ach 5)]) [] hx hb hml hown hu (tX4_code l D cs aus (.ref (af 0)) (.ref (ac 0)) (.ref (atr 0)) Us_1 r3 hg4) q584 q58 q581 q582 q583 pdX4_code ⟨rfl, rfl, Nat.le_of_ble_eq_true rfl, Nat.le_of_ble_eq_true rfl⟩ hK hZ hP hD hS hA [24, 25, 26, 27] [0, 1, 2, 3, 4, 5, 6, 7, 8, 9, 10, 11, 12, 13, 14, 15, 16, 17, 18, 19, 20, 21, 22, 23] [0, 1, 2, 3, 4, 5, 6, 7, 8, 9, 10, 11, 12, 13, 14, 15, 16, 17, 18, 19, 20, 21, 22, 23, 24, 25, 26, 27] rfl rfl rfl rfl rfl rfl rfl rfl rfl rfl hl.1 rfl (Nat.le_of_ble_eq_true rfl) dX0_goRound_13 rfl (fun H locs hP hD hS => ?_)
  obtain ⟨Ch_5, hCh_5, hf⟩ := lt_el hf
  refine is_lit hx hb hK hP hD hS 3 0 rfl (by decide) dX0_goRound_16 (fun H locs hP hD hS => ?_)
  have hP : va_P D vwCl ((kX0 cs ach (.ref (are 0)) (.ref (aus 0)) Ch_5) ++ ((kX2 cs are (.ref (af 0)) (.ref (ac 0)) (.ref (atr 0)) (.ref (ase 0)) ) ++ ((kX1 cs af  Fo) ++ ((kX3 cs ac  Sc) ++ ((kX4 cs ase (.ref (af 0)) (.ref (ac 0)) (.ref (atr 0)) Se) ++ ((kX4 cs atr (.ref (af 0)) (.ref (ac 0)) .null Tr) ++ ((kX4 cs aus (.ref (af 0)) (.ref (ac 0)) (.ref (atr 0)) Us_1)))))))) H := by rw [hCh_5]; exact hP
  have hD : va_D A ((kX0 cs ach (.ref (are 0)) (.ref (aus 0)) Ch_5) ++ ((kX2 cs are (.ref (af 0)) (.ref (ac 0)) (.ref (atr 0)) (.ref (ase 0)) ) ++ ((kX1 cs af  Fo) ++ ((kX3 cs ac  Sc) ++ ((kX4 cs ase (.ref (af 0)) (.ref (ac 0)) (.ref (atr 0)) Se) ++ ((kX4 cs atr (.ref (af 0)) (.ref (ac 0)) .null Tr) ++ ((kX4 cs aus (.ref (af 0)) (.ref (ac 0)) (.ref (atr 0)) Us_1)))))))) := by rw [hCh_5]; exact hD
  refine lv_iconst (v := 1) hx hb dX0_goRound_17 (by decide) ?_
  refine lv_istore_n (lv' := [(1, .int 1), (0, .ref (ach 0))]) hx hb dX0_goRound_18 rfl hl (by decide) rfl (fun ls hl => ?_)
  exact h19 400 1 Ch_5 Sc Tr Us_1 _ _ _ hP hD hS (lv_sub hl [1, 0] rfl) hf

def fX0_whoGoesRound_9_s (Ch : ST) (k9 : Int32 → Int32 → Option Int32) (y1 : Int32) (y2 : Int32) : Option Int32 :=
  (if (Ch 0 7) < y2 then some y1 else dc_ck y2 301 ((if (Ch 6 (Int32.toNatClampNeg y2)) = (-1) then dc_lt (y2 + 1) (fun v5 => k9 y1 v5) else dc_ck y2 301 (dc_lt (y1 ||| ((1 : Int32) <<< ((Ch 6 (Int32.toNatClampNeg y2)) &&& 31))) (fun v7 => dc_lt (y2 + 1) (fun v8 => k9 v7 v8))))))
def fX0_whoGoesRound_9 (Ch : ST) : Nat → Int32 → Int32 → Option Int32
  | 0 => fun _ _ => none
  | n + 1 => fX0_whoGoesRound_9_s Ch (fX0_whoGoesRound_9 Ch n)
def fX0_whoGoesRound (Ch : ST) : Option Int32 :=
  dc_lt ((Ch 0 6) + 1) (fun v1 => fX0_whoGoesRound_9 Ch 400 0 v1)
abbrev rmX0_whoGoesRound : Room := { frames := 0, cells := 0, slots := 0, locals := 0 }
set_option maxRecDepth 100000 in
set_option maxHeartbeats 4000000 in
theorem tX0_whoGoesRound (l : Launch) (D : va_G) (cs : Nat → ClassId) (ach : Nat → Nat) (are : Nat → Nat) (aus : Nat → Nat) (Ch : ST) (r0 : Int32) (hf : fX0_whoGoesRound Ch = some r0) : CG l yX0_whoGoesRound (wsm yX0_whoGoesRound cX0_whoGoesRound 3 (some .int)) rmX0_whoGoesRound D cs [.ref (ach 0)] (some (.int r0)) (kX0 cs ach (.ref (are 0)) (.ref (aus 0)) Ch) (kX0 cs ach (.ref (are 0)) (.ref (aus 0)) Ch) := by
  refine CG.intro (by decide) (Nat.le_of_ble_eq_true rfl) ?_
  intro p e s m below meth c A Q hx hb hml hown hu hK hZ hP0 hD0 hS0 hA hri hrz hrl hrv hra ls0 hl0
  have hs9 : ∀ (k9 : Int32 → Int32 → Option Int32), (∀ (y1 : Int32) (y2 : Int32) (H : Heap) (locs : List Loc) (ls : Array Slot), va_P D vwCl (kX0 cs ach (.ref (are 0)) (.ref (aus 0)) Ch) H → va_D A (kX0 cs ach (.ref (are 0)) (.ref (aus 0)) Ch) → va_S A s.heap H locs → lv_has ls 3 [(0, .ref (ach 0)), (1, .int y1), (2, .int y2)] → k9 y1 y2 = some r0 → W p l e rmX0_whoGoesRound s m [.ref (ach 0)].toArray below meth c H locs 0 0 Q (F0 m 9 ls [])) → ∀ (y1 : Int32) (y2 : Int32) (H : Heap) (locs : List Loc) (ls : Array Slot), va_P D vwCl (kX0 cs ach (.ref (are 0)) (.ref (aus 0)) Ch) H → va_D A (kX0 cs ach (.ref (are 0)) (.ref (aus 0)) Ch) → va_S A s.heap H locs → lv_has ls 3 [(0, .ref (ach 0)), (1, .int y1), (2, .int y2)] → fX0_whoGoesRound_9_s Ch k9 y1 y2 = some r0 → W p l e rmX0_whoGoesRound s m [.ref (ach 0)].toArray below meth c H locs 0 0 Q (F0 m 9 ls []) := by
    intro k9 hk9 y1 y2 H locs ls hP hD hS hl hf
    unfold fX0_whoGoesRound_9_s at hf
    refine lv_iload_n hx hb dX0_whoGoesRound_9 rfl (lv_at hl 2 rfl) ?_
    refine lv_aload_n hx hb dX0_whoGoesRound_10 rfl (lv_at hl 0 rfl) ?_
    refine va_get (D := D) (ci := 0) (v := .int (Ch 0 7)) (C := RX0) (T := TX0) (N := 8) hx hb hu inX0 hown hK.1 hP 0 rfl rfl 7 (by decide) (hu _ q232) (fun _ h9 => h9) rfl dX0_whoGoesRound_11 ?_
    refine lv_icmp_gt (tgt := 44) hx hb dX0_whoGoesRound_14 (by decide) (fun hc2 => ?_) (fun hc2 => ?_)
    · have hf := ip_el hc2 hf
      refine lv_iload_n hx hb dX0_whoGoesRound_44 rfl (lv_at hl 1 rfl) ?_
      have he := Option.some.inj hf
      have e0 := he
      exact hri _ _ _ rfl (congrArg (fun z => some (Value.int z)) e0.symm) dX0_whoGoesRound_45 _ _ _ rfl hP hD hS
    · have hf := in_el hc2 hf
      refine lv_aload_n hx hb dX0_whoGoesRound_17 rfl (lv_at hl 0 rfl) ?_
      refine va_get (D := D) (ci := 0) (v := .ref (ach 6)) (C := RX0) (T := TX0) (N := 8) hx hb hu inX0 hown hK.1 hP 0 rfl rfl 5 (by decide) (hu _ q229) (fun _ h9 => h9) rfl dX0_whoGoesRound_18 ?_
      refine lv_iload_n hx hb dX0_whoGoesRound_21 rfl (lv_at hl 2 rfl) ?_
      obtain ⟨hi3, hf⟩ := ck_el hf
      refine va_iald hx hb hK.1 hP 4 0 rfl rfl hi3 dX0_whoGoesRound_22 ?_
      refine lv_iconst (v := (-1)) hx hb dX0_whoGoesRound_23 (by decide) ?_
      refine lv_icmp_eq (tgt := 38) hx hb dX0_whoGoesRound_24 (by decide) (fun hc4 => ?_) (fun hc4 => ?_)
      · have hf := ip_el hc4 hf
        obtain ⟨v5, hv5, hf⟩ := lt_el hf
        refine lv_iinc (v := v5) (lv' := [(2, .int v5), (0, .ref (ach 0)), (1, .int y1)]) hx hb dX0_whoGoesRound_38 hl (k := 2) rfl (by rw [hv5]; rfl) (by decide) rfl (fun ls hl => ?_)
        refine lv_goto (tgt := 9) hx hb dX0_whoGoesRound_41 (by decide) ?_
        exact hk9 y1 v5 _ _ _ hP hD hS (lv_sub hl [1, 2, 0] rfl) hf
      · have hf := in_el hc4 hf
        refine lv_iload_n hx hb dX0_whoGoesRound_27 rfl (lv_at hl 1 rfl) ?_
        refine lv_iconst (v := 1) hx hb dX0_whoGoesRound_28 (by decide) ?_
        refine lv_aload_n hx hb dX0_whoGoesRound_29 rfl (lv_at hl 0 rfl) ?_
        refine va_get (D := D) (ci := 0) (v := .ref (ach 6)) (C := RX0) (T := TX0) (N := 8) hx hb hu inX0 hown hK.1 hP 0 rfl rfl 5 (by decide) (hu _ q229) (fun _ h9 => h9) rfl dX0_whoGoesRound_30 ?_
        refine lv_iload_n hx hb dX0_whoGoesRound_33 rfl (lv_at hl 2 rfl) ?_
        obtain ⟨hi6, hf⟩ := ck_el hf
        refine va_iald hx hb hK.1 hP 4 0 rfl rfl hi6 dX0_whoGoesRound_34 ?_
        refine lv_ishl hx hb dX0_whoGoesRound_35 ?_
        refine lv_ior hx hb dX0_whoGoesRound_36 ?_
        obtain ⟨v7, hv7, hf⟩ := lt_el hf
        refine lv_tope hv7 ?_
        refine lv_istore_n (lv' := [(1, .int v7), (0, .ref (ach 0)), (2, .int y2)]) hx hb dX0_whoGoesRound_37 rfl hl (by decide) rfl (fun ls hl => ?_)
        obtain ⟨v8, hv8, hf⟩ := lt_el hf
        refine lv_iinc (v := v8) (lv' := [(2, .int v8), (1, .int v7), (0, .ref (ach 0))]) hx hb dX0_whoGoesRound_38 hl (k := 2) rfl (by rw [hv8]; rfl) (by decide) rfl (fun ls hl => ?_)
        refine lv_goto (tgt := 9) hx hb dX0_whoGoesRound_41 (by decide) ?_
        exact hk9 v7 v8 _ _ _ hP hD hS (lv_sub hl [2, 1, 0] rfl) hf
  have h9 : ∀ (n : Nat), ∀ (y1 : Int32) (y2 : Int32) (H : Heap) (locs : List Loc) (ls : Array Slot), va_P D vwCl (kX0 cs ach (.ref (are 0)) (.ref (aus 0)) Ch) H → va_D A (kX0 cs ach (.ref (are 0)) (.ref (aus 0)) Ch) → va_S A s.heap H locs → lv_has ls 3 [(0, .ref (ach 0)), (1, .int y1), (2, .int y2)] → fX0_whoGoesRound_9 Ch n y1 y2 = some r0 → W p l e rmX0_whoGoesRound s m [.ref (ach 0)].toArray below meth c H locs 0 0 Q (F0 m 9 ls []) := by
    intro n
    induction n with
    | zero => intro y1 y2 H locs ls hP hD hS hl hf; exact no_el hf
    | succ n ih => intro y1 y2 H locs ls hP hD hS hl hf; exact hs9 _ ih y1 y2 _ _ _ hP hD hS hl hf
  have hl : lv_has ls0 3 [(0, .ref (ach 0))] := hl0
  have hP := hP0
  have hD := hD0
  have hS := hS0
  unfold fX0_whoGoesRound at hf
  refine lv_iconst (v := 0) hx hb dX0_whoGoesRound_0 (by decide) ?_
  refine lv_istore_n (lv' := [(1, .int 0), (0, .ref (ach 0))]) hx hb dX0_whoGoesRound_1 rfl hl (by decide) rfl (fun ls hl => ?_)
  refine lv_aload_n hx hb dX0_whoGoesRound_2 rfl (lv_at hl 1 rfl) ?_
  refine va_get (D := D) (ci := 0) (v := .int (Ch 0 6)) (C := RX0) (T := TX0) (N := 8) hx hb hu inX0 hown hK.1 hP 0 rfl rfl 6 (by decide) (hu _ q230) (fun _ h9 => h9) rfl dX0_whoGoesRound_3 ?_
  refine lv_iconst (v := 1) hx hb dX0_whoGoesRound_6 (by decide) ?_
  refine lv_iadd hx hb dX0_whoGoesRound_7 ?_
  obtain ⟨v1, hv1, hf⟩ := lt_el hf
  refine lv_tope hv1 ?_
  refine lv_istore_n (lv' := [(2, .int v1), (1, .int 0), (0, .ref (ach 0))]) hx hb dX0_whoGoesRound_8 rfl hl (by decide) rfl (fun ls hl => ?_)
  exact h9 400 0 v1 _ _ _ hP hD hS (lv_sub hl [2, 1, 0] rfl) hf

def fX0_noteWithout_2_s (Fo : ST) (k2 : Int32 → ST → Option ST) (y1 : Int32) (Ch : ST) : Option ST :=
  (if 4 ≤ y1 then some Ch else dc_b1 (fX0_worthFor y1 Ch Fo) (fun r2 => dc_ck y1 4 (dc_lt (sti Ch 4 (Int32.toNatClampNeg y1) r2) (fun Ch_5 => dc_lt (y1 + 1) (fun v6 => k2 v6 Ch_5)))))
def fX0_noteWithout_2 (Fo : ST) : Nat → Int32 → ST → Option ST
  | 0 => fun _ _ => none
  | n + 1 => fX0_noteWithout_2_s Fo (fX0_noteWithout_2 Fo n)
def fX0_noteWithout (Ch : ST) (Fo : ST) : Option ST :=
  fX0_noteWithout_2 Fo 400 0 Ch
abbrev rmX0_noteWithout : Room := { frames := 1, cells := 0, slots := 0, locals := 23 }
set_option maxRecDepth 100000 in
set_option maxHeartbeats 4000000 in
theorem tX0_noteWithout (l : Launch) (D : va_G) (cs : Nat → ClassId) (ach : Nat → Nat) (are : Nat → Nat) (aus : Nat → Nat) (af : Nat → Nat) (ac : Nat → Nat) (atr : Nat → Nat) (ase : Nat → Nat) (Ch : ST) (Fo : ST) (Chz : ST) (hf : fX0_noteWithout Ch Fo = some Chz) : CG l yX0_noteWithout (wsm yX0_noteWithout cX0_noteWithout 2 none) rmX0_noteWithout D cs [.ref (ach 0)] none ((kX0 cs ach (.ref (are 0)) (.ref (aus 0)) Ch) ++ ((kX2 cs are (.ref (af 0)) (.ref (ac 0)) (.ref (atr 0)) (.ref (ase 0)) ) ++ ((kX1 cs af  Fo)))) ((kX0 cs ach (.ref (are 0)) (.ref (aus 0)) Chz) ++ ((kX2 cs are (.ref (af 0)) (.ref (ac 0)) (.ref (atr 0)) (.ref (ase 0)) ) ++ ((kX1 cs af  Fo)))) := by
  refine CG.intro (by decide) (Nat.le_of_ble_eq_true rfl) ?_
  intro p e s m below meth c A Q hx hb hml hown hu hK hZ hP0 hD0 hS0 hA hri hrz hrl hrv hra ls0 hl0
  have hs2 : ∀ (k2 : Int32 → ST → Option ST), (∀ (y1 : Int32) (Ch : ST) (H : Heap) (locs : List Loc) (ls : Array Slot), va_P D vwCl ((kX0 cs ach (.ref (are 0)) (.ref (aus 0)) Ch) ++ ((kX2 cs are (.ref (af 0)) (.ref (ac 0)) (.ref (atr 0)) (.ref (ase 0)) ) ++ ((kX1 cs af  Fo)))) H → va_D A ((kX0 cs ach (.ref (are 0)) (.ref (aus 0)) Ch) ++ ((kX2 cs are (.ref (af 0)) (.ref (ac 0)) (.ref (atr 0)) (.ref (ase 0)) ) ++ ((kX1 cs af  Fo)))) → va_S A s.heap H locs → lv_has ls 2 [(0, .ref (ach 0)), (1, .int y1)] → k2 y1 Ch = some Chz → W p l e rmX0_noteWithout s m [.ref (ach 0)].toArray below meth c H locs 0 0 Q (F0 m 2 ls [])) → ∀ (y1 : Int32) (Ch : ST) (H : Heap) (locs : List Loc) (ls : Array Slot), va_P D vwCl ((kX0 cs ach (.ref (are 0)) (.ref (aus 0)) Ch) ++ ((kX2 cs are (.ref (af 0)) (.ref (ac 0)) (.ref (atr 0)) (.ref (ase 0)) ) ++ ((kX1 cs af  Fo)))) H → va_D A ((kX0 cs ach (.ref (are 0)) (.ref (aus 0)) Ch) ++ ((kX2 cs are (.ref (af 0)) (.ref (ac 0)) (.ref (atr 0)) (.ref (ase 0)) ) ++ ((kX1 cs af  Fo)))) → va_S A s.heap H locs → lv_has ls 2 [(0, .ref (ach 0)), (1, .int y1)] → fX0_noteWithout_2_s Fo k2 y1 Ch = some Chz → W p l e rmX0_noteWithout s m [.ref (ach 0)].toArray below meth c H locs 0 0 Q (F0 m 2 ls []) := by
    intro k2 hk2 y1 Ch H locs ls hP hD hS hl hf
    unfold fX0_noteWithout_2_s at hf
    refine lv_iload_n hx hb dX0_noteWithout_2 rfl (lv_at hl 1 rfl) ?_
    refine lv_iconst (v := 4) hx hb dX0_noteWithout_3 (by decide) ?_
    refine lv_icmp_ge (tgt := 24) hx hb dX0_noteWithout_4 (by decide) (fun hc1 => ?_) (fun hc1 => ?_)
    · have hf := ip_el hc1 hf
      have he := Option.some.inj hf
      have e0 := he
      exact hrv _ _ rfl rfl dX0_noteWithout_24 _ _ _ (by rw [e0]) hP hD hS
    · have hf := in_el hc1 hf
      refine lv_aload_n hx hb dX0_noteWithout_7 rfl (lv_at hl 0 rfl) ?_
      refine va_get (D := D) (ci := 0) (v := .ref (ach 4)) (C := RX0) (T := TX0) (N := 8) hx hb hu inX0 hown hK.1 hP 0 rfl rfl 3 (by decide) (hu _ q227) (fun _ h9 => h9) rfl dX0_noteWithout_8 ?_
      refine lv_iload_n hx hb dX0_noteWithout_11 rfl (lv_at hl 1 rfl) ?_
      refine lv_aload_n hx hb dX0_noteWithout_12 rfl (lv_at hl 0 rfl) ?_
      refine lv_iload_n hx hb dX0_noteWithout_13 rfl (lv_at hl 1 rfl) ?_
      obtain ⟨r2, hg3, hf⟩ := b1_el hf
      refine cc_V1 (w' := ((kX0 cs ach (.ref (are 0)) (.ref (aus 0)) Ch) ++ ((kX2 cs are (.ref (af 0)) (.ref (ac 0)) (.ref (atr 0)) (.ref (ase 0)) ) ++ ((kX1 cs af  Fo))))) (st1 := [.int r2, .int y1, .ref (ach 4)]) [.int y1] hx hb hml hown hu (tX0_worthFor l D cs ach are aus af ac atr ase y1 Ch Fo r2 hg3) q613 q59 q634 q611 q612 pdX0_worthFor ⟨rfl, rfl, Nat.le_of_ble_eq_true rfl, Nat.le_of_ble_eq_true rfl⟩ hK hZ hP hD hS hA rfl rfl rfl rfl hl.1 rfl (Nat.le_of_ble_eq_true rfl) dX0_noteWithout_14 rfl (fun H locs hP hD hS => ?_)
      obtain ⟨hi4, hf⟩ := ck_el hf
      obtain ⟨Ch_5, hCh_5, hf⟩ := lt_el hf
      refine va_iast hx hb hK.1 hP hD hS 2 0 rfl rfl hi4 dX0_noteWithout_17 (fun H locs hP hD hS => ?_)
      have hP : va_P D vwCl ((kX0 cs ach (.ref (are 0)) (.ref (aus 0)) Ch_5) ++ ((kX2 cs are (.ref (af 0)) (.ref (ac 0)) (.ref (atr 0)) (.ref (ase 0)) ) ++ ((kX1 cs af  Fo)))) H := by rw [hCh_5]; exact hP
      have hD : va_D A ((kX0 cs ach (.ref (are 0)) (.ref (aus 0)) Ch_5) ++ ((kX2 cs are (.ref (af 0)) (.ref (ac 0)) (.ref (atr 0)) (.ref (ase 0)) ) ++ ((kX1 cs af  Fo)))) := by rw [hCh_5]; exact hD
      obtain ⟨v6, hv6, hf⟩ := lt_el hf
      refine lv_iinc (v := v6) (lv' := [(1, .int v6), (0, .ref (ach 0))]) hx hb dX0_noteWithout_18 hl (k := 1) rfl (by rw [hv6]; rfl) (by decide) rfl (fun ls hl => ?_)
      refine lv_goto (tgt := 2) hx hb dX0_noteWithout_21 (by decide) ?_
      exact hk2 v6 Ch_5 _ _ _ hP hD hS (lv_sub hl [1, 0] rfl) hf
  have h2 : ∀ (n : Nat), ∀ (y1 : Int32) (Ch : ST) (H : Heap) (locs : List Loc) (ls : Array Slot), va_P D vwCl ((kX0 cs ach (.ref (are 0)) (.ref (aus 0)) Ch) ++ ((kX2 cs are (.ref (af 0)) (.ref (ac 0)) (.ref (atr 0)) (.ref (ase 0)) ) ++ ((kX1 cs af  Fo)))) H → va_D A ((kX0 cs ach (.ref (are 0)) (.ref (aus 0)) Ch) ++ ((kX2 cs are (.ref (af 0)) (.ref (ac 0)) (.ref (atr 0)) (.ref (ase 0)) ) ++ ((kX1 cs af  Fo)))) → va_S A s.heap H locs → lv_has ls 2 [(0, .ref (ach 0)), (1, .int y1)] → fX0_noteWithout_2 Fo n y1 Ch = some Chz → W p l e rmX0_noteWithout s m [.ref (ach 0)].toArray below meth c H locs 0 0 Q (F0 m 2 ls []) := by
    intro n
    induction n with
    | zero => intro y1 Ch H locs ls hP hD hS hl hf; exact no_el hf
    | succ n ih => intro y1 Ch H locs ls hP hD hS hl hf; exact hs2 _ ih y1 Ch _ _ _ hP hD hS hl hf
  have hl : lv_has ls0 2 [(0, .ref (ach 0))] := hl0
  have hP := hP0
  have hD := hD0
  have hS := hS0
  unfold fX0_noteWithout at hf
  refine lv_iconst (v := 0) hx hb dX0_noteWithout_0 (by decide) ?_
  refine lv_istore_n (lv' := [(1, .int 0), (0, .ref (ach 0))]) hx hb dX0_noteWithout_1 rfl hl (by decide) rfl (fun ls hl => ?_)
  exact h2 400 0 Ch _ _ _ hP hD hS (lv_sub hl [1, 0] rfl) hf

def fX0_moreFor (x1 : Int32) (Ch : ST) (Fo : ST) : Option Int32 :=
  dc_ck x1 10 (dc_lt (Fo 4 (Int32.toNatClampNeg x1)) (fun v2 => dc_b1 (fX0_worthFor v2 Ch Fo) (fun r3 => dc_ck v2 4 (some (r3 - (Ch 4 (Int32.toNatClampNeg v2)))))))
abbrev rmX0_moreFor : Room := { frames := 1, cells := 0, slots := 0, locals := 23 }
set_option maxRecDepth 100000 in
set_option maxHeartbeats 4000000 in
theorem tX0_moreFor (l : Launch) (D : va_G) (cs : Nat → ClassId) (ach : Nat → Nat) (are : Nat → Nat) (aus : Nat → Nat) (af : Nat → Nat) (ac : Nat → Nat) (atr : Nat → Nat) (ase : Nat → Nat) (x1 : Int32) (Ch : ST) (Fo : ST) (r0 : Int32) (hf : fX0_moreFor x1 Ch Fo = some r0) : CG l yX0_moreFor (wsm yX0_moreFor cX0_moreFor 3 (some .int)) rmX0_moreFor D cs [.ref (ach 0), .int x1] (some (.int r0)) ((kX0 cs ach (.ref (are 0)) (.ref (aus 0)) Ch) ++ ((kX2 cs are (.ref (af 0)) (.ref (ac 0)) (.ref (atr 0)) (.ref (ase 0)) ) ++ ((kX1 cs af  Fo)))) ((kX0 cs ach (.ref (are 0)) (.ref (aus 0)) Ch) ++ ((kX2 cs are (.ref (af 0)) (.ref (ac 0)) (.ref (atr 0)) (.ref (ase 0)) ) ++ ((kX1 cs af  Fo)))) := by
  refine CG.intro (by decide) (Nat.le_of_ble_eq_true rfl) ?_
  intro p e s m below meth c A Q hx hb hml hown hu hK hZ hP0 hD0 hS0 hA hri hrz hrl hrv hra ls0 hl0
  have hl : lv_has ls0 3 [(0, .ref (ach 0)), (1, .int x1)] := hl0
  have hP := hP0
  have hD := hD0
  have hS := hS0
  unfold fX0_moreFor at hf
  refine lv_aload_n hx hb dX0_moreFor_0 rfl (lv_at hl 0 rfl) ?_
  refine va_get (D := D) (ci := 0) (v := .ref (are 0)) (C := RX0) (T := TX0) (N := 8) hx hb hu inX0 hown hK.1 hP 0 rfl rfl 0 (by decide) (hu _ q222) (fun _ h9 => h9) rfl dX0_moreFor_1 ?_
  refine va_get (D := D) (ci := 2) (v := .ref (af 0)) (C := RX2) (T := TX2) (N := 4) hx hb hu inX2 hown hK.1 hP 5 rfl rfl 0 (by decide) (hu _ q195) (fun _ h9 => h9) rfl dX0_moreFor_4 ?_
  refine va_get (D := D) (ci := 1) (v := .ref (af 4)) (C := RX1) (T := TX1) (N := 9) hx hb hu inX1 hown hK.1 hP 6 rfl rfl 3 (by decide) (hu _ q101) (fun _ h9 => h9) rfl dX0_moreFor_7 ?_
  refine lv_iload_n hx hb dX0_moreFor_10 rfl (lv_at hl 1 rfl) ?_
  obtain ⟨hi1, hf⟩ := ck_el hf
  refine va_iald hx hb hK.1 hP 9 0 rfl rfl hi1 dX0_moreFor_11 ?_
  obtain ⟨v2, hv2, hf⟩ := lt_el hf
  refine lv_tope hv2 ?_
  refine lv_istore_n (lv' := [(2, .int v2), (0, .ref (ach 0)), (1, .int x1)]) hx hb dX0_moreFor_12 rfl hl (by decide) rfl (fun ls hl => ?_)
  refine lv_aload_n hx hb dX0_moreFor_13 rfl (lv_at hl 1 rfl) ?_
  refine lv_iload_n hx hb dX0_moreFor_14 rfl (lv_at hl 0 rfl) ?_
  obtain ⟨r3, hg4, hf⟩ := b1_el hf
  refine cc_V1 (w' := ((kX0 cs ach (.ref (are 0)) (.ref (aus 0)) Ch) ++ ((kX2 cs are (.ref (af 0)) (.ref (ac 0)) (.ref (atr 0)) (.ref (ase 0)) ) ++ ((kX1 cs af  Fo))))) (st1 := [.int r3]) [.int v2] hx hb hml hown hu (tX0_worthFor l D cs ach are aus af ac atr ase v2 Ch Fo r3 hg4) q613 q59 q634 q611 q612 pdX0_worthFor ⟨rfl, rfl, Nat.le_of_ble_eq_true rfl, Nat.le_of_ble_eq_true rfl⟩ hK hZ hP hD hS hA rfl rfl rfl rfl hl.1 rfl (Nat.le_of_ble_eq_true rfl) dX0_moreFor_15 rfl (fun H locs hP hD hS => ?_)
  refine lv_aload_n hx hb dX0_moreFor_18 rfl (lv_at hl 1 rfl) ?_
  refine va_get (D := D) (ci := 0) (v := .ref (ach 4)) (C := RX0) (T := TX0) (N := 8) hx hb hu inX0 hown hK.1 hP 0 rfl rfl 3 (by decide) (hu _ q227) (fun _ h9 => h9) rfl dX0_moreFor_19 ?_
  refine lv_iload_n hx hb dX0_moreFor_22 rfl (lv_at hl 0 rfl) ?_
  obtain ⟨hi5, hf⟩ := ck_el hf
  refine va_iald hx hb hK.1 hP 2 0 rfl rfl hi5 dX0_moreFor_23 ?_
  refine lv_isub hx hb dX0_moreFor_24 ?_
  have he := Option.some.inj hf
  have e0 := he
  exact hri _ _ _ rfl (congrArg (fun z => some (Value.int z)) e0.symm) dX0_moreFor_25 _ _ _ rfl hP hD hS

def fX5_isMissing (Gs : ST) : Option Int32 :=
  (if (Gs 0 0) = 0 then some 1 else some 0)
abbrev rmX5_isMissing : Room := { frames := 0, cells := 0, slots := 0, locals := 0 }
set_option maxRecDepth 100000 in
set_option maxHeartbeats 4000000 in
theorem tX5_isMissing (l : Launch) (D : va_G) (cs : Nat → ClassId) (ags : Nat → Nat) (ans : Nat → Nat) (Gs : ST) (r0 : Int32) (hf : fX5_isMissing Gs = some r0) : CG l yX5_isMissing (wsm yX5_isMissing cX5_isMissing 1 (some .boolean)) rmX5_isMissing D cs [.ref (ags 0)] (some (.int r0)) (kX5 cs ags (.ref (ans 0)) Gs) (kX5 cs ags (.ref (ans 0)) Gs) := by
  refine CG.intro (by decide) (Nat.le_of_ble_eq_true rfl) ?_
  intro p e s m below meth c A Q hx hb hml hown hu hK hZ hP0 hD0 hS0 hA hri hrz hrl hrv hra ls0 hl0
  have hl : lv_has ls0 1 [(0, .ref (ags 0))] := hl0
  have hP := hP0
  have hD := hD0
  have hS := hS0
  unfold fX5_isMissing at hf
  refine lv_aload_n hx hb dX5_isMissing_0 rfl (lv_at hl 0 rfl) ?_
  refine va_get (D := D) (ci := 5) (v := .int (Gs 0 0)) (C := RX5) (T := TX5) (N := 3) hx hb hu inX5 hown hK.1 hP 0 rfl rfl 0 (by decide) (hu _ q286) (fun _ h9 => h9) rfl dX5_isMissing_1 ?_
  refine lv_if_ne (tgt := 11) hx hb dX5_isMissing_4 (by decide) (fun hc1 => ?_) (fun hc1 => ?_)
  · have hf := in_el hc1 hf
    refine lv_iconst (v := 0) hx hb dX5_isMissing_11 (by decide) ?_
    have he := Option.some.inj hf
    have e0 := he
    exact hrz _ _ _ .boolean rfl rfl (congrArg (fun z => some (Value.int z)) e0.symm) dX5_isMissing_12 _ _ _ rfl hP hD hS
  · have hf := ip_el hc1 hf
    refine lv_iconst (v := 1) hx hb dX5_isMissing_7 (by decide) ?_
    refine lv_goto (tgt := 12) hx hb dX5_isMissing_8 (by decide) ?_
    have he := Option.some.inj hf
    have e0 := he
    exact hrz _ _ _ .boolean rfl rfl (congrArg (fun z => some (Value.int z)) e0.symm) dX5_isMissing_12 _ _ _ rfl hP hD hS

def fX5_lowest (x1 : Int64) (Gs : ST) : Option Int64 :=
  (if (Gs 0 0) = 8 then some (((x1.toInt32).toInt8.toInt32).toInt64) else (if (Gs 0 0) = 16 then some (((x1.toInt32).toInt16.toInt32).toInt64) else some x1))
abbrev rmX5_lowest : Room := { frames := 0, cells := 0, slots := 0, locals := 0 }
set_option maxRecDepth 100000 in
set_option maxHeartbeats 4000000 in
theorem tX5_lowest (l : Launch) (D : va_G) (cs : Nat → ClassId) (ags : Nat → Nat) (ans : Nat → Nat) (x1 : Int64) (Gs : ST) (r0 : Int64) (hf : fX5_lowest x1 Gs = some r0) : CG l yX5_lowest (wsm yX5_lowest cX5_lowest 3 (some .long)) rmX5_lowest D cs [.ref (ags 0), .long x1] (some (.long r0)) (kX5 cs ags (.ref (ans 0)) Gs) (kX5 cs ags (.ref (ans 0)) Gs) := by
  refine CG.intro (by decide) (Nat.le_of_ble_eq_true rfl) ?_
  intro p e s m below meth c A Q hx hb hml hown hu hK hZ hP0 hD0 hS0 hA hri hrz hrl hrv hra ls0 hl0
  have hl : lv_has ls0 3 [(0, .ref (ags 0)), (1, .long x1)] := hl0
  have hP := hP0
  have hD := hD0
  have hS := hS0
  unfold fX5_lowest at hf
  refine lv_aload_n hx hb dX5_lowest_0 rfl (lv_at hl 0 rfl) ?_
  refine va_get (D := D) (ci := 5) (v := .int (Gs 0 0)) (C := RX5) (T := TX5) (N := 3) hx hb hu inX5 hown hK.1 hP 0 rfl rfl 0 (by decide) (hu _ q286) (fun _ h9 => h9) rfl dX5_lowest_1 ?_
  refine lv_bipush (v := 8) hx hb dX5_lowest_4 (by decide) ?_
  refine lv_icmp_ne (tgt := 16) hx hb dX5_lowest_6 (by decide) (fun hc1 => ?_) (fun hc1 => ?_)
  · have hf := in_el hc1 hf
    refine lv_aload_n hx hb dX5_lowest_16 rfl (lv_at hl 0 rfl) ?_
    refine va_get (D := D) (ci := 5) (v := .int (Gs 0 0)) (C := RX5) (T := TX5) (N := 3) hx hb hu inX5 hown hK.1 hP 0 rfl rfl 0 (by decide) (hu _ q286) (fun _ h9 => h9) rfl dX5_lowest_17 ?_
    refine lv_bipush (v := 16) hx hb dX5_lowest_20 (by decide) ?_
    refine lv_icmp_ne (tgt := 32) hx hb dX5_lowest_22 (by decide) (fun hc2 => ?_) (fun hc2 => ?_)
    · have hf := in_el hc2 hf
      refine lv_lload_n hx hb dX5_lowest_32 rfl (lv_at hl 1 rfl) ?_
      have he := Option.some.inj hf
      have e0 := he
      exact hrl _ _ _ rfl (congrArg (fun z => some (Value.long z)) e0.symm) dX5_lowest_33 _ _ _ rfl hP hD hS
    · have hf := ip_el hc2 hf
      refine lv_lload_n hx hb dX5_lowest_25 rfl (lv_at hl 1 rfl) ?_
      refine lv_l2i (v := (x1.toInt32)) hx hb dX5_lowest_26 rfl ?_
      refine lv_i2s (v := ((x1.toInt32).toInt16.toInt32)) hx hb dX5_lowest_27 rfl ?_
      refine lv_i2l (v := (((x1.toInt32).toInt16.toInt32).toInt64)) hx hb dX5_lowest_28 rfl ?_
      refine lv_goto (tgt := 33) hx hb dX5_lowest_29 (by decide) ?_
      have he := Option.some.inj hf
      have e0 := he
      exact hrl _ _ _ rfl (congrArg (fun z => some (Value.long z)) e0.symm) dX5_lowest_33 _ _ _ rfl hP hD hS
  · have hf := ip_el hc1 hf
    refine lv_lload_n hx hb dX5_lowest_9 rfl (lv_at hl 1 rfl) ?_
    refine lv_l2i (v := (x1.toInt32)) hx hb dX5_lowest_10 rfl ?_
    refine lv_i2b (v := ((x1.toInt32).toInt8.toInt32)) hx hb dX5_lowest_11 rfl ?_
    refine lv_i2l (v := (((x1.toInt32).toInt8.toInt32).toInt64)) hx hb dX5_lowest_12 rfl ?_
    refine lv_goto (tgt := 33) hx hb dX5_lowest_13 (by decide) ?_
    have he := Option.some.inj hf
    have e0 := he
    exact hrl _ _ _ rfl (congrArg (fun z => some (Value.long z)) e0.symm) dX5_lowest_33 _ _ _ rfl hP hD hS

def fX5_holds (x1 : Int32) (x2 : Int32) (Gs : ST) : Option Int32 :=
  (if x1 < 0 then some 0 else (if x2 < 0 then some 0 else (if 0 < (lg_cmp ((x1.toInt64) + (x2.toInt64)) ((Gs 0 1).toInt64)) then some 0 else some 1)))
abbrev rmX5_holds : Room := { frames := 0, cells := 0, slots := 0, locals := 0 }
set_option maxRecDepth 100000 in
set_option maxHeartbeats 4000000 in
theorem tX5_holds (l : Launch) (D : va_G) (cs : Nat → ClassId) (ags : Nat → Nat) (ans : Nat → Nat) (x1 : Int32) (x2 : Int32) (Gs : ST) (r0 : Int32) (hf : fX5_holds x1 x2 Gs = some r0) : CG l yX5_holds (wsm yX5_holds cX5_holds 3 (some .boolean)) rmX5_holds D cs [.ref (ags 0), .int x1, .int x2] (some (.int r0)) (kX5 cs ags (.ref (ans 0)) Gs) (kX5 cs ags (.ref (ans 0)) Gs) := by
  refine CG.intro (by decide) (Nat.le_of_ble_eq_true rfl) ?_
  intro p e s m below meth c A Q hx hb hml hown hu hK hZ hP0 hD0 hS0 hA hri hrz hrl hrv hra ls0 hl0
  have hl : lv_has ls0 3 [(0, .ref (ags 0)), (1, .int x1), (2, .int x2)] := hl0
  have hP := hP0
  have hD := hD0
  have hS := hS0
  unfold fX5_holds at hf
  refine lv_iload_n hx hb dX5_holds_0 rfl (lv_at hl 1 rfl) ?_
  refine lv_if_lt (tgt := 26) hx hb dX5_holds_1 (by decide) (fun hc1 => ?_) (fun hc1 => ?_)
  · have hf := ip_el hc1 hf
    refine lv_iconst (v := 0) hx hb dX5_holds_26 (by decide) ?_
    have he := Option.some.inj hf
    have e0 := he
    exact hrz _ _ _ .boolean rfl rfl (congrArg (fun z => some (Value.int z)) e0.symm) dX5_holds_27 _ _ _ rfl hP hD hS
  · have hf := in_el hc1 hf
    refine lv_iload_n hx hb dX5_holds_4 rfl (lv_at hl 2 rfl) ?_
    refine lv_if_lt (tgt := 26) hx hb dX5_holds_5 (by decide) (fun hc2 => ?_) (fun hc2 => ?_)
    · have hf := ip_el hc2 hf
      refine lv_iconst (v := 0) hx hb dX5_holds_26 (by decide) ?_
      have he := Option.some.inj hf
      have e0 := he
      exact hrz _ _ _ .boolean rfl rfl (congrArg (fun z => some (Value.int z)) e0.symm) dX5_holds_27 _ _ _ rfl hP hD hS
    · have hf := in_el hc2 hf
      refine lv_iload_n hx hb dX5_holds_8 rfl (lv_at hl 1 rfl) ?_
      refine lv_i2l (v := (x1.toInt64)) hx hb dX5_holds_9 rfl ?_
      refine lv_iload_n hx hb dX5_holds_10 rfl (lv_at hl 2 rfl) ?_
      refine lv_i2l (v := (x2.toInt64)) hx hb dX5_holds_11 rfl ?_
      refine lv_ladd hx hb dX5_holds_12 ?_
      refine lv_aload_n hx hb dX5_holds_13 rfl (lv_at hl 0 rfl) ?_
      refine va_get (D := D) (ci := 5) (v := .int (Gs 0 1)) (C := RX5) (T := TX5) (N := 3) hx hb hu inX5 hown hK.1 hP 0 rfl rfl 1 (by decide) (hu _ q288) (fun _ h9 => h9) rfl dX5_holds_14 ?_
      refine lv_i2l (v := ((Gs 0 1).toInt64)) hx hb dX5_holds_17 rfl ?_
      refine W.lcmp hx hb dX5_holds_18 ?_
      refine lv_if_gt (tgt := 26) hx hb dX5_holds_19 (by decide) (fun hc3 => ?_) (fun hc3 => ?_)
      · have hf := ip_el hc3 hf
        refine lv_iconst (v := 0) hx hb dX5_holds_26 (by decide) ?_
        have he := Option.some.inj hf
        have e0 := he
        exact hrz _ _ _ .boolean rfl rfl (congrArg (fun z => some (Value.int z)) e0.symm) dX5_holds_27 _ _ _ rfl hP hD hS
      · have hf := in_el hc3 hf
        refine lv_iconst (v := 1) hx hb dX5_holds_22 (by decide) ?_
        refine lv_goto (tgt := 27) hx hb dX5_holds_23 (by decide) ?_
        have he := Option.some.inj hf
        have e0 := he
        exact hrz _ _ _ .boolean rfl rfl (congrArg (fun z => some (Value.int z)) e0.symm) dX5_holds_27 _ _ _ rfl hP hD hS

def fX5_lay (x1 : Int32) (x2 : Int32) (Gs : ST) (Ns : LT) : Option (ST × LT) :=
  dc_lt (sti Gs 0 0 x1) (fun Gs_1 => dc_lt (sti Gs_1 0 1 x2) (fun Gs_2 => dc_b1 (fJ7_fill_d0a16 0 Ns) (fun Ns_3 => some (Gs_2, Ns_3))))
abbrev rmX5_lay : Room := { frames := 1, cells := 0, slots := 0, locals := 24 }
set_option maxRecDepth 100000 in
set_option maxHeartbeats 4000000 in
theorem tX5_lay (l : Launch) (D : va_G) (cs : Nat → ClassId) (ags : Nat → Nat) (ans : Nat → Nat) (x1 : Int32) (x2 : Int32) (Gs : ST) (Ns : LT) (Gsz : ST) (Nsz : LT) (hf : fX5_lay x1 x2 Gs Ns = some (Gsz, Nsz)) : CG l yX5_lay (wsm yX5_lay cX5_lay 3 none) rmX5_lay D cs [.ref (ags 0), .int x1, .int x2] none ((kX5 cs ags (.ref (ans 0)) Gs) ++ ((kJ40 cs ans Ns))) ((kX5 cs ags (.ref (ans 0)) Gsz) ++ ((kJ40 cs ans Nsz))) := by
  refine CG.intro (by decide) (Nat.le_of_ble_eq_true rfl) ?_
  intro p e s m below meth c A Q hx hb hml hown hu hK hZ hP0 hD0 hS0 hA hri hrz hrl hrv hra ls0 hl0
  have hl : lv_has ls0 3 [(0, .ref (ags 0)), (1, .int x1), (2, .int x2)] := hl0
  have hP := hP0
  have hD := hD0
  have hS := hS0
  unfold fX5_lay at hf
  refine lv_aload_n hx hb dX5_lay_0 rfl (lv_at hl 0 rfl) ?_
  refine lv_iload_n hx hb dX5_lay_1 rfl (lv_at hl 1 rfl) ?_
  obtain ⟨Gs_1, hGs_1, hf⟩ := lt_el hf
  refine va_put (D := D) (ci := 5) (v := .int x1) (ty := .int) (C := RX5) (T := TX5) (N := 3) hx hb hu inX5 tyX5 tyX5_ok nmX5 hown hK.1 hP hD hS 0 rfl rfl 0 (by decide) (hu _ q286) (fun _ h9 => h9) rfl (by decide +kernel) rfl rfl (Nat.le_of_ble_eq_true rfl) dX5_lay_2 (fun H locs hP hD hS => ?_)
  have hP : va_P D vwCl ((kX5 cs ags (.ref (ans 0)) Gs_1) ++ ((kJ40 cs ans Ns))) H := by rw [hGs_1]; exact hP
  have hD : va_D A ((kX5 cs ags (.ref (ans 0)) Gs_1) ++ ((kJ40 cs ans Ns))) := by rw [hGs_1]; exact hD
  refine lv_aload_n hx hb dX5_lay_5 rfl (lv_at hl 0 rfl) ?_
  refine lv_iload_n hx hb dX5_lay_6 rfl (lv_at hl 2 rfl) ?_
  obtain ⟨Gs_2, hGs_2, hf⟩ := lt_el hf
  refine va_put (D := D) (ci := 5) (v := .int x2) (ty := .int) (C := RX5) (T := TX5) (N := 3) hx hb hu inX5 tyX5 tyX5_ok nmX5 hown hK.1 hP hD hS 0 rfl rfl 1 (by decide) (hu _ q288) (fun _ h9 => h9) rfl (by decide +kernel) rfl rfl (Nat.le_of_ble_eq_true rfl) dX5_lay_7 (fun H locs hP hD hS => ?_)
  have hP : va_P D vwCl ((kX5 cs ags (.ref (ans 0)) Gs_2) ++ ((kJ40 cs ans Ns))) H := by rw [hGs_2]; exact hP
  have hD : va_D A ((kX5 cs ags (.ref (ans 0)) Gs_2) ++ ((kJ40 cs ans Ns))) := by rw [hGs_2]; exact hD
  refine lv_aload_n hx hb dX5_lay_10 rfl (lv_at hl 0 rfl) ?_
  refine va_get (D := D) (ci := 5) (v := .ref (ans 0)) (C := RX5) (T := TX5) (N := 3) hx hb hu inX5 hown hK.1 hP 0 rfl rfl 2 (by decide) (hu _ q290) (fun _ h9 => h9) rfl dX5_lay_11 ?_
  refine lv_lconst (v := 0) hx hb dX5_lay_14 (by decide) ?_
  obtain ⟨Ns_3, hg4, hf⟩ := b1_el hf
  refine cc_S (w' := ((kX5 cs ags (.ref (ans 0)) Gs_2) ++ ((kJ40 cs ans Ns_3)))) (wr := (kX5 cs ags (.ref (ans 0)) Gs_2)) (st1 := []) [.ref (ans 0), .long 0] hx hb hml hown hu (tJ7_fill_d0a16 l D cs ans 0 Ns Ns_3 hg4) q852 q64 q850 q851 pdJ7_fill_d0a16 ⟨rfl, rfl, Nat.le_of_ble_eq_true rfl, Nat.le_of_ble_eq_true rfl⟩ hK hZ hP hD hS hA [1] [0] [0, 1] rfl rfl rfl rfl rfl rfl rfl rfl hl.1 rfl (Nat.le_of_ble_eq_true rfl) dX5_lay_15 rfl (fun H locs hP hD hS => ?_)
  have he := Option.some.inj hf
  obtain ⟨e0, e1⟩ := Prod.mk.inj he
  exact hrv _ _ rfl rfl dX5_lay_18 _ _ _ (by rw [e0, e1]) hP hD hS
