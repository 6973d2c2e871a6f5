def fX7_feed_41_s (k41 : Int32 → Int32 → ST → ST → Option (Int32 × ST × ST)) (y1 : Int32) (y3 : Int32) (Ma : ST) (Ta : ST) : Option (Int32 × ST × ST) :=
  (if y3 < 0 then some ((Ta 0 2), Ma, Ta) else dc_b1 (fX6_put ((dc_ushr y1 (8 * y3)) &&& 255) Ta) (fun Ta_7 => dc_lt (y3 + (-1)) (fun v9 => k41 y1 v9 Ma Ta_7)))
def fX7_feed_41 : Nat → Int32 → Int32 → ST → ST → Option (Int32 × ST × ST)
  | 0 => fun _ _ _ _ => none
  | n + 1 => fX7_feed_41_s (fX7_feed_41 n)
def fX7_feed (x1 : Int32) (x2 : Int32) (Ma : ST) (Ta : ST) : Option (Int32 × ST × ST) :=
  dc_b1 (fX7_within x2 1 4) (fun r1 => (if r1 = 0 then dc_b2 (fX7_finding (-1000000001) Ma) (fun r13 Ma_14 => some (r13, Ma_14, Ta)) else (if ((Ta 0 2) + x2) ≤ 80 then dc_lt (x2 - 1) (fun v5 => fX7_feed_41 400 x1 v5 Ma Ta) else dc_b2 (fX7_finding (-1000000002) Ma) (fun r10 Ma_11 => some (r10, Ma_11, Ta)))))
abbrev rmX7_feed : Room := { frames := 1, cells := 0, slots := 0, locals := 22 }
set_option maxRecDepth 100000 in
set_option maxHeartbeats 4000000 in
theorem tX7_feed (l : Launch) (D : va_G) (cs : Nat → ClassId) (ama : Nat → Nat) (are : Nat → Nat) (are2 : Nat → Nat) (are3 : Nat → Nat) (ach : Nat → Nat) (ata : Nat → Nat) (asa : Nat → Nat) (adr : Nat → Nat) (x1 : Int32) (x2 : Int32) (Ma : ST) (Ta : ST) (r0 : Int32) (Maz : ST) (Taz : ST) (hf : fX7_feed x1 x2 Ma Ta = some (r0, Maz, Taz)) : CG l yX7_feed (wsm yX7_feed cX7_feed 4 (some .int)) rmX7_feed D cs [.ref (ama 0), .int x1, .int x2] (some (.int r0)) ((kX7 cs ama (.ref (are 0)) (.ref (are2 0)) (.ref (are3 0)) (.ref (ach 0)) (.ref (ata 0)) (.ref (asa 0)) Ma) ++ ((kX6 cs ata (.ref (adr 0)) Ta))) ((kX7 cs ama (.ref (are 0)) (.ref (are2 0)) (.ref (are3 0)) (.ref (ach 0)) (.ref (ata 0)) (.ref (asa 0)) Maz) ++ ((kX6 cs ata (.ref (adr 0)) Taz))) := by
  refine CG.intro (by decide) (Nat.le_of_ble_eq_true rfl) ?_
  intro p e s m below meth c A Q hx hb hml hown hu hK hZ hP0 hD0 hS0 hA hri hrz hrl hrv hra ls0 hl0
  have hs41 : ∀ (k41 : Int32 → Int32 → ST → ST → Option (Int32 × ST × ST)), (∀ (y1 : Int32) (y3 : Int32) (Ma : ST) (Ta : ST) (H : Heap) (locs : List Loc) (ls : Array Slot), va_P D vwCl ((kX7 cs ama (.ref (are 0)) (.ref (are2 0)) (.ref (are3 0)) (.ref (ach 0)) (.ref (ata 0)) (.ref (asa 0)) Ma) ++ ((kX6 cs ata (.ref (adr 0)) Ta))) H → va_D A ((kX7 cs ama (.ref (are 0)) (.ref (are2 0)) (.ref (are3 0)) (.ref (ach 0)) (.ref (ata 0)) (.ref (asa 0)) Ma) ++ ((kX6 cs ata (.ref (adr 0)) Ta))) → va_S A s.heap H locs → lv_has ls 4 [(0, .ref (ama 0)), (1, .int y1), (3, .int y3)] → k41 y1 y3 Ma Ta = some (r0, Maz, Taz) → W p l e rmX7_feed s m [.ref (ama 0), .int x1, .int x2].toArray below meth c H locs 0 0 Q (F0 m 41 ls [])) → ∀ (y1 : Int32) (y3 : Int32) (Ma : ST) (Ta : ST) (H : Heap) (locs : List Loc) (ls : Array Slot), va_P D vwCl ((kX7 cs ama (.ref (are 0)) (.ref (are2 0)) (.ref (are3 0)) (.ref (ach 0)) (.ref (ata 0)) (.ref (asa 0)) Ma) ++ ((kX6 cs ata (.ref (adr 0)) Ta))) H → va_D A ((kX7 cs ama (.ref (are 0)) (.ref (are2 0)) (.ref (are3 0)) (.ref (ach 0)) (.ref (ata 0)) (.ref (asa 0)) Ma) ++ ((kX6 cs ata (.ref (adr 0)) Ta))) → va_S A s.heap H locs → lv_has ls 4 [(0, .ref (ama 0)), (1, .int y1), (3, .int y3)] → fX7_feed_41_s k41 y1 y3 Ma Ta = some (r0, Maz, Taz) → W p l e rmX7_feed s m [.ref (ama 0), .int x1, .int x2].toArray below meth c H locs 0 0 Q (F0 m 41 ls []) := by
    intro k41 hk41 y1 y3 Ma Ta H locs ls hP hD hS hl hf
    unfold fX7_feed_41_s at hf
    refine lv_iload_n hx hb dX7_feed_41 rfl (lv_at hl 2 rfl) ?_
    refine lv_if_lt (tgt := 68) hx hb dX7_feed_42 (by decide) (fun hc6 => ?_) (fun hc6 => ?_)
    · have hf := ip_el hc6 hf
      refine lv_aload_n hx hb dX7_feed_68 rfl (lv_at hl 0 rfl) ?_
      refine va_get (D := D) (ci := 7) (v := .ref (ata 0)) (C := RX7) (T := TX7) (N := 8) hx hb hu inX7 hown hK.1 hP 0 rfl rfl 4 (by decide) (hu _ q304) (fun _ h9 => h9) rfl dX7_feed_69 ?_
      refine va_get (D := D) (ci := 6) (v := .int (Ta 0 2)) (C := RX6) (T := TX6) (N := 5) hx hb hu inX6 hown hK.1 hP 2 rfl rfl 2 (by decide) (hu _ q263) (fun _ h9 => h9) rfl dX7_feed_72 ?_
      have he := Option.some.inj hf
      obtain ⟨e0, ht0⟩ := Prod.mk.inj he
      obtain ⟨e1, e2⟩ := Prod.mk.inj ht0
      exact hri _ _ _ rfl (congrArg (fun z => some (Value.int z)) e0.symm) dX7_feed_75 _ _ _ (by rw [e1, e2]) hP hD hS
    · have hf := in_el hc6 hf
      refine lv_aload_n hx hb dX7_feed_45 rfl (lv_at hl 0 rfl) ?_
      refine va_get (D := D) (ci := 7) (v := .ref (ata 0)) (C := RX7) (T := TX7) (N := 8) hx hb hu inX7 hown hK.1 hP 0 rfl rfl 4 (by decide) (hu _ q304) (fun _ h9 => h9) rfl dX7_feed_46 ?_
      refine lv_iload_n hx hb dX7_feed_49 rfl (lv_at hl 1 rfl) ?_
      refine lv_bipush (v := 8) hx hb dX7_feed_50 (by decide) ?_
      refine lv_iload_n hx hb dX7_feed_52 rfl (lv_at hl 2 rfl) ?_
      refine lv_imul hx hb dX7_feed_53 ?_
      refine lv_iushr (v := (dc_ushr y1 (8 * y3))) hx hb dX7_feed_54 rfl ?_
      refine lv_sipush (v := 255) hx hb dX7_feed_55 (by decide) ?_
      refine lv_iand hx hb dX7_feed_58 ?_
      obtain ⟨Ta_7, hg8, hf⟩ := b1_el hf
      refine cc_V (w' := ((kX7 cs ama (.ref (are 0)) (.ref (are2 0)) (.ref (are3 0)) (.ref (ach 0)) (.ref (ata 0)) (.ref (asa 0)) Ma) ++ ((kX6 cs ata (.ref (adr 0)) Ta_7)))) (wr := (kX7 cs ama (.ref (are 0)) (.ref (are2 0)) (.ref (are3 0)) (.ref (ach 0)) (.ref (ata 0)) (.ref (asa 0)) Ma)) (st1 := []) [.int ((dc_ushr y1 (8 * y3)) &&& 255)] hx hb hml hown hu (tX6_put l D cs ata adr ((dc_ushr y1 (8 * y3)) &&& 255) Ta Ta_7 hg8) q677 q60 q674 q675 q676 pdX6_put ⟨rfl, rfl, Nat.le_of_ble_eq_true rfl, Nat.le_of_ble_eq_true rfl⟩ hK hZ hP hD hS hA [2, 3] [0, 1] [0, 1, 2, 3] rfl rfl rfl rfl rfl rfl rfl rfl rfl rfl hl.1 rfl (Nat.le_of_ble_eq_true rfl) dX7_feed_59 rfl (fun H locs hP hD hS => ?_)
      obtain ⟨v9, hv9, hf⟩ := lt_el hf
      refine lv_iinc (v := v9) (lv' := [(3, .int v9), (0, .ref (ama 0)), (1, .int y1)]) hx hb dX7_feed_62 hl (k := 2) rfl (by rw [hv9]; rfl) (by decide) rfl (fun ls hl => ?_)
      refine lv_goto (tgt := 41) hx hb dX7_feed_65 (by decide) ?_
      exact hk41 y1 v9 Ma Ta_7 _ _ _ hP hD hS (lv_sub hl [1, 2, 0] rfl) hf
  have h41 : ∀ (n : Nat), ∀ (y1 : Int32) (y3 : Int32) (Ma : ST) (Ta : ST) (H : Heap) (locs : List Loc) (ls : Array Slot), va_P D vwCl ((kX7 cs ama (.ref (are 0)) (.ref (are2 0)) (.ref (are3 0)) (.ref (ach 0)) (.ref (ata 0)) (.ref (asa 0)) Ma) ++ ((kX6 cs ata (.ref (adr 0)) Ta))) H → va_D A ((kX7 cs ama (.ref (are 0)) (.ref (are2 0)) (.ref (are3 0)) (.ref (ach 0)) (.ref (ata 0)) (.ref (asa 0)) Ma) ++ ((kX6 cs ata (.ref (adr 0)) Ta))) → va_S A s.heap H locs → lv_has ls 4 [(0, .ref (ama 0)), (1, .int y1), (3, .int y3)] → fX7_feed_41 n y1 y3 Ma Ta = some (r0, Maz, Taz) → W p l e rmX7_feed s m [.ref (ama 0), .int x1, .int x2].toArray below meth c H locs 0 0 Q (F0 m 41 ls []) := by
    intro n
    induction n with
    | zero => intro y1 y3 Ma Ta H locs ls hP hD hS hl hf; exact no_el hf
    | succ n ih => intro y1 y3 Ma Ta H locs ls hP hD hS hl hf; exact hs41 _ ih y1 y3 Ma Ta _ _ _ hP hD hS hl hf
  have hl : lv_has ls0 4 [(0, .ref (ama 0)), (1, .int x1), (2, .int x2)] := hl0
  have hP := hP0
  have hD := hD0
  have hS := hS0
  unfold fX7_feed at hf
  refine lv_iload_n hx hb dX7_feed_0 rfl (lv_at hl 2 rfl) ?_
  refine lv_iconst (v := 1) hx hb dX7_feed_1 (by decide) ?_
  refine lv_iconst (v := 4) hx hb dX7_feed_2 (by decide) ?_
  obtain ⟨r1, hg2, hf⟩ := b1_el hf
  refine cc_S0 (st1 := [.int r1]) [.int x2, .int 1, .int 4] hx hb hml hown hu (tX7_within l D cs x2 1 4 r1 hg2) q331 q54 q329 q330 pdX7_within ⟨rfl, rfl, Nat.le_of_ble_eq_true rfl, Nat.le_of_ble_eq_true rfl⟩ hK hZ hP hD hS hA rfl hl.1 rfl (Nat.le_of_ble_eq_true rfl) dX7_feed_3 rfl (fun H locs hP hD hS => ?_)
  refine lv_if_ne (tgt := 16) hx hb dX7_feed_6 (by decide) (fun hc3 => ?_) (fun hc3 => ?_)
  · have hf := in_el hc3 hf
    refine lv_aload_n hx hb dX7_feed_16 rfl (lv_at hl 0 rfl) ?_
    refine va_get (D := D) (ci := 7) (v := .ref (ata 0)) (C := RX7) (T := TX7) (N := 8) hx hb hu inX7 hown hK.1 hP 0 rfl rfl 4 (by decide) (hu _ q304) (fun _ h9 => h9) rfl dX7_feed_17 ?_
    refine va_get (D := D) (ci := 6) (v := .int (Ta 0 2)) (C := RX6) (T := TX6) (N := 5) hx hb hu inX6 hown hK.1 hP 2 rfl rfl 2 (by decide) (hu _ q263) (fun _ h9 => h9) rfl dX7_feed_20 ?_
    refine lv_iload_n hx hb dX7_feed_23 rfl (lv_at hl 2 rfl) ?_
    refine lv_iadd hx hb dX7_feed_24 ?_
    refine lv_bipush (v := 80) hx hb dX7_feed_25 (by decide) ?_
    refine lv_icmp_le (tgt := 37) hx hb dX7_feed_27 (by decide) (fun hc4 => ?_) (fun hc4 => ?_)
    · have hf := ip_el hc4 hf
      refine lv_iload_n hx hb dX7_feed_37 rfl (lv_at hl 2 rfl) ?_
      refine lv_iconst (v := 1) hx hb dX7_feed_38 (by decide) ?_
      refine lv_isub hx hb dX7_feed_39 ?_
      obtain ⟨v5, hv5, hf⟩ := lt_el hf
      refine lv_tope hv5 ?_
      refine lv_istore_n (lv' := [(3, .int v5), (0, .ref (ama 0)), (1, .int x1), (2, .int x2)]) hx hb dX7_feed_40 rfl hl (by decide) rfl (fun ls hl => ?_)
      exact h41 400 x1 v5 Ma Ta _ _ _ hP hD hS (lv_sub hl [1, 2, 0] rfl) hf
    · have hf := in_el hc4 hf
      refine lv_aload_n hx hb dX7_feed_30 rfl (lv_at hl 0 rfl) ?_
      refine lv_ldc (v := (-1000000002)) hx hb hown (hu _ q340) dX7_feed_31 ?_
      obtain ⟨r10, Ma_11, hg12, hf⟩ := b2_el hf
      refine cc_V (w' := ((kX7 cs ama (.ref (are 0)) (.ref (are2 0)) (.ref (are3 0)) (.ref (ach 0)) (.ref (ata 0)) (.ref (asa 0)) Ma_11) ++ ((kX6 cs ata (.ref (adr 0)) Ta)))) (wr := (kX6 cs ata (.ref (adr 0)) Ta)) (st1 := [.int r10]) [.int (-1000000002)] hx hb hml hown hu (tX7_finding l D cs ama are are2 are3 ach ata asa (-1000000002) Ma r10 Ma_11 hg12) q339 q54 q336 q338 q0 pdX7_finding ⟨rfl, rfl, Nat.le_of_ble_eq_true rfl, Nat.le_of_ble_eq_true rfl⟩ hK hZ hP hD hS hA [0, 1] [2, 3] [2, 3, 0, 1] rfl rfl rfl rfl rfl rfl rfl rfl rfl rfl hl.1 rfl (Nat.le_of_ble_eq_true rfl) dX7_feed_33 rfl (fun H locs hP hD hS => ?_)
      have he := Option.some.inj hf
      obtain ⟨e0, ht0⟩ := Prod.mk.inj he
      obtain ⟨e1, e2⟩ := Prod.mk.inj ht0
      exact hri _ _ _ rfl (congrArg (fun z => some (Value.int z)) e0.symm) dX7_feed_36 _ _ _ (by rw [e1, e2]) hP hD hS
  · have hf := ip_el hc3 hf
    refine lv_aload_n hx hb dX7_feed_9 rfl (lv_at hl 0 rfl) ?_
    refine lv_ldc (v := (-1000000001)) hx hb hown (hu _ q335) dX7_feed_10 ?_
    obtain ⟨r13, Ma_14, hg15, hf⟩ := b2_el hf
    refine cc_V (w' := ((kX7 cs ama (.ref (are 0)) (.ref (are2 0)) (.ref (are3 0)) (.ref (ach 0)) (.ref (ata 0)) (.ref (asa 0)) Ma_14) ++ ((kX6 cs ata (.ref (adr 0)) Ta)))) (wr := (kX6 cs ata (.ref (adr 0)) Ta)) (st1 := [.int r13]) [.int (-1000000001)] hx hb hml hown hu (tX7_finding l D cs ama are are2 are3 ach ata asa (-1000000001) Ma r13 Ma_14 hg15) q339 q54 q336 q338 q0 pdX7_finding ⟨rfl, rfl, Nat.le_of_ble_eq_true rfl, Nat.le_of_ble_eq_true rfl⟩ hK hZ hP hD hS hA [0, 1] [2, 3] [2, 3, 0, 1] rfl rfl rfl rfl rfl rfl rfl rfl rfl rfl hl.1 rfl (Nat.le_of_ble_eq_true rfl) dX7_feed_12 rfl (fun H locs hP hD hS => ?_)
    have he := Option.some.inj hf
    obtain ⟨e0, ht0⟩ := Prod.mk.inj he
    obtain ⟨e1, e2⟩ := Prod.mk.inj ht0
    exact hri _ _ _ rfl (congrArg (fun z => some (Value.int z)) e0.symm) dX7_feed_15 _ _ _ (by rw [e1, e2]) hP hD hS

def fX7_wipe (Ma : ST) (Ta : ST) : Option (Int32 × ST) :=
  dc_lt (Ta 0 2) (fun v1 => dc_lt (sti Ta 0 2 0) (fun Ta_2 => some (v1, Ta_2)))
abbrev rmX7_wipe : Room := { frames := 0, cells := 0, slots := 0, locals := 0 }
set_option maxRecDepth 100000 in
set_option maxHeartbeats 4000000 in
theorem tX7_wipe (l : Launch) (D : va_G) (cs : Nat → ClassId) (ama : Nat → Nat) (are : Nat → Nat) (are2 : Nat → Nat) (are3 : Nat → Nat) (ach : Nat → Nat) (ata : Nat → Nat) (asa : Nat → Nat) (adr : Nat → Nat) (Ma : ST) (Ta : ST) (r0 : Int32) (Taz : ST) (hf : fX7_wipe Ma Ta = some (r0, Taz)) : CG l yX7_wipe (wsm yX7_wipe cX7_wipe 2 (some .int)) rmX7_wipe D cs [.ref (ama 0)] (some (.int r0)) ((kX7 cs ama (.ref (are 0)) (.ref (are2 0)) (.ref (are3 0)) (.ref (ach 0)) (.ref (ata 0)) (.ref (asa 0)) Ma) ++ ((kX6 cs ata (.ref (adr 0)) Ta))) ((kX7 cs ama (.ref (are 0)) (.ref (are2 0)) (.ref (are3 0)) (.ref (ach 0)) (.ref (ata 0)) (.ref (asa 0)) Ma) ++ ((kX6 cs ata (.ref (adr 0)) Taz))) := by
  refine CG.intro (by decide) (Nat.le_of_ble_eq_true rfl) ?_
  intro p e s m below meth c A Q hx hb hml hown hu hK hZ hP0 hD0 hS0 hA hri hrz hrl hrv hra ls0 hl0
  have hl : lv_has ls0 2 [(0, .ref (ama 0))] := hl0
  have hP := hP0
  have hD := hD0
  have hS := hS0
  unfold fX7_wipe at hf
  refine lv_aload_n hx hb dX7_wipe_0 rfl (lv_at hl 0 rfl) ?_
  refine va_get (D := D) (ci := 7) (v := .ref (ata 0)) (C := RX7) (T := TX7) (N := 8) hx hb hu inX7 hown hK.1 hP 0 rfl rfl 4 (by decide) (hu _ q304) (fun _ h9 => h9) rfl dX7_wipe_1 ?_
  refine va_get (D := D) (ci := 6) (v := .int (Ta 0 2)) (C := RX6) (T := TX6) (N := 5) hx hb hu inX6 hown hK.1 hP 2 rfl rfl 2 (by decide) (hu _ q263) (fun _ h9 => h9) rfl dX7_wipe_4 ?_
  obtain ⟨v1, hv1, hf⟩ := lt_el hf
  refine lv_tope hv1 ?_
  refine lv_istore_n (lv' := [(1, .int v1), (0, .ref (ama 0))]) hx hb dX7_wipe_7 rfl hl (by decide) rfl (fun ls hl => ?_)
  refine lv_aload_n hx hb dX7_wipe_8 rfl (lv_at hl 1 rfl) ?_
  refine va_get (D := D) (ci := 7) (v := .ref (ata 0)) (C := RX7) (T := TX7) (N := 8) hx hb hu inX7 hown hK.1 hP 0 rfl rfl 4 (by decide) (hu _ q304) (fun _ h9 => h9) rfl dX7_wipe_9 ?_
  refine lv_iconst (v := 0) hx hb dX7_wipe_12 (by decide) ?_
  obtain ⟨Ta_2, hTa_2, hf⟩ := lt_el hf
  refine va_put (D := D) (ci := 6) (v := .int 0) (ty := .int) (C := RX6) (T := TX6) (N := 5) hx hb hu inX6 tyX6 tyX6_ok nmX6 hown hK.1 hP hD hS 2 rfl rfl 2 (by decide) (hu _ q263) (fun _ h9 => h9) rfl (by decide +kernel) rfl rfl (Nat.le_of_ble_eq_true rfl) dX7_wipe_13 (fun H locs hP hD hS => ?_)
  have hP : va_P D vwCl ((kX7 cs ama (.ref (are 0)) (.ref (are2 0)) (.ref (are3 0)) (.ref (ach 0)) (.ref (ata 0)) (.ref (asa 0)) Ma) ++ ((kX6 cs ata (.ref (adr 0)) Ta_2))) H := by rw [hTa_2]; exact hP
  have hD : va_D A ((kX7 cs ama (.ref (are 0)) (.ref (are2 0)) (.ref (are3 0)) (.ref (ach 0)) (.ref (ata 0)) (.ref (asa 0)) Ma) ++ ((kX6 cs ata (.ref (adr 0)) Ta_2))) := by rw [hTa_2]; exact hD
  refine lv_iload_n hx hb dX7_wipe_16 rfl (lv_at hl 0 rfl) ?_
  have he := Option.some.inj hf
  obtain ⟨e0, e1⟩ := Prod.mk.inj he
  exact hri _ _ _ rfl (congrArg (fun z => some (Value.int z)) e0.symm) dX7_wipe_17 _ _ _ (by rw [e1]) hP hD hS

def fX7_text (Ma : ST) (Sc : ST) (Ta : ST) (Dr : ST) : Option (Int32 × ST × ST × ST) :=
  dc_b3 (fX6_parse Ta Dr) (fun r1 Ta_2 Dr_3 => dc_lt (sti Ta_2 0 2 0) (fun Ta_5 => (if r1 = 0 then some (((-1) - (Ta_5 0 3)), Sc, Ta_5, Dr_3) else dc_b1 (fX3_takeFrom Sc Dr_3) (fun Sc_7 => some (1, Sc_7, Ta_5, Dr_3)))))
abbrev rmX7_text : Room := { frames := 41, cells := 0, slots := 0, locals := 924 }
set_option maxRecDepth 100000 in
set_option maxHeartbeats 4000000 in
theorem tX7_text (l : Launch) (D : va_G) (cs : Nat → ClassId) (ama : Nat → Nat) (are : Nat → Nat) (are2 : Nat → Nat) (are3 : Nat → Nat) (ach : Nat → Nat) (ata : Nat → Nat) (asa : Nat → Nat) (af : Nat → Nat) (ac : Nat → Nat) (atr : Nat → Nat) (ase : Nat → Nat) (adr : Nat → Nat) (Ma : ST) (Sc : ST) (Ta : ST) (Dr : ST) (r0 : Int32) (Scz : ST) (Taz : ST) (Drz : ST) (hf : fX7_text Ma Sc Ta Dr = some (r0, Scz, Taz, Drz)) : CG l yX7_text (wsm yX7_text cX7_text 2 (some .int)) rmX7_text D cs [.ref (ama 0)] (some (.int r0)) ((kX7 cs ama (.ref (are 0)) (.ref (are2 0)) (.ref (are3 0)) (.ref (ach 0)) (.ref (ata 0)) (.ref (asa 0)) Ma) ++ ((kX2 cs are (.ref (af 0)) (.ref (ac 0)) (.ref (atr 0)) (.ref (ase 0)) ) ++ ((kX3 cs ac  Sc) ++ ((kX6 cs ata (.ref (adr 0)) Ta) ++ ((kX3 cs adr  Dr)))))) ((kX7 cs ama (.ref (are 0)) (.ref (are2 0)) (.ref (are3 0)) (.ref (ach 0)) (.ref (ata 0)) (.ref (asa 0)) Ma) ++ ((kX2 cs are (.ref (af 0)) (.ref (ac 0)) (.ref (atr 0)) (.ref (ase 0)) ) ++ ((kX3 cs ac  Scz) ++ ((kX6 cs ata (.ref (adr 0)) Taz) ++ ((kX3 cs adr  Drz)))))) := by
  refine CG.intro (by decide) (Nat.le_of_ble_eq_true rfl) ?_
  intro p e s m below meth c A Q hx hb hml hown hu hK hZ hP0 hD0 hS0 hA hri hrz hrl hrv hra ls0 hl0
  have hl : lv_has ls0 2 [(0, .ref (ama 0))] := hl0
  have hP := hP0
  have hD := hD0
  have hS := hS0
  unfold fX7_text at hf
  refine lv_aload_n hx hb dX7_text_0 rfl (lv_at hl 0 rfl) ?_
  refine va_get (D := D) (ci := 7) (v := .ref (ata 0)) (C := RX7) (T := TX7) (N := 8) hx hb hu inX7 hown hK.1 hP 0 rfl rfl 4 (by decide) (hu _ q304) (fun _ h9 => h9) rfl dX7_text_1 ?_
  obtain ⟨r1, Ta_2, Dr_3, hg4, hf⟩ := b3_el hf
  refine cc_V (w' := ((kX7 cs ama (.ref (are 0)) (.ref (are2 0)) (.ref (are3 0)) (.ref (ach 0)) (.ref (ata 0)) (.ref (asa 0)) Ma) ++ ((kX2 cs are (.ref (af 0)) (.ref (ac 0)) (.ref (atr 0)) (.ref (ase 0)) ) ++ ((kX3 cs ac  Sc) ++ ((kX6 cs ata (.ref (adr 0)) Ta_2) ++ ((kX3 cs adr  Dr_3))))))) (wr := ((kX7 cs ama (.ref (are 0)) (.ref (are2 0)) (.ref (are3 0)) (.ref (ach 0)) (.ref (ata 0)) (.ref (asa 0)) Ma) ++ ((kX2 cs are (.ref (af 0)) (.ref (ac 0)) (.ref (atr 0)) (.ref (ase 0)) ) ++ ((kX3 cs ac  Sc))))) (st1 := [.int r1]) [] hx hb hml hown hu (tX6_parse l D cs ata adr Ta Dr r1 Ta_2 Dr_3 hg4) q689 q60 q686 q687 q688 pdX6_parse ⟨rfl, rfl, Nat.le_of_ble_eq_true rfl, Nat.le_of_ble_eq_true rfl⟩ hK hZ hP hD hS hA [6, 7, 8, 9, 10] [0, 1, 2, 3, 4, 5] [0, 1, 2, 3, 4, 5, 6, 7, 8, 9, 10] rfl rfl rfl rfl rfl rfl rfl rfl rfl rfl hl.1 rfl (Nat.le_of_ble_eq_true rfl) dX7_text_4 rfl (fun H locs hP hD hS => ?_)
  refine lv_istore_n (lv' := [(1, .int r1), (0, .ref (ama 0))]) hx hb dX7_text_7 rfl hl (by decide) rfl (fun ls hl => ?_)
  refine lv_aload_n hx hb dX7_text_8 rfl (lv_at hl 1 rfl) ?_
  refine va_get (D := D) (ci := 7) (v := .ref (ata 0)) (C := RX7) (T := TX7) (N := 8) hx hb hu inX7 hown hK.1 hP 0 rfl rfl 4 (by decide) (hu _ q304) (fun _ h9 => h9) rfl dX7_text_9 ?_
  refine lv_iconst (v := 0) hx hb dX7_text_12 (by decide) ?_
  obtain ⟨Ta_5, hTa_5, hf⟩ := lt_el hf
  refine va_put (D := D) (ci := 6) (v := .int 0) (ty := .int) (C := RX6) (T := TX6) (N := 5) hx hb hu inX6 tyX6 tyX6_ok nmX6 hown hK.1 hP hD hS 6 rfl rfl 2 (by decide) (hu _ q263) (fun _ h9 => h9) rfl (by decide +kernel) rfl rfl (Nat.le_of_ble_eq_true rfl) dX7_text_13 (fun H locs hP hD hS => ?_)
  have hP : va_P D vwCl ((kX7 cs ama (.ref (are 0)) (.ref (are2 0)) (.ref (are3 0)) (.ref (ach 0)) (.ref (ata 0)) (.ref (asa 0)) Ma) ++ ((kX2 cs are (.ref (af 0)) (.ref (ac 0)) (.ref (atr 0)) (.ref (ase 0)) ) ++ ((kX3 cs ac  Sc) ++ ((kX6 cs ata (.ref (adr 0)) Ta_5) ++ ((kX3 cs adr  Dr_3)))))) H := by rw [hTa_5]; exact hP
  have hD : va_D A ((kX7 cs ama (.ref (are 0)) (.ref (are2 0)) (.ref (are3 0)) (.ref (ach 0)) (.ref (ata 0)) (.ref (asa 0)) Ma) ++ ((kX2 cs are (.ref (af 0)) (.ref (ac 0)) (.ref (atr 0)) (.ref (ase 0)) ) ++ ((kX3 cs ac  Sc) ++ ((kX6 cs ata (.ref (adr 0)) Ta_5) ++ ((kX3 cs adr  Dr_3)))))) := by rw [hTa_5]; exact hD
  refine lv_iload_n hx hb dX7_text_16 rfl (lv_at hl 0 rfl) ?_
  refine lv_if_ne (tgt := 30) hx hb dX7_text_17 (by decide) (fun hc6 => ?_) (fun hc6 => ?_)
  · have hf := in_el hc6 hf
    refine lv_aload_n hx hb dX7_text_30 rfl (lv_at hl 1 rfl) ?_
    refine va_get (D := D) (ci := 7) (v := .ref (are 0)) (C := RX7) (T := TX7) (N := 8) hx hb hu inX7 hown hK.1 hP 0 rfl rfl 0 (by decide) (hu _ q300) (fun _ h9 => h9) rfl dX7_text_31 ?_
    refine va_get (D := D) (ci := 2) (v := .ref (ac 0)) (C := RX2) (T := TX2) (N := 4) hx hb hu inX2 hown hK.1 hP 2 rfl rfl 1 (by decide) (hu _ q199) (fun _ h9 => h9) rfl dX7_text_34 ?_
    refine lv_aload_n hx hb dX7_text_37 rfl (lv_at hl 1 rfl) ?_
    refine va_get (D := D) (ci := 7) (v := .ref (ata 0)) (C := RX7) (T := TX7) (N := 8) hx hb hu inX7 hown hK.1 hP 0 rfl rfl 4 (by decide) (hu _ q304) (fun _ h9 => h9) rfl dX7_text_38 ?_
    refine va_get (D := D) (ci := 6) (v := .ref (adr 0)) (C := RX6) (T := TX6) (N := 5) hx hb hu inX6 hown hK.1 hP 6 rfl rfl 1 (by decide) (hu _ q261) (fun _ h9 => h9) rfl dX7_text_41 ?_
    obtain ⟨Sc_7, hg8, hf⟩ := b1_el hf
    refine cc_V (w' := ((kX7 cs ama (.ref (are 0)) (.ref (are2 0)) (.ref (are3 0)) (.ref (ach 0)) (.ref (ata 0)) (.ref (asa 0)) Ma) ++ ((kX2 cs are (.ref (af 0)) (.ref (ac 0)) (.ref (atr 0)) (.ref (ase 0)) ) ++ ((kX3 cs ac  Sc_7) ++ ((kX6 cs ata (.ref (adr 0)) Ta_5) ++ ((kX3 cs adr  Dr_3))))))) (wr := ((kX7 cs ama (.ref (are 0)) (.ref (are2 0)) (.ref (are3 0)) (.ref (ach 0)) (.ref (ata 0)) (.ref (asa 0)) Ma) ++ ((kX2 cs are (.ref (af 0)) (.ref (ac 0)) (.ref (atr 0)) (.ref (ase 0)) ) ++ ((kX6 cs ata (.ref (adr 0)) Ta_5))))) (st1 := []) [.ref (adr 0)] hx hb hml hown hu (tX3_takeFrom l D cs ac adr Sc Dr_3 Sc_7 hg8) q667 q57 q826 q665 q666 pdX3_takeFrom ⟨rfl, rfl, Nat.le_of_ble_eq_true rfl, Nat.le_of_ble_eq_true rfl⟩ hK hZ hP hD hS hA [3, 4, 5, 8, 9, 10] [0, 1, 2, 6, 7] [0, 1, 2, 5, 6, 7, 3, 4, 8, 9, 10] rfl rfl rfl rfl rfl rfl rfl rfl rfl rfl hl.1 rfl (Nat.le_of_ble_eq_true rfl) dX7_text_44 rfl (fun H locs hP hD hS => ?_)
    refine lv_iconst (v := 1) hx hb dX7_text_47 (by decide) ?_
    have he := Option.some.inj hf
    obtain ⟨e0, ht0⟩ := Prod.mk.inj he
    obtain ⟨e1, ht1⟩ := Prod.mk.inj ht0
    obtain ⟨e2, e3⟩ := Prod.mk.inj ht1
    exact hri _ _ _ rfl (congrArg (fun z => some (Value.int z)) e0.symm) dX7_text_48 _ _ _ (by rw [e1, e2, e3]) hP hD hS
  · have hf := ip_el hc6 hf
    refine lv_iconst (v := (-1)) hx hb dX7_text_20 (by decide) ?_
    refine lv_aload_n hx hb dX7_text_21 rfl (lv_at hl 1 rfl) ?_
    refine va_get (D := D) (ci := 7) (v := .ref (ata 0)) (C := RX7) (T := TX7) (N := 8) hx hb hu inX7 hown hK.1 hP 0 rfl rfl 4 (by decide) (hu _ q304) (fun _ h9 => h9) rfl dX7_text_22 ?_
    refine va_get (D := D) (ci := 6) (v := .int (Ta_5 0 3)) (C := RX6) (T := TX6) (N := 5) hx hb hu inX6 hown hK.1 hP 6 rfl rfl 3 (by decide) (hu _ q265) (fun _ h9 => h9) rfl dX7_text_25 ?_
    refine lv_isub hx hb dX7_text_28 ?_
    have he := Option.some.inj hf
    obtain ⟨e0, ht0⟩ := Prod.mk.inj he
    obtain ⟨e1, ht1⟩ := Prod.mk.inj ht0
    obtain ⟨e2, e3⟩ := Prod.mk.inj ht1
    exact hri _ _ _ rfl (congrArg (fun z => some (Value.int z)) e0.symm) dX7_text_29 _ _ _ (by rw [e1, e2, e3]) hP hD hS

def fX7_gives_16 (Fo : ST) (Se : ST) (Ma : ST) (Sc : ST) : Option (Int32 × ST × ST) :=
  dc_b2 (fX7_finding (-1000000001) Ma) (fun r4 Ma_5 => some (r4, Ma_5, Sc))
def fX7_gives (x1 : Int32) (x2 : Int32) (Ma : ST) (Fo : ST) (Sc : ST) (Se : ST) : Option (Int32 × ST × ST) :=
  dc_b1 (fX7_isOne x1 Ma Fo) (fun r1 => (if r1 = 0 then fX7_gives_16 Fo Se Ma Sc else dc_b1 (fX7_isOne x2 Ma Fo) (fun r7 => (if r7 = 0 then fX7_gives_16 Fo Se Ma Sc else dc_b1 (fX3_isThere Sc) (fun r10 => (if r10 = 0 then dc_b2 (fX7_finding (-1000000004) Ma) (fun r16 Ma_17 => some (r16, Ma_17, Sc)) else dc_b2 (fX3_work x1 x2 Sc Se Fo) (fun r13 Sc_14 => some (r13, Ma, Sc_14))))))))
abbrev rmX7_gives : Room := { frames := 3, cells := 0, slots := 0, locals := 73 }
set_option maxRecDepth 100000 in
set_option maxHeartbeats 4000000 in
theorem tX7_gives (l : Launch) (D : va_G) (cs : Nat → ClassId) (ama : Nat → Nat) (are : Nat → Nat) (are2 : Nat → Nat) (are3 : Nat → Nat) (ach : Nat → Nat) (ata : Nat → Nat) (asa : Nat → Nat) (af : Nat → Nat) (ac : Nat → Nat) (atr : Nat → Nat) (ase : Nat → Nat) (x1 : Int32) (x2 : Int32) (Ma : ST) (Fo : ST) (Sc : ST) (Se : ST) (r0 : Int32) (Maz : ST) (Scz : ST) (hf : fX7_gives x1 x2 Ma Fo Sc Se = some (r0, Maz, Scz)) : CG l yX7_gives (wsm yX7_gives cX7_gives 3 (some .int)) rmX7_gives D cs [.ref (ama 0), .int x1, .int x2] (some (.int r0)) ((kX7 cs ama (.ref (are 0)) (.ref (are2 0)) (.ref (are3 0)) (.ref (ach 0)) (.ref (ata 0)) (.ref (asa 0)) Ma) ++ ((kX2 cs are (.ref (af 0)) (.ref (ac 0)) (.ref (atr 0)) (.ref (ase 0)) ) ++ ((kX1 cs af  Fo) ++ ((kX3 cs ac  Sc) ++ ((kX4 cs ase (.ref (af 0)) (.ref (ac 0)) (.ref (atr 0)) Se)))))) ((kX7 cs ama (.ref (are 0)) (.ref (are2 0)) (.ref (are3 0)) (.ref (ach 0)) (.ref (ata 0)) (.ref (asa 0)) Maz) ++ ((kX2 cs are (.ref (af 0)) (.ref (ac 0)) (.ref (atr 0)) (.ref (ase 0)) ) ++ ((kX1 cs af  Fo) ++ ((kX3 cs ac  Scz) ++ ((kX4 cs ase (.ref (af 0)) (.ref (ac 0)) (.ref (atr 0)) Se)))))) := by
  refine CG.intro (by decide) (Nat.le_of_ble_eq_true rfl) ?_
  intro p e s m below meth c A Q hx hb hml hown hu hK hZ hP0 hD0 hS0 hA hri hrz hrl hrv hra ls0 hl0
  have h16 : ∀ (Ma : ST) (Sc : ST) (H : Heap) (locs : List Loc) (ls : Array Slot), va_P D vwCl ((kX7 cs ama (.ref (are 0)) (.ref (are2 0)) (.ref (are3 0)) (.ref (ach 0)) (.ref (ata 0)) (.ref (asa 0)) Ma) ++ ((kX2 cs are (.ref (af 0)) (.ref (ac 0)) (.ref (atr 0)) (.ref (ase 0)) ) ++ ((kX1 cs af  Fo) ++ ((kX3 cs ac  Sc) ++ ((kX4 cs ase (.ref (af 0)) (.ref (ac 0)) (.ref (atr 0)) Se)))))) H → va_D A ((kX7 cs ama (.ref (are 0)) (.ref (are2 0)) (.ref (are3 0)) (.ref (ach 0)) (.ref (ata 0)) (.ref (asa 0)) Ma) ++ ((kX2 cs are (.ref (af 0)) (.ref (ac 0)) (.ref (atr 0)) (.ref (ase 0)) ) ++ ((kX1 cs af  Fo) ++ ((kX3 cs ac  Sc) ++ ((kX4 cs ase (.ref (af 0)) (.ref (ac 0)) (.ref (atr 0)) Se)))))) → va_S A s.heap H locs → lv_has ls 3 [(0, .ref (ama 0))] → fX7_gives_16 Fo Se Ma Sc = some (r0, Maz, Scz) → W p l e rmX7_gives s m [.ref (ama 0), .int x1, .int x2].toArray below meth c H locs 0 0 Q (F0 m 16 ls []) := by
    intro Ma Sc H locs ls hP hD hS hl hf
    unfold fX7_gives_16 at hf
    refine lv_aload_n hx hb dX7_gives_16 rfl (lv_at hl 0 rfl) ?_
    refine lv_ldc (v := (-1000000001)) hx hb hown (hu _ q335) dX7_gives_17 ?_
    obtain ⟨r4, Ma_5, hg6, hf⟩ := b2_el hf
    refine cc_V (w' := ((kX7 cs ama (.ref (are 0)) (.ref (are2 0)) (.ref (are3 0)) (.ref (ach 0)) (.ref (ata 0)) (.ref (asa 0)) Ma_5) ++ ((kX2 cs are (.ref (af 0)) (.ref (ac 0)) (.ref (atr 0)) (.ref (ase 0)) ) ++ ((kX1 cs af  Fo) ++ ((kX3 cs ac  Sc) ++ ((kX4 cs ase (.ref (af 0)) (.ref (ac 0)) (.ref (atr 0)) Se))))))) (wr := ((kX2 cs are (.ref (af 0)) (.ref (ac 0)) (.ref (atr 0)) (.ref (ase 0)) ) ++ ((kX1 cs af  Fo) ++ ((kX3 cs ac  Sc) ++ ((kX4 cs ase (.ref (af 0)) (.ref (ac 0)) (.ref (atr 0)) Se)))))) (st1 := [.int r4]) [.int (-1000000001)] hx hb hml hown hu (tX7_finding l D cs ama are are2 are3 ach ata asa (-1000000001) Ma r4 Ma_5 hg6) q339 q54 q336 q338 q0 pdX7_finding ⟨rfl, rfl, Nat.le_of_ble_eq_true rfl, Nat.le_of_ble_eq_true rfl⟩ hK hZ hP hD hS hA [0, 1] [2, 3, 4, 5, 6, 7, 8, 9, 10, 11, 12, 13, 14, 15, 16] [15, 16, 0, 1, 2, 3, 4, 5, 6, 7, 8, 9, 10, 11, 12, 13, 14] rfl rfl rfl rfl rfl rfl rfl rfl rfl rfl hl.1 rfl (Nat.le_of_ble_eq_true rfl) dX7_gives_19 rfl (fun H locs hP hD hS => ?_)
    have he := Option.some.inj hf
    obtain ⟨e0, ht0⟩ := Prod.mk.inj he
    obtain ⟨e1, e2⟩ := Prod.mk.inj ht0
    exact hri _ _ _ rfl (congrArg (fun z => some (Value.int z)) e0.symm) dX7_gives_22 _ _ _ (by rw [e1, e2]) hP hD hS
  have hl : lv_has ls0 3 [(0, .ref (ama 0)), (1, .int x1), (2, .int x2)] := hl0
  have hP := hP0
  have hD := hD0
  have hS := hS0
  unfold fX7_gives at hf
  refine lv_aload_n hx hb dX7_gives_0 rfl (lv_at hl 0 rfl) ?_
  refine lv_iload_n hx hb dX7_gives_1 rfl (lv_at hl 1 rfl) ?_
  obtain ⟨r1, hg2, hf⟩ := b1_el hf
  refine cc_V (w' := ((kX7 cs ama (.ref (are 0)) (.ref (are2 0)) (.ref (are3 0)) (.ref (ach 0)) (.ref (ata 0)) (.ref (asa 0)) Ma) ++ ((kX2 cs are (.ref (af 0)) (.ref (ac 0)) (.ref (atr 0)) (.ref (ase 0)) ) ++ ((kX1 cs af  Fo) ++ ((kX3 cs ac  Sc) ++ ((kX4 cs ase (.ref (af 0)) (.ref (ac 0)) (.ref (atr 0)) Se))))))) (wr := ((kX3 cs ac  Sc) ++ ((kX4 cs ase (.ref (af 0)) (.ref (ac 0)) (.ref (atr 0)) Se)))) (st1 := [.int r1]) [.int x1] hx hb hml hown hu (tX7_isOne l D cs ama are are2 are3 ach ata asa af ac atr ase x1 Ma Fo r1 hg2) q352 q54 q349 q351 q1 pdX7_isOne ⟨rfl, rfl, Nat.le_of_ble_eq_true rfl, Nat.le_of_ble_eq_true rfl⟩ hK hZ hP hD hS hA [0, 1, 2, 3, 4, 5, 6, 7, 8, 9] [10, 11, 12, 13, 14, 15, 16] [7, 8, 9, 10, 11, 12, 13, 14, 15, 16, 0, 1, 2, 3, 4, 5, 6] rfl rfl rfl rfl rfl rfl rfl rfl rfl rfl hl.1 rfl (Nat.le_of_ble_eq_true rfl) dX7_gives_2 rfl (fun H locs hP hD hS => ?_)
  refine lv_if_eq (tgt := 16) hx hb dX7_gives_5 (by decide) (fun hc3 => ?_) (fun hc3 => ?_)
  · have hf := ip_el hc3 hf
    exact h16 Ma Sc _ _ _ hP hD hS (lv_sub hl [0] rfl) hf
  · have hf := in_el hc3 hf
    refine lv_aload_n hx hb dX7_gives_8 rfl (lv_at hl 0 rfl) ?_
    refine lv_iload_n hx hb dX7_gives_9 rfl (lv_at hl 2 rfl) ?_
    obtain ⟨r7, hg8, hf⟩ := b1_el hf
    refine cc_V (w' := ((kX7 cs ama (.ref (are 0)) (.ref (are2 0)) (.ref (are3 0)) (.ref (ach 0)) (.ref (ata 0)) (.ref (asa 0)) Ma) ++ ((kX2 cs are (.ref (af 0)) (.ref (ac 0)) (.ref (atr 0)) (.ref (ase 0)) ) ++ ((kX1 cs af  Fo) ++ ((kX3 cs ac  Sc) ++ ((kX4 cs ase (.ref (af 0)) (.ref (ac 0)) (.ref (atr 0)) Se))))))) (wr := ((kX3 cs ac  Sc) ++ ((kX4 cs ase (.ref (af 0)) (.ref (ac 0)) (.ref (atr 0)) Se)))) (st1 := [.int r7]) [.int x2] hx hb hml hown hu (tX7_isOne l D cs ama are are2 are3 ach ata asa af ac atr ase x2 Ma Fo r7 hg8) q352 q54 q349 q351 q1 pdX7_isOne ⟨rfl, rfl, Nat.le_of_ble_eq_true rfl, Nat.le_of_ble_eq_true rfl⟩ hK hZ hP hD hS hA [0, 1, 2, 3, 4, 5, 6, 7, 8, 9] [10, 11, 12, 13, 14, 15, 16] [7, 8, 9, 10, 11, 12, 13, 14, 15, 16, 0, 1, 2, 3, 4, 5, 6] rfl rfl rfl rfl rfl rfl rfl rfl rfl rfl hl.1 rfl (Nat.le_of_ble_eq_true rfl) dX7_gives_10 rfl (fun H locs hP hD hS => ?_)
    refine lv_if_ne (tgt := 23) hx hb dX7_gives_13 (by decide) (fun hc9 => ?_) (fun hc9 => ?_)
    · have hf := in_el hc9 hf
      refine lv_aload_n hx hb dX7_gives_23 rfl (lv_at hl 0 rfl) ?_
      refine va_get (D := D) (ci := 7) (v := .ref (are 0)) (C := RX7) (T := TX7) (N := 8) hx hb hu inX7 hown hK.1 hP 0 rfl rfl 0 (by decide) (hu _ q300) (fun _ h9 => h9) rfl dX7_gives_24 ?_
      refine va_get (D := D) (ci := 2) (v := .ref (ac 0)) (C := RX2) (T := TX2) (N := 4) hx hb hu inX2 hown hK.1 hP 2 rfl rfl 1 (by decide) (hu _ q199) (fun _ h9 => h9) rfl dX7_gives_27 ?_
      obtain ⟨r10, hg11, hf⟩ := b1_el hf
      refine cc_V (w' := ((kX7 cs ama (.ref (are 0)) (.ref (are2 0)) (.ref (are3 0)) (.ref (ach 0)) (.ref (ata 0)) (.ref (asa 0)) Ma) ++ ((kX2 cs are (.ref (af 0)) (.ref (ac 0)) (.ref (atr 0)) (.ref (ase 0)) ) ++ ((kX1 cs af  Fo) ++ ((kX3 cs ac  Sc) ++ ((kX4 cs ase (.ref (af 0)) (.ref (ac 0)) (.ref (atr 0)) Se))))))) (wr := ((kX7 cs ama (.ref (are 0)) (.ref (are2 0)) (.ref (are3 0)) (.ref (ach 0)) (.ref (ata 0)) (.ref (asa 0)) Ma) ++ ((kX2 cs are (.ref (af 0)) (.ref (ac 0)) (.ref (atr 0)) (.ref (ase 0)) ) ++ ((kX1 cs af  Fo) ++ ((kX4 cs ase (.ref (af 0)) (.ref (ac 0)) (.ref (atr 0)) Se)))))) (st1 := [.int r10]) [] hx hb hml hown hu (tX3_isThere l D cs ac Sc r10 hg11) q394 q57 q832 q392 q393 pdX3_isThere ⟨rfl, rfl, Nat.le_of_ble_eq_true rfl, Nat.le_of_ble_eq_true rfl⟩ hK hZ hP hD hS hA [10, 11, 12] [0, 1, 2, 3, 4, 5, 6, 7, 8, 9, 13, 14, 15, 16] [0, 1, 2, 3, 4, 5, 6, 7, 8, 9, 14, 15, 16, 10, 11, 12, 13] rfl rfl rfl rfl rfl rfl rfl rfl rfl rfl hl.1 rfl (Nat.le_of_ble_eq_true rfl) dX7_gives_30 rfl (fun H locs hP hD hS => ?_)
      refine lv_if_ne (tgt := 43) hx hb dX7_gives_33 (by decide) (fun hc12 => ?_) (fun hc12 => ?_)
      · have hf := in_el hc12 hf
        refine lv_aload_n hx hb dX7_gives_43 rfl (lv_at hl 0 rfl) ?_
        refine va_get (D := D) (ci := 7) (v := .ref (are 0)) (C := RX7) (T := TX7) (N := 8) hx hb hu inX7 hown hK.1 hP 0 rfl rfl 0 (by decide) (hu _ q300) (fun _ h9 => h9) rfl dX7_gives_44 ?_
        refine va_get (D := D) (ci := 2) (v := .ref (ac 0)) (C := RX2) (T := TX2) (N := 4) hx hb hu inX2 hown hK.1 hP 2 rfl rfl 1 (by decide) (hu _ q199) (fun _ h9 => h9) rfl dX7_gives_47 ?_
        refine lv_aload_n hx hb dX7_gives_50 rfl (lv_at hl 0 rfl) ?_
        refine va_get (D := D) (ci := 7) (v := .ref (are 0)) (C := RX7) (T := TX7) (N := 8) hx hb hu inX7 hown hK.1 hP 0 rfl rfl 0 (by decide) (hu _ q300) (fun _ h9 => h9) rfl dX7_gives_51 ?_
        refine va_get (D := D) (ci := 2) (v := .ref (ase 0)) (C := RX2) (T := TX2) (N := 4) hx hb hu inX2 hown hK.1 hP 2 rfl rfl 3 (by decide) (hu _ q204) (fun _ h9 => h9) rfl dX7_gives_54 ?_
        refine lv_iload_n hx hb dX7_gives_57 rfl (lv_at hl 1 rfl) ?_
        refine lv_iload_n hx hb dX7_gives_58 rfl (lv_at hl 2 rfl) ?_
        obtain ⟨r13, Sc_14, hg15, hf⟩ := b2_el hf
        refine cc_V (w' := ((kX7 cs ama (.ref (are 0)) (.ref (are2 0)) (.ref (are3 0)) (.ref (ach 0)) (.ref (ata 0)) (.ref (asa 0)) Ma) ++ ((kX2 cs are (.ref (af 0)) (.ref (ac 0)) (.ref (atr 0)) (.ref (ase 0)) ) ++ ((kX1 cs af  Fo) ++ ((kX3 cs ac  Sc_14) ++ ((kX4 cs ase (.ref (af 0)) (.ref (ac 0)) (.ref (atr 0)) Se))))))) (wr := ((kX7 cs ama (.ref (are 0)) (.ref (are2 0)) (.ref (are3 0)) (.ref (ach 0)) (.ref (ata 0)) (.ref (asa 0)) Ma) ++ ((kX2 cs are (.ref (af 0)) (.ref (ac 0)) (.ref (atr 0)) (.ref (ase 0)) )))) (st1 := [.int r13]) [.ref (ase 0), .int x1, .int x2] hx hb hml hown hu (tX3_work l D cs ac ase af (.ref (atr 0)) x1 x2 Sc Se Fo r13 Sc_14 hg15) q406 q57 q833 q404 q405 pdX3_work ⟨rfl, rfl, Nat.le_of_ble_eq_true rfl, Nat.le_of_ble_eq_true rfl⟩ hK hZ hP hD hS hA [10, 11, 12, 13, 14, 15, 16, 3, 4, 5, 6, 7, 8, 9] [0, 1, 2] [0, 1, 2, 10, 11, 12, 13, 14, 15, 16, 3, 4, 5, 6, 7, 8, 9] rfl rfl rfl rfl rfl rfl rfl rfl rfl rfl hl.1 rfl (Nat.le_of_ble_eq_true rfl) dX7_gives_59 rfl (fun H locs hP hD hS => ?_)
        have he := Option.some.inj hf
        obtain ⟨e0, ht0⟩ := Prod.mk.inj he
        obtain ⟨e1, e2⟩ := Prod.mk.inj ht0
        exact hri _ _ _ rfl (congrArg (fun z => some (Value.int z)) e0.symm) dX7_gives_62 _ _ _ (by rw [e1, e2]) hP hD hS
      · have hf := ip_el hc12 hf
        refine lv_aload_n hx hb dX7_gives_36 rfl (lv_at hl 0 rfl) ?_
        refine lv_ldc (v := (-1000000004)) hx hb hown (hu _ q586) dX7_gives_37 ?_
        obtain ⟨r16, Ma_17, hg18, hf⟩ := b2_el hf
        refine cc_V (w' := ((kX7 cs ama (.ref (are 0)) (.ref (are2 0)) (.ref (are3 0)) (.ref (ach 0)) (.ref (ata 0)) (.ref (asa 0)) Ma_17) ++ ((kX2 cs are (.ref (af 0)) (.ref (ac 0)) (.ref (atr 0)) (.ref (ase 0)) ) ++ ((kX1 cs af  Fo) ++ ((kX3 cs ac  Sc) ++ ((kX4 cs ase (.ref (af 0)) (.ref (ac 0)) (.ref (atr 0)) Se))))))) (wr := ((kX2 cs are (.ref (af 0)) (.ref (ac 0)) (.ref (atr 0)) (.ref (ase 0)) ) ++ ((kX1 cs af  Fo) ++ ((kX3 cs ac  Sc) ++ ((kX4 cs ase (.ref (af 0)) (.ref (ac 0)) (.ref (atr 0)) Se)))))) (st1 := [.int r16]) [.int (-1000000004)] hx hb hml hown hu (tX7_finding l D cs ama are are2 are3 ach ata asa (-1000000004) Ma r16 Ma_17 hg18) q339 q54 q336 q338 q0 pdX7_finding ⟨rfl, rfl, Nat.le_of_ble_eq_true rfl, Nat.le_of_ble_eq_true rfl⟩ hK hZ hP hD hS hA [0, 1] [2, 3, 4, 5, 6, 7, 8, 9, 10, 11, 12, 13, 14, 15, 16] [15, 16, 0, 1, 2, 3, 4, 5, 6, 7, 8, 9, 10, 11, 12, 13, 14] rfl rfl rfl rfl rfl rfl rfl rfl rfl rfl hl.1 rfl (Nat.le_of_ble_eq_true rfl) dX7_gives_39 rfl (fun H locs hP hD hS => ?_)
        have he := Option.some.inj hf
        obtain ⟨e0, ht0⟩ := Prod.mk.inj he
        obtain ⟨e1, e2⟩ := Prod.mk.inj ht0
        exact hri _ _ _ rfl (congrArg (fun z => some (Value.int z)) e0.symm) dX7_gives_42 _ _ _ (by rw [e1, e2]) hP hD hS
    · have hf := ip_el hc9 hf
      exact h16 Ma Sc _ _ _ hP hD hS (lv_sub hl [0] rfl) hf

def fX7_untell_18 (Ma : ST) (s0 : Int32) (Sc : ST) : Option (Int32 × ST) :=
  dc_lt (sti Sc 0 2 0) (fun Sc_4 => some (s0, Sc_4))
def fX7_untell (Ma : ST) (Sc : ST) : Option (Int32 × ST) :=
  dc_b1 (fX3_isThere Sc) (fun r1 => (if r1 = 0 then fX7_untell_18 Ma 0 Sc else fX7_untell_18 Ma 1 Sc))
abbrev rmX7_untell : Room := { frames := 1, cells := 0, slots := 0, locals := 20 }
set_option maxRecDepth 100000 in
set_option maxHeartbeats 4000000 in
theorem tX7_untell (l : Launch) (D : va_G) (cs : Nat → ClassId) (ama : Nat → Nat) (are : Nat → Nat) (are2 : Nat → Nat) (are3 : Nat → Nat) (ach : Nat → Nat) (ata : Nat → Nat) (asa : Nat → Nat) (af : Nat → Nat) (ac : Nat → Nat) (atr : Nat → Nat) (ase : Nat → Nat) (Ma : ST) (Sc : ST) (r0 : Int32) (Scz : ST) (hf : fX7_untell Ma Sc = some (r0, Scz)) : CG l yX7_untell (wsm yX7_untell cX7_untell 2 (some .int)) rmX7_untell D cs [.ref (ama 0)] (some (.int r0)) ((kX7 cs ama (.ref (are 0)) (.ref (are2 0)) (.ref (are3 0)) (.ref (ach 0)) (.ref (ata 0)) (.ref (asa 0)) Ma) ++ ((kX2 cs are (.ref (af 0)) (.ref (ac 0)) (.ref (atr 0)) (.ref (ase 0)) ) ++ ((kX3 cs ac  Sc)))) ((kX7 cs ama (.ref (are 0)) (.ref (are2 0)) (.ref (are3 0)) (.ref (ach 0)) (.ref (ata 0)) (.ref (asa 0)) Ma) ++ ((kX2 cs are (.ref (af 0)) (.ref (ac 0)) (.ref (atr 0)) (.ref (ase 0)) ) ++ ((kX3 cs ac  Scz)))) := by
  refine CG.intro (by decide) (Nat.le_of_ble_eq_true rfl) ?_
  intro p e s m below meth c A Q hx hb hml hown hu hK hZ hP0 hD0 hS0 hA hri hrz hrl hrv hra ls0 hl0
  have h18 : ∀ (s0 : Int32) (Sc : ST) (H : Heap) (locs : List Loc) (ls : Array Slot), va_P D vwCl ((kX7 cs ama (.ref (are 0)) (.ref (are2 0)) (.ref (are3 0)) (.ref (ach 0)) (.ref (ata 0)) (.ref (asa 0)) Ma) ++ ((kX2 cs are (.ref (af 0)) (.ref (ac 0)) (.ref (atr 0)) (.ref (ase 0)) ) ++ ((kX3 cs ac  Sc)))) H → va_D A ((kX7 cs ama (.ref (are 0)) (.ref (are2 0)) (.ref (are3 0)) (.ref (ach 0)) (.ref (ata 0)) (.ref (asa 0)) Ma) ++ ((kX2 cs are (.ref (af 0)) (.ref (ac 0)) (.ref (atr 0)) (.ref (ase 0)) ) ++ ((kX3 cs ac  Sc)))) → va_S A s.heap H locs → lv_has ls 2 [(0, .ref (ama 0))] → fX7_untell_18 Ma s0 Sc = some (r0, Scz) → W p l e rmX7_untell s m [.ref (ama 0)].toArray below meth c H locs 0 0 Q (F0 m 18 ls [.int s0]) := by
    intro s0 Sc H locs ls hP hD hS hl hf
    unfold fX7_untell_18 at hf
    refine lv_istore_n (lv' := [(1, .int s0), (0, .ref (ama 0))]) hx hb dX7_untell_18 rfl hl (by decide) rfl (fun ls hl => ?_)
    refine lv_aload_n hx hb dX7_untell_19 rfl (lv_at hl 1 rfl) ?_
    refine va_get (D := D) (ci := 7) (v := .ref (are 0)) (C := RX7) (T := TX7) (N := 8) hx hb hu inX7 hown hK.1 hP 0 rfl rfl 0 (by decide) (hu _ q300) (fun _ h9 => h9) rfl dX7_untell_20 ?_
    refine va_get (D := D) (ci := 2) (v := .ref (ac 0)) (C := RX2) (T := TX2) (N := 4) hx hb hu inX2 hown hK.1 hP 2 rfl rfl 1 (by decide) (hu _ q199) (fun _ h9 => h9) rfl dX7_untell_23 ?_
    refine lv_iconst (v := 0) hx hb dX7_untell_26 (by decide) ?_
    obtain ⟨Sc_4, hSc_4, hf⟩ := lt_el hf
    refine va_put (D := D) (ci := 3) (v := .int 0) (ty := .int) (C := RX3) (T := TX3) (N := 3) hx hb hu inX3 tyX3 tyX3_ok nmX3 hown hK.1 hP hD hS 3 rfl rfl 2 (by decide) (hu _ q144) (fun _ h9 => h9) rfl (by decide +kernel) rfl rfl (Nat.le_of_ble_eq_true rfl) dX7_untell_27 (fun H locs hP hD hS => ?_)
    have hP : va_P D vwCl ((kX7 cs ama (.ref (are 0)) (.ref (are2 0)) (.ref (are3 0)) (.ref (ach 0)) (.ref (ata 0)) (.ref (asa 0)) Ma) ++ ((kX2 cs are (.ref (af 0)) (.ref (ac 0)) (.ref (atr 0)) (.ref (ase 0)) ) ++ ((kX3 cs ac  Sc_4)))) H := by rw [hSc_4]; exact hP
    have hD : va_D A ((kX7 cs ama (.ref (are 0)) (.ref (are2 0)) (.ref (are3 0)) (.ref (ach 0)) (.ref (ata 0)) (.ref (asa 0)) Ma) ++ ((kX2 cs are (.ref (af 0)) (.ref (ac 0)) (.ref (atr 0)) (.ref (ase 0)) ) ++ ((kX3 cs ac  Sc_4)))) := by rw [hSc_4]; exact hD
    refine lv_iload_n hx hb dX7_untell_30 rfl (lv_at hl 0 rfl) ?_
    have he := Option.some.inj hf
    obtain ⟨e0, e1⟩ := Prod.mk.inj he
    exact hri _ _ _ rfl (congrArg (fun z => some (Value.int z)) e0.symm) dX7_untell_31 _ _ _ (by rw [e1]) hP hD hS
  have hl : lv_has ls0 2 [(0, .ref (ama 0))] := hl0
  have hP := hP0
  have hD := hD0
  have hS := hS0
  unfold fX7_untell at hf
  refine lv_aload_n hx hb dX7_untell_0 rfl (lv_at hl 0 rfl) ?_
  refine va_get (D := D) (ci := 7) (v := .ref (are 0)) (C := RX7) (T := TX7) (N := 8) hx hb hu inX7 hown hK.1 hP 0 rfl rfl 0 (by decide) (hu _ q300) (fun _ h9 => h9) rfl dX7_untell_1 ?_
  refine va_get (D := D) (ci := 2) (v := .ref (ac 0)) (C := RX2) (T := TX2) (N := 4) hx hb hu inX2 hown hK.1 hP 2 rfl rfl 1 (by decide) (hu _ q199) (fun _ h9 => h9) rfl dX7_untell_4 ?_
  obtain ⟨r1, hg2, hf⟩ := b1_el hf
  refine cc_V (w' := ((kX7 cs ama (.ref (are 0)) (.ref (are2 0)) (.ref (are3 0)) (.ref (ach 0)) (.ref (ata 0)) (.ref (asa 0)) Ma) ++ ((kX2 cs are (.ref (af 0)) (.ref (ac 0)) (.ref (atr 0)) (.ref (ase 0)) ) ++ ((kX3 cs ac  Sc))))) (wr := ((kX7 cs ama (.ref (are 0)) (.ref (are2 0)) (.ref (are3 0)) (.ref (ach 0)) (.ref (ata 0)) (.ref (asa 0)) Ma) ++ ((kX2 cs are (.ref (af 0)) (.ref (ac 0)) (.ref (atr 0)) (.ref (ase 0)) )))) (st1 := [.int r1]) [] hx hb hml hown hu (tX3_isThere l D cs ac Sc r1 hg2) q394 q57 q832 q392 q393 pdX3_isThere ⟨rfl, rfl, Nat.le_of_ble_eq_true rfl, Nat.le_of_ble_eq_true rfl⟩ hK hZ hP hD hS hA [3, 4, 5] [0, 1, 2] [0, 1, 2, 3, 4, 5] rfl rfl rfl rfl rfl rfl rfl rfl rfl rfl hl.1 rfl (Nat.le_of_ble_eq_true rfl) dX7_untell_7 rfl (fun H locs hP hD hS => ?_)
  refine lv_if_eq (tgt := 17) hx hb dX7_untell_10 (by decide) (fun hc3 => ?_) (fun hc3 => ?_)
  · have hf := ip_el hc3 hf
    refine lv_iconst (v := 0) hx hb dX7_untell_17 (by decide) ?_
    exact h18 0 Sc _ _ _ hP hD hS (lv_sub hl [0] rfl) hf
  · have hf := in_el hc3 hf
    refine lv_iconst (v := 1) hx hb dX7_untell_13 (by decide) ?_
    refine lv_goto (tgt := 18) hx hb dX7_untell_14 (by decide) ?_
    exact h18 1 Sc _ _ _ hP hD hS (lv_sub hl [0] rfl) hf
