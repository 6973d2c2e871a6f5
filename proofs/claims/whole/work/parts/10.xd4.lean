def fX7_odds_18 (Fo : ST) (Sc : ST) (Se : ST) (Ma : ST) (Fo3 : ST) (Sc3 : ST) (Se3 : ST) (Tr3 : ST) : Option (Int32 × ST × ST × ST × ST × ST) :=
  dc_b2 (fX7_finding (-1000000001) Ma) (fun r4 Ma_5 => some (r4, Ma_5, Fo3, Sc3, Se3, Tr3))
def fX7_odds_130 (Fo : ST) (Sc : ST) (Se : ST) (k42 : Int32 → Int32 → Int32 → Int32 → Int32 → ST → ST → ST → ST → ST → Option (Int32 × ST × ST × ST × ST × ST)) (y1 : Int32) (y2 : Int32) (y3 : Int32) (y5 : Int32) (Ma : ST) (Fo3 : ST) (Sc3 : ST) (Se3 : ST) (Tr3 : ST) : Option (Int32 × ST × ST × ST × ST × ST) :=
  dc_lt (Fo3 0 8) (fun v19 => dc_lt (y5 + 1) (fun v20 => k42 y1 y2 y3 v19 v20 Ma Fo3 Sc3 Se3 Tr3))
def fX7_odds_108 (Fo : ST) (Sc : ST) (Se : ST) (k42 : Int32 → Int32 → Int32 → Int32 → Int32 → ST → ST → ST → ST → ST → Option (Int32 × ST × ST × ST × ST × ST)) (y1 : Int32) (y2 : Int32) (y3 : Int32) (y5 : Int32) (y6 : Int32) (Ma : ST) (Fo3 : ST) (Sc3 : ST) (Se3 : ST) (Tr3 : ST) : Option (Int32 × ST × ST × ST × ST × ST) :=
  (if y6 = 0 then fX7_odds_130 Fo Sc Se k42 y1 y2 y3 y5 Ma Fo3 Sc3 Se3 Tr3 else (if (Se3 0 6) = y1 then dc_lt (y3 + 1) (fun v22 => fX7_odds_130 Fo Sc Se k42 y1 y2 v22 y5 Ma Fo3 Sc3 Se3 Tr3) else fX7_odds_130 Fo Sc Se k42 y1 y2 y3 y5 Ma Fo3 Sc3 Se3 Tr3))
def fX7_odds_77_s (Fo : ST) (Sc : ST) (Se : ST) (k42 : Int32 → Int32 → Int32 → Int32 → Int32 → ST → ST → ST → ST → ST → Option (Int32 × ST × ST × ST × ST × ST)) (k77 : Int32 → Int32 → Int32 → Int32 → Int32 → Int32 → ST → ST → ST → ST → ST → Option (Int32 × ST × ST × ST × ST × ST)) (y1 : Int32) (y2 : Int32) (y3 : Int32) (y5 : Int32) (y6 : Int32) (y7 : Int32) (Ma : ST) (Fo3 : ST) (Sc3 : ST) (Se3 : ST) (Tr3 : ST) : Option (Int32 × ST × ST × ST × ST × ST) :=
  (if 200 ≤ y7 then fX7_odds_108 Fo Sc Se k42 y1 y2 y3 y5 y6 Ma Fo3 Sc3 Se3 Tr3 else (if y6 = 0 then dc_b5 (fX4_year Se3 Fo3 Sc3 Tr3) (fun r24 Se3_25 Fo3_26 Sc3_27 Tr3_28 => dc_lt (y7 + 1) (fun v30 => k77 y1 y2 y3 y5 r24 v30 Ma Fo3_26 Sc3_27 Se3_25 Tr3_28)) else fX7_odds_108 Fo Sc Se k42 y1 y2 y3 y5 y6 Ma Fo3 Sc3 Se3 Tr3))
def fX7_odds_77 (Fo : ST) (Sc : ST) (Se : ST) (k42 : Int32 → Int32 → Int32 → Int32 → Int32 → ST → ST → ST → ST → ST → Option (Int32 × ST × ST × ST × ST × ST)) : Nat → Int32 → Int32 → Int32 → Int32 → Int32 → Int32 → ST → ST → ST → ST → ST → Option (Int32 × ST × ST × ST × ST × ST)
  | 0 => fun _ _ _ _ _ _ _ _ _ _ _ => none
  | n + 1 => fX7_odds_77_s Fo Sc Se k42 (fX7_odds_77 Fo Sc Se k42 n)
def fX7_odds_42_s (Fo : ST) (Sc : ST) (Se : ST) (k42 : Int32 → Int32 → Int32 → Int32 → Int32 → ST → ST → ST → ST → ST → Option (Int32 × ST × ST × ST × ST × ST)) (y1 : Int32) (y2 : Int32) (y3 : Int32) (y4 : Int32) (y5 : Int32) (Ma : ST) (Fo3 : ST) (Sc3 : ST) (Se3 : ST) (Tr3 : ST) : Option (Int32 × ST × ST × ST × ST × ST) :=
  (if y2 ≤ y5 then some (y3, Ma, Fo3, Sc3, Se3, Tr3) else dc_b3 (fX2_takeFrom Fo3 Sc3 Se3 Fo Sc Se) (fun Fo3_12 Sc3_13 Se3_14 => dc_lt (sti Fo3_12 0 8 y4) (fun Fo3_16 => fX7_odds_77 Fo Sc Se k42 400 y1 y2 y3 y5 0 0 Ma Fo3_16 Sc3_13 Se3_14 Tr3)))
def fX7_odds_42 (Fo : ST) (Sc : ST) (Se : ST) : Nat → Int32 → Int32 → Int32 → Int32 → Int32 → ST → ST → ST → ST → ST → Option (Int32 × ST × ST × ST × ST × ST)
  | 0 => fun _ _ _ _ _ _ _ _ _ _ => none
  | n + 1 => fX7_odds_42_s Fo Sc Se (fX7_odds_42 Fo Sc Se n)
def fX7_odds (x1 : Int32) (x2 : Int32) (Ma : ST) (Fo : ST) (Sc : ST) (Se : ST) (Fo3 : ST) (Sc3 : ST) (Se3 : ST) (Tr3 : ST) : Option (Int32 × ST × ST × ST × ST × ST) :=
  dc_b1 (fX7_isOne x1 Ma Fo) (fun r1 => (if r1 = 0 then fX7_odds_18 Fo Sc Se Ma Fo3 Sc3 Se3 Tr3 else dc_b1 (fX7_within x2 1 40) (fun r7 => (if r7 = 0 then fX7_odds_18 Fo Sc Se Ma Fo3 Sc3 Se3 Tr3 else dc_lt (Fo 0 8) (fun v10 => fX7_odds_42 Fo Sc Se 400 x1 x2 0 v10 0 Ma Fo3 Sc3 Se3 Tr3)))))
abbrev rmX7_odds : Room := { frames := 11, cells := 0, slots := 0, locals := 276 }
set_option maxRecDepth 100000 in
set_option maxHeartbeats 4000000 in
theorem tX7_odds (l : Launch) (D : va_G) (cs : Nat → ClassId) (ama : Nat → Nat) (are : Nat → Nat) (are2 : Nat → Nat) (are3 : Nat → Nat) (ach : Nat → Nat) (ata : Nat → Nat) (asa : Nat → Nat) (af : Nat → Nat) (ac : Nat → Nat) (atr : Nat → Nat) (ase : Nat → Nat) (af3 : Nat → Nat) (ac3 : Nat → Nat) (atr3 : Nat → Nat) (ase3 : Nat → Nat) (x1 : Int32) (x2 : Int32) (Ma : ST) (Fo : ST) (Sc : ST) (Se : ST) (Fo3 : ST) (Sc3 : ST) (Se3 : ST) (Tr3 : ST) (r0 : Int32) (Maz : ST) (Fo3z : ST) (Sc3z : ST) (Se3z : ST) (Tr3z : ST) (hf : fX7_odds x1 x2 Ma Fo Sc Se Fo3 Sc3 Se3 Tr3 = some (r0, Maz, Fo3z, Sc3z, Se3z, Tr3z)) : CG l yX7_odds (wsm yX7_odds cX7_odds 8 (some .int)) rmX7_odds D cs [.ref (ama 0), .int x1, .int x2] (some (.int r0)) ((kX7 cs ama (.ref (are 0)) (.ref (are2 0)) (.ref (are3 0)) (.ref (ach 0)) (.ref (ata 0)) (.ref (asa 0)) Ma) ++ ((kX2 cs are (.ref (af 0)) (.ref (ac 0)) (.ref (atr 0)) (.ref (ase 0)) ) ++ ((kX1 cs af  Fo) ++ ((kX3 cs ac  Sc) ++ ((kX4 cs ase (.ref (af 0)) (.ref (ac 0)) (.ref (atr 0)) Se) ++ ((kX2 cs are3 (.ref (af3 0)) (.ref (ac3 0)) (.ref (atr3 0)) (.ref (ase3 0)) ) ++ ((kX1 cs af3  Fo3) ++ ((kX3 cs ac3  Sc3) ++ ((kX4 cs ase3 (.ref (af3 0)) (.ref (ac3 0)) (.ref (atr3 0)) Se3) ++ ((kX4 cs atr3 (.ref (af3 0)) (.ref (ac3 0)) .null Tr3))))))))))) ((kX7 cs ama (.ref (are 0)) (.ref (are2 0)) (.ref (are3 0)) (.ref (ach 0)) (.ref (ata 0)) (.ref (asa 0)) Maz) ++ ((kX2 cs are (.ref (af 0)) (.ref (ac 0)) (.ref (atr 0)) (.ref (ase 0)) ) ++ ((kX1 cs af  Fo) ++ ((kX3 cs ac  Sc) ++ ((kX4 cs ase (.ref (af 0)) (.ref (ac 0)) (.ref (atr 0)) Se) ++ ((kX2 cs are3 (.ref (af3 0)) (.ref (ac3 0)) (.ref (atr3 0)) (.ref (ase3 0)) ) ++ ((kX1 cs af3  Fo3z) ++ ((kX3 cs ac3  Sc3z) ++ ((kX4 cs ase3 (.ref (af3 0)) (.ref (ac3 0)) (.ref (atr3 0)) Se3z) ++ ((kX4 cs atr3 (.ref (af3 0)) (.ref (ac3 0)) .null Tr3z))))))))))) := by
  refine CG.intro (by decide) (Nat.le_of_ble_eq_true rfl) ?_
  intro p e s m below meth c A Q hx hb hml hown hu hK hZ hP0 hD0 hS0 hA hri hrz hrl hrv hra ls0 hl0
  have h18 : ∀ (Ma : ST) (Fo3 : ST) (Sc3 : ST) (Se3 : ST) (Tr3 : ST) (H : Heap) (locs : List Loc) (ls : Array Slot), va_P D vwCl ((kX7 cs ama (.ref (are 0)) (.ref (are2 0)) (.ref (are3 0)) (.ref (ach 0)) (.ref (ata 0)) (.ref (asa 0)) Ma) ++ ((kX2 cs are (.ref (af 0)) (.ref (ac 0)) (.ref (atr 0)) (.ref (ase 0)) ) ++ ((kX1 cs af  Fo) ++ ((kX3 cs ac  Sc) ++ ((kX4 cs ase (.ref (af 0)) (.ref (ac 0)) (.ref (atr 0)) Se) ++ ((kX2 cs are3 (.ref (af3 0)) (.ref (ac3 0)) (.ref (atr3 0)) (.ref (ase3 0)) ) ++ ((kX1 cs af3  Fo3) ++ ((kX3 cs ac3  Sc3) ++ ((kX4 cs ase3 (.ref (af3 0)) (.ref (ac3 0)) (.ref (atr3 0)) Se3) ++ ((kX4 cs atr3 (.ref (af3 0)) (.ref (ac3 0)) .null Tr3))))))))))) H → va_D A ((kX7 cs ama (.ref (are 0)) (.ref (are2 0)) (.ref (are3 0)) (.ref (ach 0)) (.ref (ata 0)) (.ref (asa 0)) Ma) ++ ((kX2 cs are (.ref (af 0)) (.ref (ac 0)) (.ref (atr 0)) (.ref (ase 0)) ) ++ ((kX1 cs af  Fo) ++ ((kX3 cs ac  Sc) ++ ((kX4 cs ase (.ref (af 0)) (.ref (ac 0)) (.ref (atr 0)) Se) ++ ((kX2 cs are3 (.ref (af3 0)) (.ref (ac3 0)) (.ref (atr3 0)) (.ref (ase3 0)) ) ++ ((kX1 cs af3  Fo3) ++ ((kX3 cs ac3  Sc3) ++ ((kX4 cs ase3 (.ref (af3 0)) (.ref (ac3 0)) (.ref (atr3 0)) Se3) ++ ((kX4 cs atr3 (.ref (af3 0)) (.ref (ac3 0)) .null Tr3))))))))))) → va_S A s.heap H locs → lv_has ls 8 [(0, .ref (ama 0))] → fX7_odds_18 Fo Sc Se Ma Fo3 Sc3 Se3 Tr3 = some (r0, Maz, Fo3z, Sc3z, Se3z, Tr3z) → W p l e rmX7_odds s m [.ref (ama 0), .int x1, .int x2].toArray below meth c H locs 0 0 Q (F0 m 18 ls []) := by
    intro Ma Fo3 Sc3 Se3 Tr3 H locs ls hP hD hS hl hf
    unfold fX7_odds_18 at hf
    refine lv_aload_n hx hb dX7_odds_18 rfl (lv_at hl 0 rfl) ?_
    refine lv_ldc (v := (-1000000001)) hx hb hown (hu _ q335) dX7_odds_19 ?_
    obtain ⟨r4, Ma_5, hg6, hf⟩ := b2_el hf
    refine cc_V (w' := ((kX7 cs ama (.ref (are 0)) (.ref (are2 0)) (.ref (are3 0)) (.ref (ach 0)) (.ref (ata 0)) (.ref (asa 0)) Ma_5) ++ ((kX2 cs are (.ref (af 0)) (.ref (ac 0)) (.ref (atr 0)) (.ref (ase 0)) ) ++ ((kX1 cs af  Fo) ++ ((kX3 cs ac  Sc) ++ ((kX4 cs ase (.ref (af 0)) (.ref (ac 0)) (.ref (atr 0)) Se) ++ ((kX2 cs are3 (.ref (af3 0)) (.ref (ac3 0)) (.ref (atr3 0)) (.ref (ase3 0)) ) ++ ((kX1 cs af3  Fo3) ++ ((kX3 cs ac3  Sc3) ++ ((kX4 cs ase3 (.ref (af3 0)) (.ref (ac3 0)) (.ref (atr3 0)) Se3) ++ ((kX4 cs atr3 (.ref (af3 0)) (.ref (ac3 0)) .null Tr3)))))))))))) (wr := ((kX2 cs are (.ref (af 0)) (.ref (ac 0)) (.ref (atr 0)) (.ref (ase 0)) ) ++ ((kX1 cs af  Fo) ++ ((kX3 cs ac  Sc) ++ ((kX4 cs ase (.ref (af 0)) (.ref (ac 0)) (.ref (atr 0)) Se) ++ ((kX2 cs are3 (.ref (af3 0)) (.ref (ac3 0)) (.ref (atr3 0)) (.ref (ase3 0)) ) ++ ((kX1 cs af3  Fo3) ++ ((kX3 cs ac3  Sc3) ++ ((kX4 cs ase3 (.ref (af3 0)) (.ref (ac3 0)) (.ref (atr3 0)) Se3) ++ ((kX4 cs atr3 (.ref (af3 0)) (.ref (ac3 0)) .null Tr3))))))))))) (st1 := [.int r4]) [.int (-1000000001)] hx hb hml hown hu (tX7_finding l D cs ama are are2 are3 ach ata asa (-1000000001) Ma r4 Ma_5 hg6) q339 q54 q336 q338 q0 pdX7_finding ⟨rfl, rfl, Nat.le_of_ble_eq_true rfl, Nat.le_of_ble_eq_true rfl⟩ hK hZ hP hD hS hA [0, 1] [2, 3, 4, 5, 6, 7, 8, 9, 10, 11, 12, 13, 14, 15, 16, 17, 18, 19, 20, 21, 22, 23, 24, 25, 26, 27, 28, 29, 30, 31, 32, 33, 34, 35] [34, 35, 0, 1, 2, 3, 4, 5, 6, 7, 8, 9, 10, 11, 12, 13, 14, 15, 16, 17, 18, 19, 20, 21, 22, 23, 24, 25, 26, 27, 28, 29, 30, 31, 32, 33] rfl rfl rfl rfl rfl rfl rfl rfl rfl rfl hl.1 rfl (Nat.le_of_ble_eq_true rfl) dX7_odds_21 rfl (fun H locs hP hD hS => ?_)
    have he := Option.some.inj hf
    obtain ⟨e0, ht0⟩ := Prod.mk.inj he
    obtain ⟨e1, ht1⟩ := Prod.mk.inj ht0
    obtain ⟨e2, ht2⟩ := Prod.mk.inj ht1
    obtain ⟨e3, ht3⟩ := Prod.mk.inj ht2
    obtain ⟨e4, e5⟩ := Prod.mk.inj ht3
    exact hri _ _ _ rfl (congrArg (fun z => some (Value.int z)) e0.symm) dX7_odds_24 _ _ _ (by rw [e1, e2, e3, e4, e5]) hP hD hS
  have h130 : ∀ (k42 : Int32 → Int32 → Int32 → Int32 → Int32 → ST → ST → ST → ST → ST → Option (Int32 × ST × ST × ST × ST × ST)), (∀ (y1 : Int32) (y2 : Int32) (y3 : Int32) (y4 : Int32) (y5 : Int32) (Ma : ST) (Fo3 : ST) (Sc3 : ST) (Se3 : ST) (Tr3 : ST) (H : Heap) (locs : List Loc) (ls : Array Slot), va_P D vwCl ((kX7 cs ama (.ref (are 0)) (.ref (are2 0)) (.ref (are3 0)) (.ref (ach 0)) (.ref (ata 0)) (.ref (asa 0)) Ma) ++ ((kX2 cs are (.ref (af 0)) (.ref (ac 0)) (.ref (atr 0)) (.ref (ase 0)) ) ++ ((kX1 cs af  Fo) ++ ((kX3 cs ac  Sc) ++ ((kX4 cs ase (.ref (af 0)) (.ref (ac 0)) (.ref (atr 0)) Se) ++ ((kX2 cs are3 (.ref (af3 0)) (.ref (ac3 0)) (.ref (atr3 0)) (.ref (ase3 0)) ) ++ ((kX1 cs af3  Fo3) ++ ((kX3 cs ac3  Sc3) ++ ((kX4 cs ase3 (.ref (af3 0)) (.ref (ac3 0)) (.ref (atr3 0)) Se3) ++ ((kX4 cs atr3 (.ref (af3 0)) (.ref (ac3 0)) .null Tr3))))))))))) H → va_D A ((kX7 cs ama (.ref (are 0)) (.ref (are2 0)) (.ref (are3 0)) (.ref (ach 0)) (.ref (ata 0)) (.ref (asa 0)) Ma) ++ ((kX2 cs are (.ref (af 0)) (.ref (ac 0)) (.ref (atr 0)) (.ref (ase 0)) ) ++ ((kX1 cs af  Fo) ++ ((kX3 cs ac  Sc) ++ ((kX4 cs ase (.ref (af 0)) (.ref (ac 0)) (.ref (atr 0)) Se) ++ ((kX2 cs are3 (.ref (af3 0)) (.ref (ac3 0)) (.ref (atr3 0)) (.ref (ase3 0)) ) ++ ((kX1 cs af3  Fo3) ++ ((kX3 cs ac3  Sc3) ++ ((kX4 cs ase3 (.ref (af3 0)) (.ref (ac3 0)) (.ref (atr3 0)) Se3) ++ ((kX4 cs atr3 (.ref (af3 0)) (.ref (ac3 0)) .null Tr3))))))))))) → va_S A s.heap H locs → lv_has ls 8 [(0, .ref (ama 0)), (1, .int y1), (2, .int y2), (3, .int y3), (4, .int y4), (5, .int y5)] → k42 y1 y2 y3 y4 y5 Ma Fo3 Sc3 Se3 Tr3 = some (r0, Maz, Fo3z, Sc3z, Se3z, Tr3z) → W p l e rmX7_odds s m [.ref (ama 0), .int x1, .int x2].toArray below meth c H locs 0 0 Q (F0 m 42 ls [])) → ∀ (y1 : Int32) (y2 : Int32) (y3 : Int32) (y5 : Int32) (Ma : ST) (Fo3 : ST) (Sc3 : ST) (Se3 : ST) (Tr3 : ST) (H : Heap) (locs : List Loc) (ls : Array Slot), va_P D vwCl ((kX7 cs ama (.ref (are 0)) (.ref (are2 0)) (.ref (are3 0)) (.ref (ach 0)) (.ref (ata 0)) (.ref (asa 0)) Ma) ++ ((kX2 cs are (.ref (af 0)) (.ref (ac 0)) (.ref (atr 0)) (.ref (ase 0)) ) ++ ((kX1 cs af  Fo) ++ ((kX3 cs ac  Sc) ++ ((kX4 cs ase (.ref (af 0)) (.ref (ac 0)) (.ref (atr 0)) Se) ++ ((kX2 cs are3 (.ref (af3 0)) (.ref (ac3 0)) (.ref (atr3 0)) (.ref (ase3 0)) ) ++ ((kX1 cs af3  Fo3) ++ ((kX3 cs ac3  Sc3) ++ ((kX4 cs ase3 (.ref (af3 0)) (.ref (ac3 0)) (.ref (atr3 0)) Se3) ++ ((kX4 cs atr3 (.ref (af3 0)) (.ref (ac3 0)) .null Tr3))))))))))) H → va_D A ((kX7 cs ama (.ref (are 0)) (.ref (are2 0)) (.ref (are3 0)) (.ref (ach 0)) (.ref (ata 0)) (.ref (asa 0)) Ma) ++ ((kX2 cs are (.ref (af 0)) (.ref (ac 0)) (.ref (atr 0)) (.ref (ase 0)) ) ++ ((kX1 cs af  Fo) ++ ((kX3 cs ac  Sc) ++ ((kX4 cs ase (.ref (af 0)) (.ref (ac 0)) (.ref (atr 0)) Se) ++ ((kX2 cs are3 (.ref (af3 0)) (.ref (ac3 0)) (.ref (atr3 0)) (.ref (ase3 0)) ) ++ ((kX1 cs af3  Fo3) ++ ((kX3 cs ac3  Sc3) ++ ((kX4 cs ase3 (.ref (af3 0)) (.ref (ac3 0)) (.ref (atr3 0)) Se3) ++ ((kX4 cs atr3 (.ref (af3 0)) (.ref (ac3 0)) .null Tr3))))))))))) → va_S A s.heap H locs → lv_has ls 8 [(0, .ref (ama 0)), (1, .int y1), (2, .int y2), (3, .int y3), (5, .int y5)] → fX7_odds_130 Fo Sc Se k42 y1 y2 y3 y5 Ma Fo3 Sc3 Se3 Tr3 = some (r0, Maz, Fo3z, Sc3z, Se3z, Tr3z) → W p l e rmX7_odds s m [.ref (ama 0), .int x1, .int x2].toArray below meth c H locs 0 0 Q (F0 m 130 ls []) := by
    intro k42 hk42 y1 y2 y3 y5 Ma Fo3 Sc3 Se3 Tr3 H locs ls hP hD hS hl hf
    unfold fX7_odds_130 at hf
    refine lv_aload_n hx hb dX7_odds_130 rfl (lv_at hl 0 rfl) ?_
    refine va_get (D := D) (ci := 7) (v := .ref (are3 0)) (C := RX7) (T := TX7) (N := 8) hx hb hu inX7 hown hK.1 hP 0 rfl rfl 2 (by decide) (hu _ q302) (fun _ h9 => h9) rfl dX7_odds_131 ?_
    refine va_get (D := D) (ci := 2) (v := .ref (af3 0)) (C := RX2) (T := TX2) (N := 4) hx hb hu inX2 hown hK.1 hP 17 rfl rfl 0 (by decide) (hu _ q196) (fun _ h9 => h9) rfl dX7_odds_134 ?_
    refine va_get (D := D) (ci := 1) (v := .int (Fo3 0 8)) (C := RX1) (T := TX1) (N := 9) hx hb hu inX1 hown hK.1 hP 18 rfl rfl 8 (by decide) (hu _ q113) (fun _ h9 => h9) rfl dX7_odds_137 ?_
    obtain ⟨v19, hv19, hf⟩ := lt_el hf
    refine lv_tope hv19 ?_
    refine lv_istore (lv' := [(4, .int v19), (0, .ref (ama 0)), (1, .int y1), (2, .int y2), (3, .int y3), (5, .int y5)]) hx hb dX7_odds_140 hl (by decide) rfl (fun ls hl => ?_)
    obtain ⟨v20, hv20, hf⟩ := lt_el hf
    refine lv_iinc (v := v20) (lv' := [(5, .int v20), (4, .int v19), (0, .ref (ama 0)), (1, .int y1), (2, .int y2), (3, .int y3)]) hx hb dX7_odds_142 hl (k := 5) rfl (by rw [hv20]; rfl) (by decide) rfl (fun ls hl => ?_)
    refine lv_goto (tgt := 42) hx hb dX7_odds_145 (by decide) ?_
    exact hk42 y1 y2 y3 v19 v20 Ma Fo3 Sc3 Se3 Tr3 _ _ _ hP hD hS (lv_sub hl [2, 3, 4, 5, 1, 0] rfl) hf
  have h108 : ∀ (k42 : Int32 → Int32 → Int32 → Int32 → Int32 → ST → ST → ST → ST → ST → Option (Int32 × ST × ST × ST × ST × ST)), (∀ (y1 : Int32) (y2 : Int32) (y3 : Int32) (y4 : Int32) (y5 : Int32) (Ma : ST) (Fo3 : ST) (Sc3 : ST) (Se3 : ST) (Tr3 : ST) (H : Heap) (locs : List Loc) (ls : Array Slot), va_P D vwCl ((kX7 cs ama (.ref (are 0)) (.ref (are2 0)) (.ref (are3 0)) (.ref (ach 0)) (.ref (ata 0)) (.ref (asa 0)) Ma) ++ ((kX2 cs are (.ref (af 0)) (.ref (ac 0)) (.ref (atr 0)) (.ref (ase 0)) ) ++ ((kX1 cs af  Fo) ++ ((kX3 cs ac  Sc) ++ ((kX4 cs ase (.ref (af 0)) (.ref (ac 0)) (.ref (atr 0)) Se) ++ ((kX2 cs are3 (.ref (af3 0)) (.ref (ac3 0)) (.ref (atr3 0)) (.ref (ase3 0)) ) ++ ((kX1 cs af3  Fo3) ++ ((kX3 cs ac3  Sc3) ++ ((kX4 cs ase3 (.ref (af3 0)) (.ref (ac3 0)) (.ref (atr3 0)) Se3) ++ ((kX4 cs atr3 (.ref (af3 0)) (.ref (ac3 0)) .null Tr3))))))))))) H → va_D A ((kX7 cs ama (.ref (are 0)) (.ref (are2 0)) (.ref (are3 0)) (.ref (ach 0)) (.ref (ata 0)) (.ref (asa 0)) Ma) ++ ((kX2 cs are (.ref (af 0)) (.ref (ac 0)) (.ref (atr 0)) (.ref (ase 0)) ) ++ ((kX1 cs af  Fo) ++ ((kX3 cs ac  Sc) ++ ((kX4 cs ase (.ref (af 0)) (.ref (ac 0)) (.ref (atr 0)) Se) ++ ((kX2 cs are3 (.ref (af3 0)) (.ref (ac3 0)) (.ref (atr3 0)) (.ref (ase3 0)) ) ++ ((kX1 cs af3  Fo3) ++ ((kX3 cs ac3  Sc3) ++ ((kX4 cs ase3 (.ref (af3 0)) (.ref (ac3 0)) (.ref (atr3 0)) Se3) ++ ((kX4 cs atr3 (.ref (af3 0)) (.ref (ac3 0)) .null Tr3))))))))))) → va_S A s.heap H locs → lv_has ls 8 [(0, .ref (ama 0)), (1, .int y1), (2, .int y2), (3, .int y3), (4, .int y4), (5, .int y5)] → k42 y1 y2 y3 y4 y5 Ma Fo3 Sc3 Se3 Tr3 = some (r0, Maz, Fo3z, Sc3z, Se3z, Tr3z) → W p l e rmX7_odds s m [.ref (ama 0), .int x1, .int x2].toArray below meth c H locs 0 0 Q (F0 m 42 ls [])) → ∀ (y1 : Int32) (y2 : Int32) (y3 : Int32) (y5 : Int32) (y6 : Int32) (Ma : ST) (Fo3 : ST) (Sc3 : ST) (Se3 : ST) (Tr3 : ST) (H : Heap) (locs : List Loc) (ls : Array Slot), va_P D vwCl ((kX7 cs ama (.ref (are 0)) (.ref (are2 0)) (.ref (are3 0)) (.ref (ach 0)) (.ref (ata 0)) (.ref (asa 0)) Ma) ++ ((kX2 cs are (.ref (af 0)) (.ref (ac 0)) (.ref (atr 0)) (.ref (ase 0)) ) ++ ((kX1 cs af  Fo) ++ ((kX3 cs ac  Sc) ++ ((kX4 cs ase (.ref (af 0)) (.ref (ac 0)) (.ref (atr 0)) Se) ++ ((kX2 cs are3 (.ref (af3 0)) (.ref (ac3 0)) (.ref (atr3 0)) (.ref (ase3 0)) ) ++ ((kX1 cs af3  Fo3) ++ ((kX3 cs ac3  Sc3) ++ ((kX4 cs ase3 (.ref (af3 0)) (.ref (ac3 0)) (.ref (atr3 0)) Se3) ++ ((kX4 cs atr3 (.ref (af3 0)) (.ref (ac3 0)) .null Tr3))))))))))) H → va_D A ((kX7 cs ama (.ref (are 0)) (.ref (are2 0)) (.ref (are3 0)) (.ref (ach 0)) (.ref (ata 0)) (.ref (asa 0)) Ma) ++ ((kX2 cs are (.ref (af 0)) (.ref (ac 0)) (.ref (atr 0)) (.ref (ase 0)) ) ++ ((kX1 cs af  Fo) ++ ((kX3 cs ac  Sc) ++ ((kX4 cs ase (.ref (af 0)) (.ref (ac 0)) (.ref (atr 0)) Se) ++ ((kX2 cs are3 (.ref (af3 0)) (.ref (ac3 0)) (.ref (atr3 0)) (.ref (ase3 0)) ) ++ ((kX1 cs af3  Fo3) ++ ((kX3 cs ac3  Sc3) ++ ((kX4 cs ase3 (.ref (af3 0)) (.ref (ac3 0)) (.ref (atr3 0)) Se3) ++ ((kX4 cs atr3 (.ref (af3 0)) (.ref (ac3 0)) .null Tr3))))))))))) → va_S A s.heap H locs → lv_has ls 8 [(0, .ref (ama 0)), (1, .int y1), (2, .int y2), (3, .int y3), (5, .int y5), (6, .int y6)] → fX7_odds_108 Fo Sc Se k42 y1 y2 y3 y5 y6 Ma Fo3 Sc3 Se3 Tr3 = some (r0, Maz, Fo3z, Sc3z, Se3z, Tr3z) → W p l e rmX7_odds s m [.ref (ama 0), .int x1, .int x2].toArray below meth c H locs 0 0 Q (F0 m 108 ls []) := by
    intro k42 hk42 y1 y2 y3 y5 y6 Ma Fo3 Sc3 Se3 Tr3 H locs ls hP hD hS hl hf
    unfold fX7_odds_108 at hf
    refine lv_iload hx hb dX7_odds_108 (lv_at hl 5 rfl) ?_
    refine lv_if_eq (tgt := 130) hx hb dX7_odds_110 (by decide) (fun hc18 => ?_) (fun hc18 => ?_)
    · have hf := ip_el hc18 hf
      exact h130 k42 hk42 y1 y2 y3 y5 Ma Fo3 Sc3 Se3 Tr3 _ _ _ hP hD hS (lv_sub hl [0, 1, 2, 3, 4] rfl) hf
    · have hf := in_el hc18 hf
      refine lv_aload_n hx hb dX7_odds_113 rfl (lv_at hl 0 rfl) ?_
      refine va_get (D := D) (ci := 7) (v := .ref (are3 0)) (C := RX7) (T := TX7) (N := 8) hx hb hu inX7 hown hK.1 hP 0 rfl rfl 2 (by decide) (hu _ q302) (fun _ h9 => h9) rfl dX7_odds_114 ?_
      refine va_get (D := D) (ci := 2) (v := .ref (ase3 0)) (C := RX2) (T := TX2) (N := 4) hx hb hu inX2 hown hK.1 hP 17 rfl rfl 3 (by decide) (hu _ q204) (fun _ h9 => h9) rfl dX7_odds_117 ?_
      refine va_get (D := D) (ci := 4) (v := .int (Se3 0 6)) (C := RX4) (T := TX4) (N := 10) hx hb hu inX4 hown hK.1 hP 28 rfl rfl 6 (by decide) (hu _ q168) (fun _ h9 => h9) rfl dX7_odds_120 ?_
      refine lv_iload_n hx hb dX7_odds_123 rfl (lv_at hl 1 rfl) ?_
      refine lv_icmp_ne (tgt := 130) hx hb dX7_odds_124 (by decide) (fun hc21 => ?_) (fun hc21 => ?_)
      · have hf := in_el hc21 hf
        exact h130 k42 hk42 y1 y2 y3 y5 Ma Fo3 Sc3 Se3 Tr3 _ _ _ hP hD hS (lv_sub hl [0, 1, 2, 3, 4] rfl) hf
      · have hf := ip_el hc21 hf
        obtain ⟨v22, hv22, hf⟩ := lt_el hf
        refine lv_iinc (v := v22) (lv' := [(3, .int v22), (0, .ref (ama 0)), (1, .int y1), (2, .int y2), (5, .int y5), (6, .int y6)]) hx hb dX7_odds_127 hl (k := 3) rfl (by rw [hv22]; rfl) (by decide) rfl (fun ls hl => ?_)
        exact h130 k42 hk42 y1 y2 v22 y5 Ma Fo3 Sc3 Se3 Tr3 _ _ _ hP hD hS (lv_sub hl [1, 2, 3, 0, 4] rfl) hf
  have hs77 : ∀ (k42 : Int32 → Int32 → Int32 → Int32 → Int32 → ST → ST → ST → ST → ST → Option (Int32 × ST × ST × ST × ST × ST)), (∀ (y1 : Int32) (y2 : Int32) (y3 : Int32) (y4 : Int32) (y5 : Int32) (Ma : ST) (Fo3 : ST) (Sc3 : ST) (Se3 : ST) (Tr3 : ST) (H : Heap) (locs : List Loc) (ls : Array Slot), va_P D vwCl ((kX7 cs ama (.ref (are 0)) (.ref (are2 0)) (.ref (are3 0)) (.ref (ach 0)) (.ref (ata 0)) (.ref (asa 0)) Ma) ++ ((kX2 cs are (.ref (af 0)) (.ref (ac 0)) (.ref (atr 0)) (.ref (ase 0)) ) ++ ((kX1 cs af  Fo) ++ ((kX3 cs ac  Sc) ++ ((kX4 cs ase (.ref (af 0)) (.ref (ac 0)) (.ref (atr 0)) Se) ++ ((kX2 cs are3 (.ref (af3 0)) (.ref (ac3 0)) (.ref (atr3 0)) (.ref (ase3 0)) ) ++ ((kX1 cs af3  Fo3) ++ ((kX3 cs ac3  Sc3) ++ ((kX4 cs ase3 (.ref (af3 0)) (.ref (ac3 0)) (.ref (atr3 0)) Se3) ++ ((kX4 cs atr3 (.ref (af3 0)) (.ref (ac3 0)) .null Tr3))))))))))) H → va_D A ((kX7 cs ama (.ref (are 0)) (.ref (are2 0)) (.ref (are3 0)) (.ref (ach 0)) (.ref (ata 0)) (.ref (asa 0)) Ma) ++ ((kX2 cs are (.ref (af 0)) (.ref (ac 0)) (.ref (atr 0)) (.ref (ase 0)) ) ++ ((kX1 cs af  Fo) ++ ((kX3 cs ac  Sc) ++ ((kX4 cs ase (.ref (af 0)) (.ref (ac 0)) (.ref (atr 0)) Se) ++ ((kX2 cs are3 (.ref (af3 0)) (.ref (ac3 0)) (.ref (atr3 0)) (.ref (ase3 0)) ) ++ ((kX1 cs af3  Fo3) ++ ((kX3 cs ac3  Sc3) ++ ((kX4 cs ase3 (.ref (af3 0)) (.ref (ac3 0)) (.ref (atr3 0)) Se3) ++ ((kX4 cs atr3 (.ref (af3 0)) (.ref (ac3 0)) .null Tr3))))))))))) → va_S A s.heap H locs → lv_has ls 8 [(0, .ref (ama 0)), (1, .int y1), (2, .int y2), (3, .int y3), (4, .int y4), (5, .int y5)] → k42 y1 y2 y3 y4 y5 Ma Fo3 Sc3 Se3 Tr3 = some (r0, Maz, Fo3z, Sc3z, Se3z, Tr3z) → W p l e rmX7_odds s m [.ref (ama 0), .int x1, .int x2].toArray below meth c H locs 0 0 Q (F0 m 42 ls [])) → ∀ (k77 : Int32 → Int32 → Int32 → Int32 → Int32 → Int32 → ST → ST → ST → ST → ST → Option (Int32 × ST × ST × ST × ST × ST)), (∀ (y1 : Int32) (y2 : Int32) (y3 : Int32) (y5 : Int32) (y6 : Int32) (y7 : Int32) (Ma : ST) (Fo3 : ST) (Sc3 : ST) (Se3 : ST) (Tr3 : ST) (H : Heap) (locs : List Loc) (ls : Array Slot), va_P D vwCl ((kX7 cs ama (.ref (are 0)) (.ref (are2 0)) (.ref (are3 0)) (.ref (ach 0)) (.ref (ata 0)) (.ref (asa 0)) Ma) ++ ((kX2 cs are (.ref (af 0)) (.ref (ac 0)) (.ref (atr 0)) (.ref (ase 0)) ) ++ ((kX1 cs af  Fo) ++ ((kX3 cs ac  Sc) ++ ((kX4 cs ase (.ref (af 0)) (.ref (ac 0)) (.ref (atr 0)) Se) ++ ((kX2 cs are3 (.ref (af3 0)) (.ref (ac3 0)) (.ref (atr3 0)) (.ref (ase3 0)) ) ++ ((kX1 cs af3  Fo3) ++ ((kX3 cs ac3  Sc3) ++ ((kX4 cs ase3 (.ref (af3 0)) (.ref (ac3 0)) (.ref (atr3 0)) Se3) ++ ((kX4 cs atr3 (.ref (af3 0)) (.ref (ac3 0)) .null Tr3))))))))))) H → va_D A ((kX7 cs ama (.ref (are 0)) (.ref (are2 0)) (.ref (are3 0)) (.ref (ach 0)) (.ref (ata 0)) (.ref (asa 0)) Ma) ++ ((kX2 cs are (.ref (af 0)) (.ref (ac 0)) (.ref (atr 0)) (.ref (ase 0)) ) ++ ((kX1 cs af  Fo) ++ ((kX3 cs ac  Sc) ++ ((kX4 cs ase (.ref (af 0)) (.ref (ac 0)) (.ref (atr 0)) Se) ++ ((kX2 cs are3 (.ref (af3 0)) (.ref (ac3 0)) (.ref (atr3 0)) (.ref (ase3 0)) ) ++ ((kX1 cs af3  Fo3) ++ ((kX3 cs ac3  Sc3) ++ ((kX4 cs ase3 (.ref (af3 0)) (.ref (ac3 0)) (.ref (atr3 0)) Se3) ++ ((kX4 cs atr3 (.ref (af3 0)) (.ref (ac3 0)) .null Tr3))))))))))) → va_S A s.heap H locs → lv_has ls 8 [(0, .ref (ama 0)), (1, .int y1), (2, .int y2), (3, .int y3), (5, .int y5), (6, .int y6), (7, .int y7)] → k77 y1 y2 y3 y5 y6 y7 Ma Fo3 Sc3 Se3 Tr3 = some (r0, Maz, Fo3z, Sc3z, Se3z, Tr3z) → W p l e rmX7_odds s m [.ref (ama 0), .int x1, .int x2].toArray below meth c H locs 0 0 Q (F0 m 77 ls [])) → ∀ (y1 : Int32) (y2 : Int32) (y3 : Int32) (y5 : Int32) (y6 : Int32) (y7 : Int32) (Ma : ST) (Fo3 : ST) (Sc3 : ST) (Se3 : ST) (Tr3 : ST) (H : Heap) (locs : List Loc) (ls : Array Slot), va_P D vwCl ((kX7 cs ama (.ref (are 0)) (.ref (are2 0)) (.ref (are3 0)) (.ref (ach 0)) (.ref (ata 0)) (.ref (asa 0)) Ma) ++ ((kX2 cs are (.ref (af 0)) (.ref (ac 0)) (.ref (atr 0)) (.ref (ase 0)) ) ++ ((kX1 cs af  Fo) ++ ((kX3 cs ac  Sc) ++ ((kX4 cs ase (.ref (af 0)) (.ref (ac 0)) (.ref (atr 0)) Se) ++ ((kX2 cs are3 (.ref (af3 0)) (.ref (ac3 0)) (.ref (atr3 0)) (.ref (ase3 0)) ) ++ ((kX1 cs af3  Fo3) ++ ((kX3 cs ac3  Sc3) ++ ((kX4 cs ase3 (.ref (af3 0)) (.ref (ac3 0)) (.ref (atr3 0)) Se3) ++ ((kX4 cs atr3 (.ref (af3 0)) (.ref (ac3 0)) .null Tr3))))))))))) H → va_D A ((kX7 cs ama (.ref (are 0)) (.ref (are2 0)) (.ref (are3 0)) (.ref (ach 0)) (.ref (ata 0)) (.ref (asa 0)) Ma) ++ ((kX2 cs are (.ref (af 0)) (.ref (ac 0)) (.ref (atr 0)) (.ref (ase 0)) ) ++ ((kX1 cs af  Fo) ++ ((kX3 cs ac  Sc) ++ ((kX4 cs ase (.ref (af 0)) (.ref (ac 0)) (.ref (atr 0)) Se) ++ ((kX2 cs are3 (.ref (af3 0)) (.ref (ac3 0)) (.ref (atr3 0)) (.ref (ase3 0)) ) ++ ((kX1 cs af3  Fo3) ++ ((kX3 cs ac3  Sc3) ++ ((kX4 cs ase3 (.ref (af3 0)) (.ref (ac3 0)) (.ref (atr3 0)) Se3) ++ ((kX4 cs atr3 (.ref (af3 0)) (.ref (ac3 0)) .null Tr3))))))))))) → va_S A s.heap H locs → lv_has ls 8 [(0, .ref (ama 0)), (1, .int y1), (2, .int y2), (3, .int y3), (5, .int y5), (6, .int y6), (7, .int y7)] → fX7_odds_77_s Fo Sc Se k42 k77 y1 y2 y3 y5 y6 y7 Ma Fo3 Sc3 Se3 Tr3 = some (r0, Maz, Fo3z, Sc3z, Se3z, Tr3z) → W p l e rmX7_odds s m [.ref (ama 0), .int x1, .int x2].toArray below meth c H locs 0 0 Q (F0 m 77 ls []) := by
    intro k42 hk42 k77 hk77 y1 y2 y3 y5 y6 y7 Ma Fo3 Sc3 Se3 Tr3 H locs ls hP hD hS hl hf
    unfold fX7_odds_77_s at hf
    refine lv_iload hx hb dX7_odds_77 (lv_at hl 6 rfl) ?_
    refine lv_sipush (v := 200) hx hb dX7_odds_79 (by decide) ?_
    refine lv_icmp_ge (tgt := 108) hx hb dX7_odds_82 (by decide) (fun hc17 => ?_) (fun hc17 => ?_)
    · have hf := ip_el hc17 hf
      exact h108 k42 hk42 y1 y2 y3 y5 y6 Ma Fo3 Sc3 Se3 Tr3 _ _ _ hP hD hS (lv_sub hl [0, 1, 2, 3, 4, 5] rfl) hf
    · have hf := in_el hc17 hf
      refine lv_iload hx hb dX7_odds_85 (lv_at hl 5 rfl) ?_
      refine lv_if_ne (tgt := 108) hx hb dX7_odds_87 (by decide) (fun hc23 => ?_) (fun hc23 => ?_)
      · have hf := in_el hc23 hf
        exact h108 k42 hk42 y1 y2 y3 y5 y6 Ma Fo3 Sc3 Se3 Tr3 _ _ _ hP hD hS (lv_sub hl [0, 1, 2, 3, 4, 5] rfl) hf
      · have hf := ip_el hc23 hf
        refine lv_aload_n hx hb dX7_odds_90 rfl (lv_at hl 0 rfl) ?_
        refine va_get (D := D) (ci := 7) (v := .ref (are3 0)) (C := RX7) (T := TX7) (N := 8) hx hb hu inX7 hown hK.1 hP 0 rfl rfl 2 (by decide) (hu _ q302) (fun _ h9 => h9) rfl dX7_odds_91 ?_
        refine va_get (D := D) (ci := 2) (v := .ref (ase3 0)) (C := RX2) (T := TX2) (N := 4) hx hb hu inX2 hown hK.1 hP 17 rfl rfl 3 (by decide) (hu _ q204) (fun _ h9 => h9) rfl dX7_odds_94 ?_
        obtain ⟨r24, Se3_25, Fo3_26, Sc3_27, Tr3_28, hg29, hf⟩ := b5_el hf
        refine cc_V (w' := ((kX7 cs ama (.ref (are 0)) (.ref (are2 0)) (.ref (are3 0)) (.ref (ach 0)) (.ref (ata 0)) (.ref (asa 0)) Ma) ++ ((kX2 cs are (.ref (af 0)) (.ref (ac 0)) (.ref (atr 0)) (.ref (ase 0)) ) ++ ((kX1 cs af  Fo) ++ ((kX3 cs ac  Sc) ++ ((kX4 cs ase (.ref (af 0)) (.ref (ac 0)) (.ref (atr 0)) Se) ++ ((kX2 cs are3 (.ref (af3 0)) (.ref (ac3 0)) (.ref (atr3 0)) (.ref (ase3 0)) ) ++ ((kX1 cs af3  Fo3_26) ++ ((kX3 cs ac3  Sc3_27) ++ ((kX4 cs ase3 (.ref (af3 0)) (.ref (ac3 0)) (.ref (atr3 0)) Se3_25) ++ ((kX4 cs atr3 (.ref (af3 0)) (.ref (ac3 0)) .null Tr3_28)))))))))))) (wr := ((kX7 cs ama (.ref (are 0)) (.ref (are2 0)) (.ref (are3 0)) (.ref (ach 0)) (.ref (ata 0)) (.ref (asa 0)) Ma) ++ ((kX2 cs are (.ref (af 0)) (.ref (ac 0)) (.ref (atr 0)) (.ref (ase 0)) ) ++ ((kX1 cs af  Fo) ++ ((kX3 cs ac  Sc) ++ ((kX4 cs ase (.ref (af 0)) (.ref (ac 0)) (.ref (atr 0)) Se) ++ ((kX2 cs are3 (.ref (af3 0)) (.ref (ac3 0)) (.ref (atr3 0)) (.ref (ase3 0)) )))))))) (st1 := [.int r24]) [] hx hb hml hown hu (tX4_year l D cs ase3 af3 ac3 atr3 Se3 Fo3 Sc3 Tr3 r24 Se3_25 Fo3_26 Sc3_27 Tr3_28 hg29) q536 q58 q533 q534 q535 pdX4_year ⟨rfl, rfl, Nat.le_of_ble_eq_true rfl, Nat.le_of_ble_eq_true rfl⟩ hK hZ hP hD hS hA [28, 29, 30, 31, 18, 19, 20, 21, 22, 23, 24, 25, 26, 27, 32, 33, 34, 35] [0, 1, 2, 3, 4, 5, 6, 7, 8, 9, 10, 11, 12, 13, 14, 15, 16, 17] [0, 1, 2, 3, 4, 5, 6, 7, 8, 9, 10, 11, 12, 13, 14, 15, 16, 17, 22, 23, 24, 25, 26, 27, 28, 29, 30, 31, 18, 19, 20, 21, 32, 33, 34, 35] rfl rfl rfl rfl rfl rfl rfl rfl rfl rfl hl.1 rfl (Nat.le_of_ble_eq_true rfl) dX7_odds_97 rfl (fun H locs hP hD hS => ?_)
        refine lv_istore (lv' := [(6, .int r24), (0, .ref (ama 0)), (1, .int y1), (2, .int y2), (3, .int y3), (5, .int y5), (7, .int y7)]) hx hb dX7_odds_100 hl (by decide) rfl (fun ls hl => ?_)
        obtain ⟨v30, hv30, hf⟩ := lt_el hf
        refine lv_iinc (v := v30) (lv' := [(7, .int v30), (6, .int r24), (0, .ref (ama 0)), (1, .int y1), (2, .int y2), (3, .int y3), (5, .int y5)]) hx hb dX7_odds_102 hl (k := 6) rfl (by rw [hv30]; rfl) (by decide) rfl (fun ls hl => ?_)
        refine lv_goto (tgt := 77) hx hb dX7_odds_105 (by decide) ?_
        exact hk77 y1 y2 y3 y5 r24 v30 Ma Fo3_26 Sc3_27 Se3_25 Tr3_28 _ _ _ hP hD hS (lv_sub hl [2, 3, 4, 5, 6, 1, 0] rfl) hf
  have h77 : ∀ (k42 : Int32 → Int32 → Int32 → Int32 → Int32 → ST → ST → ST → ST → ST → Option (Int32 × ST × ST × ST × ST × ST)), (∀ (y1 : Int32) (y2 : Int32) (y3 : Int32) (y4 : Int32) (y5 : Int32) (Ma : ST) (Fo3 : ST) (Sc3 : ST) (Se3 : ST) (Tr3 : ST) (H : Heap) (locs : List Loc) (ls : Array Slot), va_P D vwCl ((kX7 cs ama (.ref (are 0)) (.ref (are2 0)) (.ref (are3 0)) (.ref (ach 0)) (.ref (ata 0)) (.ref (asa 0)) Ma) ++ ((kX2 cs are (.ref (af 0)) (.ref (ac 0)) (.ref (atr 0)) (.ref (ase 0)) ) ++ ((kX1 cs af  Fo) ++ ((kX3 cs ac  Sc) ++ ((kX4 cs ase (.ref (af 0)) (.ref (ac 0)) (.ref (atr 0)) Se) ++ ((kX2 cs are3 (.ref (af3 0)) (.ref (ac3 0)) (.ref (atr3 0)) (.ref (ase3 0)) ) ++ ((kX1 cs af3  Fo3) ++ ((kX3 cs ac3  Sc3) ++ ((kX4 cs ase3 (.ref (af3 0)) (.ref (ac3 0)) (.ref (atr3 0)) Se3) ++ ((kX4 cs atr3 (.ref (af3 0)) (.ref (ac3 0)) .null Tr3))))))))))) H → va_D A ((kX7 cs ama (.ref (are 0)) (.ref (are2 0)) (.ref (are3 0)) (.ref (ach 0)) (.ref (ata 0)) (.ref (asa 0)) Ma) ++ ((kX2 cs are (.ref (af 0)) (.ref (ac 0)) (.ref (atr 0)) (.ref (ase 0)) ) ++ ((kX1 cs af  Fo) ++ ((kX3 cs ac  Sc) ++ ((kX4 cs ase (.ref (af 0)) (.ref (ac 0)) (.ref (atr 0)) Se) ++ ((kX2 cs are3 (.ref (af3 0)) (.ref (ac3 0)) (.ref (atr3 0)) (.ref (ase3 0)) ) ++ ((kX1 cs af3  Fo3) ++ ((kX3 cs ac3  Sc3) ++ ((kX4 cs ase3 (.ref (af3 0)) (.ref (ac3 0)) (.ref (atr3 0)) Se3) ++ ((kX4 cs atr3 (.ref (af3 0)) (.ref (ac3 0)) .null Tr3))))))))))) → va_S A s.heap H locs → lv_has ls 8 [(0, .ref (ama 0)), (1, .int y1), (2, .int y2), (3, .int y3), (4, .int y4), (5, .int y5)] → k42 y1 y2 y3 y4 y5 Ma Fo3 Sc3 Se3 Tr3 = some (r0, Maz, Fo3z, Sc3z, Se3z, Tr3z) → W p l e rmX7_odds s m [.ref (ama 0), .int x1, .int x2].toArray below meth c H locs 0 0 Q (F0 m 42 ls [])) → ∀ (n : Nat), ∀ (y1 : Int32) (y2 : Int32) (y3 : Int32) (y5 : Int32) (y6 : Int32) (y7 : Int32) (Ma : ST) (Fo3 : ST) (Sc3 : ST) (Se3 : ST) (Tr3 : ST) (H : Heap) (locs : List Loc) (ls : Array Slot), va_P D vwCl ((kX7 cs ama (.ref (are 0)) (.ref (are2 0)) (.ref (are3 0)) (.ref (ach 0)) (.ref (ata 0)) (.ref (asa 0)) Ma) ++ ((kX2 cs are (.ref (af 0)) (.ref (ac 0)) (.ref (atr 0)) (.ref (ase 0)) ) ++ ((kX1 cs af  Fo) ++ ((kX3 cs ac  Sc) ++ ((kX4 cs ase (.ref (af 0)) (.ref (ac 0)) (.ref (atr 0)) Se) ++ ((kX2 cs are3 (.ref (af3 0)) (.ref (ac3 0)) (.ref (atr3 0)) (.ref (ase3 0)) ) ++ ((kX1 cs af3  Fo3) ++ ((kX3 cs ac3  Sc3) ++ ((kX4 cs ase3 (.ref (af3 0)) (.ref (ac3 0)) (.ref (atr3 0)) Se3) ++ ((kX4 cs atr3 (.ref (af3 0)) (.ref (ac3 0)) .null Tr3))))))))))) H → va_D A ((kX7 cs ama (.ref (are 0)) (.ref (are2 0)) (.ref (are3 0)) (.ref (ach 0)) (.ref (ata 0)) (.ref (asa 0)) Ma) ++ ((kX2 cs are (.ref (af 0)) (.ref (ac 0)) (.ref (atr 0)) (.ref (ase 0)) ) ++ ((kX1 cs af  Fo) ++ ((kX3 cs ac  Sc) ++ ((kX4 cs ase (.ref (af 0)) (.ref (ac 0)) (.ref (atr 0)) Se) ++ ((kX2 cs are3 (.ref (af3 0)) (.ref (ac3 0)) (.ref (atr3 0)) (.ref (ase3 0)) ) ++ ((kX1 cs af3  Fo3) ++ ((kX3 cs ac3  Sc3) ++ ((kX4 cs ase3 (.ref (af3 0)) (.ref (ac3 0)) (.ref (atr3 0)) Se3) ++ ((kX4 cs atr3 (.ref (af3 0)) (.ref (ac3 0)) .null Tr3))))))))))) → va_S A s.heap H locs → lv_has ls 8 [(0, .ref (ama 0)), (1, .int y1), (2, .int y2), (3, .int y3), (5, .int y5), (6, .int y6), (7, .int y7)] → fX7_odds_77 Fo Sc Se k42 n y1 y2 y3 y5 y6 y7 Ma Fo3 Sc3 Se3 Tr3 = some (r0, Maz, Fo3z, Sc3z, Se3z, Tr3z) → W p l e rmX7_odds s m [.ref (ama 0), .int x1, .int x2].toArray below meth c H locs 0 0 Q (F0 m 77 ls []) := by
    intro k42 hk42 n
    induction n with
    | zero => intro y1 y2 y3 y5 y6 y7 Ma Fo3 Sc3 Se3 Tr3 H locs ls hP hD hS hl hf; exact no_el hf
    | succ n ih => intro y1 y2 y3 y5 y6 y7 Ma Fo3 Sc3 Se3 Tr3 H locs ls hP hD hS hl hf; exact hs77 k42 hk42 _ ih y1 y2 y3 y5 y6 y7 Ma Fo3 Sc3 Se3 Tr3 _ _ _ hP hD hS hl hf
  have hs42 : ∀ (k42 : Int32 → Int32 → Int32 → Int32 → Int32 → ST → ST → ST → ST → ST → Option (Int32 × ST × ST × ST × ST × ST)), (∀ (y1 : Int32) (y2 : Int32) (y3 : Int32) (y4 : Int32) (y5 : Int32) (Ma : ST) (Fo3 : ST) (Sc3 : ST) (Se3 : ST) (Tr3 : ST) (H : Heap) (locs : List Loc) (ls : Array Slot), va_P D vwCl ((kX7 cs ama (.ref (are 0)) (.ref (are2 0)) (.ref (are3 0)) (.ref (ach 0)) (.ref (ata 0)) (.ref (asa 0)) Ma) ++ ((kX2 cs are (.ref (af 0)) (.ref (ac 0)) (.ref (atr 0)) (.ref (ase 0)) ) ++ ((kX1 cs af  Fo) ++ ((kX3 cs ac  Sc) ++ ((kX4 cs ase (.ref (af 0)) (.ref (ac 0)) (.ref (atr 0)) Se) ++ ((kX2 cs are3 (.ref (af3 0)) (.ref (ac3 0)) (.ref (atr3 0)) (.ref (ase3 0)) ) ++ ((kX1 cs af3  Fo3) ++ ((kX3 cs ac3  Sc3) ++ ((kX4 cs ase3 (.ref (af3 0)) (.ref (ac3 0)) (.ref (atr3 0)) Se3) ++ ((kX4 cs atr3 (.ref (af3 0)) (.ref (ac3 0)) .null Tr3))))))))))) H → va_D A ((kX7 cs ama (.ref (are 0)) (.ref (are2 0)) (.ref (are3 0)) (.ref (ach 0)) (.ref (ata 0)) (.ref (asa 0)) Ma) ++ ((kX2 cs are (.ref (af 0)) (.ref (ac 0)) (.ref (atr 0)) (.ref (ase 0)) ) ++ ((kX1 cs af  Fo) ++ ((kX3 cs ac  Sc) ++ ((kX4 cs ase (.ref (af 0)) (.ref (ac 0)) (.ref (atr 0)) Se) ++ ((kX2 cs are3 (.ref (af3 0)) (.ref (ac3 0)) (.ref (atr3 0)) (.ref (ase3 0)) ) ++ ((kX1 cs af3  Fo3) ++ ((kX3 cs ac3  Sc3) ++ ((kX4 cs ase3 (.ref (af3 0)) (.ref (ac3 0)) (.ref (atr3 0)) Se3) ++ ((kX4 cs atr3 (.ref (af3 0)) (.ref (ac3 0)) .null Tr3))))))))))) → va_S A s.heap H locs → lv_has ls 8 [(0, .ref (ama 0)), (1, .int y1), (2, .int y2), (3, .int y3), (4, .int y4), (5, .int y5)] → k42 y1 y2 y3 y4 y5 Ma Fo3 Sc3 Se3 Tr3 = some (r0, Maz, Fo3z, Sc3z, Se3z, Tr3z) → W p l e rmX7_odds s m [.ref (ama 0), .int x1, .int x2].toArray below meth c H locs 0 0 Q (F0 m 42 ls [])) → ∀ (y1 : Int32) (y2 : Int32) (y3 : Int32) (y4 : Int32) (y5 : Int32) (Ma : ST) (Fo3 : ST) (Sc3 : ST) (Se3 : ST) (Tr3 : ST) (H : Heap) (locs : List Loc) (ls : Array Slot), va_P D vwCl ((kX7 cs ama (.ref (are 0)) (.ref (are2 0)) (.ref (are3 0)) (.ref (ach 0)) (.ref (ata 0)) (.ref (asa 0)) Ma) ++ ((kX2 cs are (.ref (af 0)) (.ref (ac 0)) (.ref (atr 0)) (.ref (ase 0)) ) ++ ((kX1 cs af  Fo) ++ ((kX3 cs ac  Sc) ++ ((kX4 cs ase (.ref (af 0)) (.ref (ac 0)) (.ref (atr 0)) Se) ++ ((kX2 cs are3 (.ref (af3 0)) (.ref (ac3 0)) (.ref (atr3 0)) (.ref (ase3 0)) ) ++ ((kX1 cs af3  Fo3) ++ ((kX3 cs ac3  Sc3) ++ ((kX4 cs ase3 (.ref (af3 0)) (.ref (ac3 0)) (.ref (atr3 0)) Se3) ++ ((kX4 cs atr3 (.ref (af3 0)) (.ref (ac3 0)) .null Tr3))))))))))) H → va_D A ((kX7 cs ama (.ref (are 0)) (.ref (are2 0)) (.ref (are3 0)) (.ref (ach 0)) (.ref (ata 0)) (.ref (asa 0)) Ma) ++ ((kX2 cs are (.ref (af 0)) (.ref (ac 0)) (.ref (atr 0)) (.ref (ase 0)) ) ++ ((kX1 cs af  Fo) ++ ((kX3 cs ac  Sc) ++ ((kX4 cs ase (.ref (af 0)) (.ref (ac 0)) (.ref (atr 0)) Se) ++ ((kX2 cs are3 (.ref (af3 0)) (.ref (ac3 0)) (.ref (atr3 0)) (.ref (ase3 0)) ) ++ ((kX1 cs af3  Fo3) ++ ((kX3 cs ac3  Sc3) ++ ((kX4 cs ase3 (.ref (af3 0)) (.ref (ac3 0)) (.ref (atr3 0)) Se3) ++ ((kX4 cs atr3 (.ref (af3 0)) (.ref (ac3 0)) .null Tr3))))))))))) → va_S A s.heap H locs → lv_has ls 8 [(0, .ref (ama 0)), (1, .int y1), (2, .int y2), (3, .int y3), (4, .int y4), (5, .int y5)] → fX7_odds_42_s Fo Sc Se k42 y1 y2 y3 y4 y5 Ma Fo3 Sc3 Se3 Tr3 = some (r0, Maz, Fo3z, Sc3z, Se3z, Tr3z) → W p l e rmX7_odds s m [.ref (ama 0), .int x1, .int x2].toArray below meth c H locs 0 0 Q (F0 m 42 ls []) := by
    intro k42 hk42 y1 y2 y3 y4 y5 Ma Fo3 Sc3 Se3 Tr3 H locs ls hP hD hS hl hf
    unfold fX7_odds_42_s at hf
    refine lv_iload hx hb dX7_odds_42 (lv_at hl 5 rfl) ?_
    refine lv_iload_n hx hb dX7_odds_44 rfl (lv_at hl 2 rfl) ?_
    refine lv_icmp_ge (tgt := 148) hx hb dX7_odds_45 (by decide) (fun hc11 => ?_) (fun hc11 => ?_)
    · have hf := ip_el hc11 hf
      refine lv_iload_n hx hb dX7_odds_148 rfl (lv_at hl 3 rfl) ?_
      have he := Option.some.inj hf
      obtain ⟨e0, ht0⟩ := Prod.mk.inj he
      obtain ⟨e1, ht1⟩ := Prod.mk.inj ht0
      obtain ⟨e2, ht2⟩ := Prod.mk.inj ht1
      obtain ⟨e3, ht3⟩ := Prod.mk.inj ht2
      obtain ⟨e4, e5⟩ := Prod.mk.inj ht3
      exact hri _ _ _ rfl (congrArg (fun z => some (Value.int z)) e0.symm) dX7_odds_149 _ _ _ (by rw [e1, e2, e3, e4, e5]) hP hD hS
    · have hf := in_el hc11 hf
      refine lv_aload_n hx hb dX7_odds_48 rfl (lv_at hl 0 rfl) ?_
      refine va_get (D := D) (ci := 7) (v := .ref (are3 0)) (C := RX7) (T := TX7) (N := 8) hx hb hu inX7 hown hK.1 hP 0 rfl rfl 2 (by decide) (hu _ q302) (fun _ h9 => h9) rfl dX7_odds_49 ?_
      refine lv_aload_n hx hb dX7_odds_52 rfl (lv_at hl 0 rfl) ?_
      refine va_get (D := D) (ci := 7) (v := .ref (are 0)) (C := RX7) (T := TX7) (N := 8) hx hb hu inX7 hown hK.1 hP 0 rfl rfl 0 (by decide) (hu _ q300) (fun _ h9 => h9) rfl dX7_odds_53 ?_
      obtain ⟨Fo3_12, Sc3_13, Se3_14, hg15, hf⟩ := b3_el hf
      refine cc_V (w' := ((kX7 cs ama (.ref (are 0)) (.ref (are2 0)) (.ref (are3 0)) (.ref (ach 0)) (.ref (ata 0)) (.ref (asa 0)) Ma) ++ ((kX2 cs are (.ref (af 0)) (.ref (ac 0)) (.ref (atr 0)) (.ref (ase 0)) ) ++ ((kX1 cs af  Fo) ++ ((kX3 cs ac  Sc) ++ ((kX4 cs ase (.ref (af 0)) (.ref (ac 0)) (.ref (atr 0)) Se) ++ ((kX2 cs are3 (.ref (af3 0)) (.ref (ac3 0)) (.ref (atr3 0)) (.ref (ase3 0)) ) ++ ((kX1 cs af3  Fo3_12) ++ ((kX3 cs ac3  Sc3_13) ++ ((kX4 cs ase3 (.ref (af3 0)) (.ref (ac3 0)) (.ref (atr3 0)) Se3_14) ++ ((kX4 cs atr3 (.ref (af3 0)) (.ref (ac3 0)) .null Tr3)))))))))))) (wr := ((kX7 cs ama (.ref (are 0)) (.ref (are2 0)) (.ref (are3 0)) (.ref (ach 0)) (.ref (ata 0)) (.ref (asa 0)) Ma) ++ ((kX4 cs atr3 (.ref (af3 0)) (.ref (ac3 0)) .null Tr3)))) (st1 := []) [.ref (are 0)] hx hb hml hown hu (tX2_takeFrom l D cs are3 af3 ac3 (.ref (atr3 0)) ase3 (.ref (af3 0)) (.ref (ac3 0)) (.ref (atr3 0)) are af ac (.ref (atr 0)) ase (.ref (af 0)) (.ref (ac 0)) (.ref (atr 0)) Fo3 Sc3 Se3 Fo Sc Se Fo3_12 Sc3_13 Se3_14 hg15) q658 q55 q655 q656 q657 pdX2_takeFrom ⟨rfl, rfl, Nat.le_of_ble_eq_true rfl, Nat.le_of_ble_eq_true rfl⟩ hK hZ hP hD hS hA [17, 18, 19, 20, 21, 22, 23, 24, 25, 26, 27, 28, 29, 30, 31, 2, 3, 4, 5, 6, 7, 8, 9, 10, 11, 12, 13, 14, 15, 16] [0, 1, 32, 33, 34, 35] [0, 1, 21, 22, 23, 24, 25, 26, 27, 28, 29, 30, 31, 32, 33, 34, 35, 6, 7, 8, 9, 10, 11, 12, 13, 14, 15, 16, 17, 18, 19, 20, 2, 3, 4, 5] rfl rfl rfl rfl rfl rfl rfl rfl rfl rfl hl.1 rfl (Nat.le_of_ble_eq_true rfl) dX7_odds_56 rfl (fun H locs hP hD hS => ?_)
      refine lv_aload_n hx hb dX7_odds_59 rfl (lv_at hl 0 rfl) ?_
      refine va_get (D := D) (ci := 7) (v := .ref (are3 0)) (C := RX7) (T := TX7) (N := 8) hx hb hu inX7 hown hK.1 hP 0 rfl rfl 2 (by decide) (hu _ q302) (fun _ h9 => h9) rfl dX7_odds_60 ?_
      refine va_get (D := D) (ci := 2) (v := .ref (af3 0)) (C := RX2) (T := TX2) (N := 4) hx hb hu inX2 hown hK.1 hP 17 rfl rfl 0 (by decide) (hu _ q196) (fun _ h9 => h9) rfl dX7_odds_63 ?_
      refine lv_iload hx hb dX7_odds_66 (lv_at hl 4 rfl) ?_
      obtain ⟨Fo3_16, hFo3_16, hf⟩ := lt_el hf
      refine va_put (D := D) (ci := 1) (v := .int y4) (ty := .int) (C := RX1) (T := TX1) (N := 9) hx hb hu inX1 tyX1 tyX1_ok nmX1 hown hK.1 hP hD hS 18 rfl rfl 8 (by decide) (hu _ q113) (fun _ h9 => h9) rfl (by decide +kernel) rfl rfl (Nat.le_of_ble_eq_true rfl) dX7_odds_68 (fun H locs hP hD hS => ?_)
      have hP : va_P D vwCl ((kX7 cs ama (.ref (are 0)) (.ref (are2 0)) (.ref (are3 0)) (.ref (ach 0)) (.ref (ata 0)) (.ref (asa 0)) Ma) ++ ((kX2 cs are (.ref (af 0)) (.ref (ac 0)) (.ref (atr 0)) (.ref (ase 0)) ) ++ ((kX1 cs af  Fo) ++ ((kX3 cs ac  Sc) ++ ((kX4 cs ase (.ref (af 0)) (.ref (ac 0)) (.ref (atr 0)) Se) ++ ((kX2 cs are3 (.ref (af3 0)) (.ref (ac3 0)) (.ref (atr3 0)) (.ref (ase3 0)) ) ++ ((kX1 cs af3  Fo3_16) ++ ((kX3 cs ac3  Sc3_13) ++ ((kX4 cs ase3 (.ref (af3 0)) (.ref (ac3 0)) (.ref (atr3 0)) Se3_14) ++ ((kX4 cs atr3 (.ref (af3 0)) (.ref (ac3 0)) .null Tr3))))))))))) H := by rw [hFo3_16]; exact hP
      have hD : va_D A ((kX7 cs ama (.ref (are 0)) (.ref (are2 0)) (.ref (are3 0)) (.ref (ach 0)) (.ref (ata 0)) (.ref (asa 0)) Ma) ++ ((kX2 cs are (.ref (af 0)) (.ref (ac 0)) (.ref (atr 0)) (.ref (ase 0)) ) ++ ((kX1 cs af  Fo) ++ ((kX3 cs ac  Sc) ++ ((kX4 cs ase (.ref (af 0)) (.ref (ac 0)) (.ref (atr 0)) Se) ++ ((kX2 cs are3 (.ref (af3 0)) (.ref (ac3 0)) (.ref (atr3 0)) (.ref (ase3 0)) ) ++ ((kX1 cs af3  Fo3_16) ++ ((kX3 cs ac3  Sc3_13) ++ ((kX4 cs ase3 (.ref (af3 0)) (.ref (ac3 0)) (.ref (atr3 0)) Se3_14) ++ ((kX4 cs atr3 (.ref (af3 0)) (.ref (ac3 0)) .null Tr3))))))))))) := by rw [hFo3_16]; exact hD
      refine lv_iconst (v := 0) hx hb dX7_odds_71 (by decide) ?_
      refine lv_istore (lv' := [(6, .int 0), (0, .ref (ama 0)), (1, .int y1), (2, .int y2), (3, .int y3), (4, .int y4), (5, .int y5)]) hx hb dX7_odds_72 hl (by decide) rfl (fun ls hl => ?_)
      refine lv_iconst (v := 0) hx hb dX7_odds_74 (by decide) ?_
      refine lv_istore (lv' := [(7, .int 0), (6, .int 0), (0, .ref (ama 0)), (1, .int y1), (2, .int y2), (3, .int y3), (4, .int y4), (5, .int y5)]) hx hb dX7_odds_75 hl (by decide) rfl (fun ls hl => ?_)
      exact h77 k42 hk42 400 y1 y2 y3 y5 0 0 Ma Fo3_16 Sc3_13 Se3_14 Tr3 _ _ _ hP hD hS (lv_sub hl [2, 3, 4, 5, 7, 1, 0] rfl) hf
  have h42 : ∀ (n : Nat), ∀ (y1 : Int32) (y2 : Int32) (y3 : Int32) (y4 : Int32) (y5 : Int32) (Ma : ST) (Fo3 : ST) (Sc3 : ST) (Se3 : ST) (Tr3 : ST) (H : Heap) (locs : List Loc) (ls : Array Slot), va_P D vwCl ((kX7 cs ama (.ref (are 0)) (.ref (are2 0)) (.ref (are3 0)) (.ref (ach 0)) (.ref (ata 0)) (.ref (asa 0)) Ma) ++ ((kX2 cs are (.ref (af 0)) (.ref (ac 0)) (.ref (atr 0)) (.ref (ase 0)) ) ++ ((kX1 cs af  Fo) ++ ((kX3 cs ac  Sc) ++ ((kX4 cs ase (.ref (af 0)) (.ref (ac 0)) (.ref (atr 0)) Se) ++ ((kX2 cs are3 (.ref (af3 0)) (.ref (ac3 0)) (.ref (atr3 0)) (.ref (ase3 0)) ) ++ ((kX1 cs af3  Fo3) ++ ((kX3 cs ac3  Sc3) ++ ((kX4 cs ase3 (.ref (af3 0)) (.ref (ac3 0)) (.ref (atr3 0)) Se3) ++ ((kX4 cs atr3 (.ref (af3 0)) (.ref (ac3 0)) .null Tr3))))))))))) H → va_D A ((kX7 cs ama (.ref (are 0)) (.ref (are2 0)) (.ref (are3 0)) (.ref (ach 0)) (.ref (ata 0)) (.ref (asa 0)) Ma) ++ ((kX2 cs are (.ref (af 0)) (.ref (ac 0)) (.ref (atr 0)) (.ref (ase 0)) ) ++ ((kX1 cs af  Fo) ++ ((kX3 cs ac  Sc) ++ ((kX4 cs ase (.ref (af 0)) (.ref (ac 0)) (.ref (atr 0)) Se) ++ ((kX2 cs are3 (.ref (af3 0)) (.ref (ac3 0)) (.ref (atr3 0)) (.ref (ase3 0)) ) ++ ((kX1 cs af3  Fo3) ++ ((kX3 cs ac3  Sc3) ++ ((kX4 cs ase3 (.ref (af3 0)) (.ref (ac3 0)) (.ref (atr3 0)) Se3) ++ ((kX4 cs atr3 (.ref (af3 0)) (.ref (ac3 0)) .null Tr3))))))))))) → va_S A s.heap H locs → lv_has ls 8 [(0, .ref (ama 0)), (1, .int y1), (2, .int y2), (3, .int y3), (4, .int y4), (5, .int y5)] → fX7_odds_42 Fo Sc Se n y1 y2 y3 y4 y5 Ma Fo3 Sc3 Se3 Tr3 = some (r0, Maz, Fo3z, Sc3z, Se3z, Tr3z) → W p l e rmX7_odds s m [.ref (ama 0), .int x1, .int x2].toArray below meth c H locs 0 0 Q (F0 m 42 ls []) := by
    intro n
    induction n with
    | zero => intro y1 y2 y3 y4 y5 Ma Fo3 Sc3 Se3 Tr3 H locs ls hP hD hS hl hf; exact no_el hf
    | succ n ih => intro y1 y2 y3 y4 y5 Ma Fo3 Sc3 Se3 Tr3 H locs ls hP hD hS hl hf; exact hs42 _ ih y1 y2 y3 y4 y5 Ma Fo3 Sc3 Se3 Tr3 _ _ _ hP hD hS hl hf
  have hl : lv_has ls0 8 [(0, .ref (ama 0)), (1, .int x1), (2, .int x2)] := hl0
  have hP := hP0
  have hD := hD0
  have hS := hS0
  unfold fX7_odds at hf
  refine lv_aload_n hx hb dX7_odds_0 rfl (lv_at hl 0 rfl) ?_
  refine lv_iload_n hx hb dX7_odds_1 rfl (lv_at hl 1 rfl) ?_
  obtain ⟨r1, hg2, hf⟩ := b1_el hf
  refine cc_V (w' := ((kX7 cs ama (.ref (are 0)) (.ref (are2 0)) (.ref (are3 0)) (.ref (ach 0)) (.ref (ata 0)) (.ref (asa 0)) Ma) ++ ((kX2 cs are (.ref (af 0)) (.ref (ac 0)) (.ref (atr 0)) (.ref (ase 0)) ) ++ ((kX1 cs af  Fo) ++ ((kX3 cs ac  Sc) ++ ((kX4 cs ase (.ref (af 0)) (.ref (ac 0)) (.ref (atr 0)) Se) ++ ((kX2 cs are3 (.ref (af3 0)) (.ref (ac3 0)) (.ref (atr3 0)) (.ref (ase3 0)) ) ++ ((kX1 cs af3  Fo3) ++ ((kX3 cs ac3  Sc3) ++ ((kX4 cs ase3 (.ref (af3 0)) (.ref (ac3 0)) (.ref (atr3 0)) Se3) ++ ((kX4 cs atr3 (.ref (af3 0)) (.ref (ac3 0)) .null Tr3)))))))))))) (wr := ((kX3 cs ac  Sc) ++ ((kX4 cs ase (.ref (af 0)) (.ref (ac 0)) (.ref (atr 0)) Se) ++ ((kX2 cs are3 (.ref (af3 0)) (.ref (ac3 0)) (.ref (atr3 0)) (.ref (ase3 0)) ) ++ ((kX1 cs af3  Fo3) ++ ((kX3 cs ac3  Sc3) ++ ((kX4 cs ase3 (.ref (af3 0)) (.ref (ac3 0)) (.ref (atr3 0)) Se3) ++ ((kX4 cs atr3 (.ref (af3 0)) (.ref (ac3 0)) .null Tr3))))))))) (st1 := [.int r1]) [.int x1] hx hb hml hown hu (tX7_isOne l D cs ama are are2 are3 ach ata asa af ac atr ase x1 Ma Fo r1 hg2) q352 q54 q349 q351 q1 pdX7_isOne ⟨rfl, rfl, Nat.le_of_ble_eq_true rfl, Nat.le_of_ble_eq_true rfl⟩ hK hZ hP hD hS hA [0, 1, 2, 3, 4, 5, 6, 7, 8, 9] [10, 11, 12, 13, 14, 15, 16, 17, 18, 19, 20, 21, 22, 23, 24, 25, 26, 27, 28, 29, 30, 31, 32, 33, 34, 35] [26, 27, 28, 29, 30, 31, 32, 33, 34, 35, 0, 1, 2, 3, 4, 5, 6, 7, 8, 9, 10, 11, 12, 13, 14, 15, 16, 17, 18, 19, 20, 21, 22, 23, 24, 25] rfl rfl rfl rfl rfl rfl rfl rfl rfl rfl hl.1 rfl (Nat.le_of_ble_eq_true rfl) dX7_odds_2 rfl (fun H locs hP hD hS => ?_)
  refine lv_if_eq (tgt := 18) hx hb dX7_odds_5 (by decide) (fun hc3 => ?_) (fun hc3 => ?_)
  · have hf := ip_el hc3 hf
    exact h18 Ma Fo3 Sc3 Se3 Tr3 _ _ _ hP hD hS (lv_sub hl [0] rfl) hf
  · have hf := in_el hc3 hf
    refine lv_iload_n hx hb dX7_odds_8 rfl (lv_at hl 2 rfl) ?_
    refine lv_iconst (v := 1) hx hb dX7_odds_9 (by decide) ?_
    refine lv_bipush (v := 40) hx hb dX7_odds_10 (by decide) ?_
    obtain ⟨r7, hg8, hf⟩ := b1_el hf
    refine cc_S0 (st1 := [.int r7]) [.int x2, .int 1, .int 40] hx hb hml hown hu (tX7_within l D cs x2 1 40 r7 hg8) q331 q54 q329 q330 pdX7_within ⟨rfl, rfl, Nat.le_of_ble_eq_true rfl, Nat.le_of_ble_eq_true rfl⟩ hK hZ hP hD hS hA rfl hl.1 rfl (Nat.le_of_ble_eq_true rfl) dX7_odds_12 rfl (fun H locs hP hD hS => ?_)
    refine lv_if_ne (tgt := 25) hx hb dX7_odds_15 (by decide) (fun hc9 => ?_) (fun hc9 => ?_)
    · have hf := in_el hc9 hf
      refine lv_iconst (v := 0) hx hb dX7_odds_25 (by decide) ?_
      refine lv_istore_n (lv' := [(3, .int 0), (0, .ref (ama 0)), (1, .int x1), (2, .int x2)]) hx hb dX7_odds_26 rfl hl (by decide) rfl (fun ls hl => ?_)
      refine lv_aload_n hx hb dX7_odds_27 rfl (lv_at hl 1 rfl) ?_
      refine va_get (D := D) (ci := 7) (v := .ref (are 0)) (C := RX7) (T := TX7) (N := 8) hx hb hu inX7 hown hK.1 hP 0 rfl rfl 0 (by decide) (hu _ q300) (fun _ h9 => h9) rfl dX7_odds_28 ?_
      refine va_get (D := D) (ci := 2) (v := .ref (af 0)) (C := RX2) (T := TX2) (N := 4) hx hb hu inX2 hown hK.1 hP 2 rfl rfl 0 (by decide) (hu _ q196) (fun _ h9 => h9) rfl dX7_odds_31 ?_
      refine va_get (D := D) (ci := 1) (v := .int (Fo 0 8)) (C := RX1) (T := TX1) (N := 9) hx hb hu inX1 hown hK.1 hP 3 rfl rfl 8 (by decide) (hu _ q113) (fun _ h9 => h9) rfl dX7_odds_34 ?_
      obtain ⟨v10, hv10, hf⟩ := lt_el hf
      refine lv_tope hv10 ?_
      refine lv_istore (lv' := [(4, .int v10), (3, .int 0), (0, .ref (ama 0)), (1, .int x1), (2, .int x2)]) hx hb dX7_odds_37 hl (by decide) rfl (fun ls hl => ?_)
      refine lv_iconst (v := 0) hx hb dX7_odds_39 (by decide) ?_
      refine lv_istore (lv' := [(5, .int 0), (4, .int v10), (3, .int 0), (0, .ref (ama 0)), (1, .int x1), (2, .int x2)]) hx hb dX7_odds_40 hl (by decide) rfl (fun ls hl => ?_)
      exact h42 400 x1 x2 0 v10 0 Ma Fo3 Sc3 Se3 Tr3 _ _ _ hP hD hS (lv_sub hl [3, 4, 5, 2, 1, 0] rfl) hf
    · have hf := ip_el hc9 hf
      exact h18 Ma Fo3 Sc3 Se3 Tr3 _ _ _ hP hD hS (lv_sub hl [0] rfl) hf

def fX7_image (Ma : ST) (Fo : ST) (Sc : ST) (Se : ST) (Fo2 : ST) (Sc2 : ST) (Se2 : ST) : Option (Int32 × ST × ST × ST × ST) :=
  dc_b3 (fX2_takeFrom Fo2 Sc2 Se2 Fo Sc Se) (fun Fo2_1 Sc2_2 Se2_3 => dc_lt (sti Ma 0 7 1) (fun Ma_5 => some (1, Ma_5, Fo2_1, Sc2_2, Se2_3)))
abbrev rmX7_image : Room := { frames := 3, cells := 0, slots := 0, locals := 82 }
set_option maxRecDepth 100000 in
set_option maxHeartbeats 4000000 in
theorem tX7_image (l : Launch) (D : va_G) (cs : Nat → ClassId) (ama : Nat → Nat) (are : Nat → Nat) (are2 : Nat → Nat) (are3 : Nat → Nat) (ach : Nat → Nat) (ata : Nat → Nat) (asa : Nat → Nat) (af : Nat → Nat) (ac : Nat → Nat) (atr : Nat → Nat) (ase : Nat → Nat) (af2 : Nat → Nat) (ac2 : Nat → Nat) (atr2 : Nat → Nat) (ase2 : Nat → Nat) (Ma : ST) (Fo : ST) (Sc : ST) (Se : ST) (Fo2 : ST) (Sc2 : ST) (Se2 : ST) (r0 : Int32) (Maz : ST) (Fo2z : ST) (Sc2z : ST) (Se2z : ST) (hf : fX7_image Ma Fo Sc Se Fo2 Sc2 Se2 = some (r0, Maz, Fo2z, Sc2z, Se2z)) : CG l yX7_image (wsm yX7_image cX7_image 1 (some .int)) rmX7_image D cs [.ref (ama 0)] (some (.int r0)) ((kX7 cs ama (.ref (are 0)) (.ref (are2 0)) (.ref (are3 0)) (.ref (ach 0)) (.ref (ata 0)) (.ref (asa 0)) Ma) ++ ((kX2 cs are (.ref (af 0)) (.ref (ac 0)) (.ref (atr 0)) (.ref (ase 0)) ) ++ ((kX1 cs af  Fo) ++ ((kX3 cs ac  Sc) ++ ((kX4 cs ase (.ref (af 0)) (.ref (ac 0)) (.ref (atr 0)) Se) ++ ((kX2 cs are2 (.ref (af2 0)) (.ref (ac2 0)) (.ref (atr2 0)) (.ref (ase2 0)) ) ++ ((kX1 cs af2  Fo2) ++ ((kX3 cs ac2  Sc2) ++ ((kX4 cs ase2 (.ref (af2 0)) (.ref (ac2 0)) (.ref (atr2 0)) Se2)))))))))) ((kX7 cs ama (.ref (are 0)) (.ref (are2 0)) (.ref (are3 0)) (.ref (ach 0)) (.ref (ata 0)) (.ref (asa 0)) Maz) ++ ((kX2 cs are (.ref (af 0)) (.ref (ac 0)) (.ref (atr 0)) (.ref (ase 0)) ) ++ ((kX1 cs af  Fo) ++ ((kX3 cs ac  Sc) ++ ((kX4 cs ase (.ref (af 0)) (.ref (ac 0)) (.ref (atr 0)) Se) ++ ((kX2 cs are2 (.ref (af2 0)) (.ref (ac2 0)) (.ref (atr2 0)) (.ref (ase2 0)) ) ++ ((kX1 cs af2  Fo2z) ++ ((kX3 cs ac2  Sc2z) ++ ((kX4 cs ase2 (.ref (af2 0)) (.ref (ac2 0)) (.ref (atr2 0)) Se2z)))))))))) := by
  refine CG.intro (by decide) (Nat.le_of_ble_eq_true rfl) ?_
  intro p e s m below meth c A Q hx hb hml hown hu hK hZ hP0 hD0 hS0 hA hri hrz hrl hrv hra ls0 hl0
  have hl : lv_has ls0 1 [(0, .ref (ama 0))] := hl0
  have hP := hP0
  have hD := hD0
  have hS := hS0
  unfold fX7_image at hf
  refine lv_aload_n hx hb dX7_image_0 rfl (lv_at hl 0 rfl) ?_
  refine va_get (D := D) (ci := 7) (v := .ref (are2 0)) (C := RX7) (T := TX7) (N := 8) hx hb hu inX7 hown hK.1 hP 0 rfl rfl 1 (by decide) (hu _ q301) (fun _ h9 => h9) rfl dX7_image_1 ?_
  refine lv_aload_n hx hb dX7_image_4 rfl (lv_at hl 0 rfl) ?_
  refine va_get (D := D) (ci := 7) (v := .ref (are 0)) (C := RX7) (T := TX7) (N := 8) hx hb hu inX7 hown hK.1 hP 0 rfl rfl 0 (by decide) (hu _ q300) (fun _ h9 => h9) rfl dX7_image_5 ?_
  obtain ⟨Fo2_1, Sc2_2, Se2_3, hg4, hf⟩ := b3_el hf
  refine cc_V (w' := ((kX7 cs ama (.ref (are 0)) (.ref (are2 0)) (.ref (are3 0)) (.ref (ach 0)) (.ref (ata 0)) (.ref (asa 0)) Ma) ++ ((kX2 cs are (.ref (af 0)) (.ref (ac 0)) (.ref (atr 0)) (.ref (ase 0)) ) ++ ((kX1 cs af  Fo) ++ ((kX3 cs ac  Sc) ++ ((kX4 cs ase (.ref (af 0)) (.ref (ac 0)) (.ref (atr 0)) Se) ++ ((kX2 cs are2 (.ref (af2 0)) (.ref (ac2 0)) (.ref (atr2 0)) (.ref (ase2 0)) ) ++ ((kX1 cs af2  Fo2_1) ++ ((kX3 cs ac2  Sc2_2) ++ ((kX4 cs ase2 (.ref (af2 0)) (.ref (ac2 0)) (.ref (atr2 0)) Se2_3))))))))))) (wr := (kX7 cs ama (.ref (are 0)) (.ref (are2 0)) (.ref (are3 0)) (.ref (ach 0)) (.ref (ata 0)) (.ref (asa 0)) Ma)) (st1 := []) [.ref (are 0)] hx hb hml hown hu (tX2_takeFrom l D cs are2 af2 ac2 (.ref (atr2 0)) ase2 (.ref (af2 0)) (.ref (ac2 0)) (.ref (atr2 0)) are af ac (.ref (atr 0)) ase (.ref (af 0)) (.ref (ac 0)) (.ref (atr 0)) Fo2 Sc2 Se2 Fo Sc Se Fo2_1 Sc2_2 Se2_3 hg4) q658 q55 q655 q656 q657 pdX2_takeFrom ⟨rfl, rfl, Nat.le_of_ble_eq_true rfl, Nat.le_of_ble_eq_true rfl⟩ hK hZ hP hD hS hA [17, 18, 19, 20, 21, 22, 23, 24, 25, 26, 27, 28, 29, 30, 31, 2, 3, 4, 5, 6, 7, 8, 9, 10, 11, 12, 13, 14, 15, 16] [0, 1] [0, 1, 17, 18, 19, 20, 21, 22, 23, 24, 25, 26, 27, 28, 29, 30, 31, 2, 3, 4, 5, 6, 7, 8, 9, 10, 11, 12, 13, 14, 15, 16] rfl rfl rfl rfl rfl rfl rfl rfl rfl rfl hl.1 rfl (Nat.le_of_ble_eq_true rfl) dX7_image_8 rfl (fun H locs hP hD hS => ?_)
  refine lv_aload_n hx hb dX7_image_11 rfl (lv_at hl 0 rfl) ?_
  refine lv_iconst (v := 1) hx hb dX7_image_12 (by decide) ?_
  obtain ⟨Ma_5, hMa_5, hf⟩ := lt_el hf
  refine va_put (D := D) (ci := 7) (v := .int 1) (ty := .boolean) (C := RX7) (T := TX7) (N := 8) hx hb hu inX7 tyX7 tyX7_ok nmX7 hown hK.1 hP hD hS 0 rfl rfl 7 (by decide) (hu _ q307) (fun _ h9 => h9) rfl (by decide +kernel) rfl rfl (Nat.le_of_ble_eq_true rfl) dX7_image_13 (fun H locs hP hD hS => ?_)
  have hP : va_P D vwCl ((kX7 cs ama (.ref (are 0)) (.ref (are2 0)) (.ref (are3 0)) (.ref (ach 0)) (.ref (ata 0)) (.ref (asa 0)) Ma_5) ++ ((kX2 cs are (.ref (af 0)) (.ref (ac 0)) (.ref (atr 0)) (.ref (ase 0)) ) ++ ((kX1 cs af  Fo) ++ ((kX3 cs ac  Sc) ++ ((kX4 cs ase (.ref (af 0)) (.ref (ac 0)) (.ref (atr 0)) Se) ++ ((kX2 cs are2 (.ref (af2 0)) (.ref (ac2 0)) (.ref (atr2 0)) (.ref (ase2 0)) ) ++ ((kX1 cs af2  Fo2_1) ++ ((kX3 cs ac2  Sc2_2) ++ ((kX4 cs ase2 (.ref (af2 0)) (.ref (ac2 0)) (.ref (atr2 0)) Se2_3)))))))))) H := by rw [hMa_5]; exact hP
  have hD : va_D A ((kX7 cs ama (.ref (are 0)) (.ref (are2 0)) (.ref (are3 0)) (.ref (ach 0)) (.ref (ata 0)) (.ref (asa 0)) Ma_5) ++ ((kX2 cs are (.ref (af 0)) (.ref (ac 0)) (.ref (atr 0)) (.ref (ase 0)) ) ++ ((kX1 cs af  Fo) ++ ((kX3 cs ac  Sc) ++ ((kX4 cs ase (.ref (af 0)) (.ref (ac 0)) (.ref (atr 0)) Se) ++ ((kX2 cs are2 (.ref (af2 0)) (.ref (ac2 0)) (.ref (atr2 0)) (.ref (ase2 0)) ) ++ ((kX1 cs af2  Fo2_1) ++ ((kX3 cs ac2  Sc2_2) ++ ((kX4 cs ase2 (.ref (af2 0)) (.ref (ac2 0)) (.ref (atr2 0)) Se2_3)))))))))) := by rw [hMa_5]; exact hD
  refine lv_iconst (v := 1) hx hb dX7_image_16 (by decide) ?_
  have he := Option.some.inj hf
  obtain ⟨e0, ht0⟩ := Prod.mk.inj he
  obtain ⟨e1, ht1⟩ := Prod.mk.inj ht0
  obtain ⟨e2, ht2⟩ := Prod.mk.inj ht1
  obtain ⟨e3, e4⟩ := Prod.mk.inj ht2
  exact hri _ _ _ rfl (congrArg (fun z => some (Value.int z)) e0.symm) dX7_image_17 _ _ _ (by rw [e1, e2, e3, e4]) hP hD hS

def fX7_undo (Ma : ST) (Fo : ST) (Sc : ST) (Se : ST) (Fo2 : ST) (Sc2 : ST) (Se2 : ST) : Option (Int32 × ST × ST × ST × ST) :=
  (if (Ma 0 7) = 0 then dc_b2 (fX7_finding (-1000000004) Ma) (fun r6 Ma_7 => some (r6, Ma_7, Fo, Sc, Se)) else dc_b3 (fX2_takeFrom Fo Sc Se Fo2 Sc2 Se2) (fun Fo_2 Sc_3 Se_4 => some ((Fo_2 0 0), Ma, Fo_2, Sc_3, Se_4)))
abbrev rmX7_undo : Room := { frames := 3, cells := 0, slots := 0, locals := 82 }
set_option maxRecDepth 100000 in
set_option maxHeartbeats 4000000 in
theorem tX7_undo (l : Launch) (D : va_G) (cs : Nat → ClassId) (ama : Nat → Nat) (are : Nat → Nat) (are2 : Nat → Nat) (are3 : Nat → Nat) (ach : Nat → Nat) (ata : Nat → Nat) (asa : Nat → Nat) (af : Nat → Nat) (ac : Nat → Nat) (atr : Nat → Nat) (ase : Nat → Nat) (af2 : Nat → Nat) (ac2 : Nat → Nat) (atr2 : Nat → Nat) (ase2 : Nat → Nat) (Ma : ST) (Fo : ST) (Sc : ST) (Se : ST) (Fo2 : ST) (Sc2 : ST) (Se2 : ST) (r0 : Int32) (Maz : ST) (Foz : ST) (Scz : ST) (Sez : ST) (hf : fX7_undo Ma Fo Sc Se Fo2 Sc2 Se2 = some (r0, Maz, Foz, Scz, Sez)) : CG l yX7_undo (wsm yX7_undo cX7_undo 1 (some .int)) rmX7_undo D cs [.ref (ama 0)] (some (.int r0)) ((kX7 cs ama (.ref (are 0)) (.ref (are2 0)) (.ref (are3 0)) (.ref (ach 0)) (.ref (ata 0)) (.ref (asa 0)) Ma) ++ ((kX2 cs are (.ref (af 0)) (.ref (ac 0)) (.ref (atr 0)) (.ref (ase 0)) ) ++ ((kX1 cs af  Fo) ++ ((kX3 cs ac  Sc) ++ ((kX4 cs ase (.ref (af 0)) (.ref (ac 0)) (.ref (atr 0)) Se) ++ ((kX2 cs are2 (.ref (af2 0)) (.ref (ac2 0)) (.ref (atr2 0)) (.ref (ase2 0)) ) ++ ((kX1 cs af2  Fo2) ++ ((kX3 cs ac2  Sc2) ++ ((kX4 cs ase2 (.ref (af2 0)) (.ref (ac2 0)) (.ref (atr2 0)) Se2)))))))))) ((kX7 cs ama (.ref (are 0)) (.ref (are2 0)) (.ref (are3 0)) (.ref (ach 0)) (.ref (ata 0)) (.ref (asa 0)) Maz) ++ ((kX2 cs are (.ref (af 0)) (.ref (ac 0)) (.ref (atr 0)) (.ref (ase 0)) ) ++ ((kX1 cs af  Foz) ++ ((kX3 cs ac  Scz) ++ ((kX4 cs ase (.ref (af 0)) (.ref (ac 0)) (.ref (atr 0)) Sez) ++ ((kX2 cs are2 (.ref (af2 0)) (.ref (ac2 0)) (.ref (atr2 0)) (.ref (ase2 0)) ) ++ ((kX1 cs af2  Fo2) ++ ((kX3 cs ac2  Sc2) ++ ((kX4 cs ase2 (.ref (af2 0)) (.ref (ac2 0)) (.ref (atr2 0)) Se2)))))))))) := by
  refine CG.intro (by decide) (Nat.le_of_ble_eq_true rfl) ?_
  intro p e s m below meth c A Q hx hb hml hown hu hK hZ hP0 hD0 hS0 hA hri hrz hrl hrv hra ls0 hl0
  have hl : lv_has ls0 1 [(0, .ref (ama 0))] := hl0
  have hP := hP0
  have hD := hD0
  have hS := hS0
  unfold fX7_undo at hf
  refine lv_aload_n hx hb dX7_undo_0 rfl (lv_at hl 0 rfl) ?_
  refine va_get (D := D) (ci := 7) (v := .int (Ma 0 7)) (C := RX7) (T := TX7) (N := 8) hx hb hu inX7 hown hK.1 hP 0 rfl rfl 7 (by decide) (hu _ q307) (fun _ h9 => h9) rfl dX7_undo_1 ?_
  refine lv_if_ne (tgt := 14) hx hb dX7_undo_4 (by decide) (fun hc1 => ?_) (fun hc1 => ?_)
  · have hf := in_el hc1 hf
    refine lv_aload_n hx hb dX7_undo_14 rfl (lv_at hl 0 rfl) ?_
    refine va_get (D := D) (ci := 7) (v := .ref (are 0)) (C := RX7) (T := TX7) (N := 8) hx hb hu inX7 hown hK.1 hP 0 rfl rfl 0 (by decide) (hu _ q300) (fun _ h9 => h9) rfl dX7_undo_15 ?_
    refine lv_aload_n hx hb dX7_undo_18 rfl (lv_at hl 0 rfl) ?_
    refine va_get (D := D) (ci := 7) (v := .ref (are2 0)) (C := RX7) (T := TX7) (N := 8) hx hb hu inX7 hown hK.1 hP 0 rfl rfl 1 (by decide) (hu _ q301) (fun _ h9 => h9) rfl dX7_undo_19 ?_
    obtain ⟨Fo_2, Sc_3, Se_4, hg5, hf⟩ := b3_el hf
    refine cc_V (w' := ((kX7 cs ama (.ref (are 0)) (.ref (are2 0)) (.ref (are3 0)) (.ref (ach 0)) (.ref (ata 0)) (.ref (asa 0)) Ma) ++ ((kX2 cs are (.ref (af 0)) (.ref (ac 0)) (.ref (atr 0)) (.ref (ase 0)) ) ++ ((kX1 cs af  Fo_2) ++ ((kX3 cs ac  Sc_3) ++ ((kX4 cs ase (.ref (af 0)) (.ref (ac 0)) (.ref (atr 0)) Se_4) ++ ((kX2 cs are2 (.ref (af2 0)) (.ref (ac2 0)) (.ref (atr2 0)) (.ref (ase2 0)) ) ++ ((kX1 cs af2  Fo2) ++ ((kX3 cs ac2  Sc2) ++ ((kX4 cs ase2 (.ref (af2 0)) (.ref (ac2 0)) (.ref (atr2 0)) Se2))))))))))) (wr := (kX7 cs ama (.ref (are 0)) (.ref (are2 0)) (.ref (are3 0)) (.ref (ach 0)) (.ref (ata 0)) (.ref (asa 0)) Ma)) (st1 := []) [.ref (are2 0)] hx hb hml hown hu (tX2_takeFrom l D cs are af ac (.ref (atr 0)) ase (.ref (af 0)) (.ref (ac 0)) (.ref (atr 0)) are2 af2 ac2 (.ref (atr2 0)) ase2 (.ref (af2 0)) (.ref (ac2 0)) (.ref (atr2 0)) Fo Sc Se Fo2 Sc2 Se2 Fo_2 Sc_3 Se_4 hg5) q658 q55 q655 q656 q657 pdX2_takeFrom ⟨rfl, rfl, Nat.le_of_ble_eq_true rfl, Nat.le_of_ble_eq_true rfl⟩ hK hZ hP hD hS hA [2, 3, 4, 5, 6, 7, 8, 9, 10, 11, 12, 13, 14, 15, 16, 17, 18, 19, 20, 21, 22, 23, 24, 25, 26, 27, 28, 29, 30, 31] [0, 1] [0, 1, 2, 3, 4, 5, 6, 7, 8, 9, 10, 11, 12, 13, 14, 15, 16, 17, 18, 19, 20, 21, 22, 23, 24, 25, 26, 27, 28, 29, 30, 31] rfl rfl rfl rfl rfl rfl rfl rfl rfl rfl hl.1 rfl (Nat.le_of_ble_eq_true rfl) dX7_undo_22 rfl (fun H locs hP hD hS => ?_)
    refine lv_aload_n hx hb dX7_undo_25 rfl (lv_at hl 0 rfl) ?_
    refine va_get (D := D) (ci := 7) (v := .ref (are 0)) (C := RX7) (T := TX7) (N := 8) hx hb hu inX7 hown hK.1 hP 0 rfl rfl 0 (by decide) (hu _ q300) (fun _ h9 => h9) rfl dX7_undo_26 ?_
    refine va_get (D := D) (ci := 2) (v := .ref (af 0)) (C := RX2) (T := TX2) (N := 4) hx hb hu inX2 hown hK.1 hP 2 rfl rfl 0 (by decide) (hu _ q196) (fun _ h9 => h9) rfl dX7_undo_29 ?_
    refine va_get (D := D) (ci := 1) (v := .int (Fo_2 0 0)) (C := RX1) (T := TX1) (N := 9) hx hb hu inX1 hown hK.1 hP 3 rfl rfl 0 (by decide) (hu _ q93) (fun _ h9 => h9) rfl dX7_undo_32 ?_
    have he := Option.some.inj hf
    obtain ⟨e0, ht0⟩ := Prod.mk.inj he
    obtain ⟨e1, ht1⟩ := Prod.mk.inj ht0
    obtain ⟨e2, ht2⟩ := Prod.mk.inj ht1
    obtain ⟨e3, e4⟩ := Prod.mk.inj ht2
    exact hri _ _ _ rfl (congrArg (fun z => some (Value.int z)) e0.symm) dX7_undo_35 _ _ _ (by rw [e1, e2, e3, e4]) hP hD hS
  · have hf := ip_el hc1 hf
    refine lv_aload_n hx hb dX7_undo_7 rfl (lv_at hl 0 rfl) ?_
    refine lv_ldc (v := (-1000000004)) hx hb hown (hu _ q586) dX7_undo_8 ?_
    obtain ⟨r6, Ma_7, hg8, hf⟩ := b2_el hf
    refine cc_V (w' := ((kX7 cs ama (.ref (are 0)) (.ref (are2 0)) (.ref (are3 0)) (.ref (ach 0)) (.ref (ata 0)) (.ref (asa 0)) Ma_7) ++ ((kX2 cs are (.ref (af 0)) (.ref (ac 0)) (.ref (atr 0)) (.ref (ase 0)) ) ++ ((kX1 cs af  Fo) ++ ((kX3 cs ac  Sc) ++ ((kX4 cs ase (.ref (af 0)) (.ref (ac 0)) (.ref (atr 0)) Se) ++ ((kX2 cs are2 (.ref (af2 0)) (.ref (ac2 0)) (.ref (atr2 0)) (.ref (ase2 0)) ) ++ ((kX1 cs af2  Fo2) ++ ((kX3 cs ac2  Sc2) ++ ((kX4 cs ase2 (.ref (af2 0)) (.ref (ac2 0)) (.ref (atr2 0)) Se2))))))))))) (wr := ((kX2 cs are (.ref (af 0)) (.ref (ac 0)) (.ref (atr 0)) (.ref (ase 0)) ) ++ ((kX1 cs af  Fo) ++ ((kX3 cs ac  Sc) ++ ((kX4 cs ase (.ref (af 0)) (.ref (ac 0)) (.ref (atr 0)) Se) ++ ((kX2 cs are2 (.ref (af2 0)) (.ref (ac2 0)) (.ref (atr2 0)) (.ref (ase2 0)) ) ++ ((kX1 cs af2  Fo2) ++ ((kX3 cs ac2  Sc2) ++ ((kX4 cs ase2 (.ref (af2 0)) (.ref (ac2 0)) (.ref (atr2 0)) Se2)))))))))) (st1 := [.int r6]) [.int (-1000000004)] hx hb hml hown hu (tX7_finding l D cs ama are are2 are3 ach ata asa (-1000000004) Ma r6 Ma_7 hg8) q339 q54 q336 q338 q0 pdX7_finding ⟨rfl, rfl, Nat.le_of_ble_eq_true rfl, Nat.le_of_ble_eq_true rfl⟩ hK hZ hP hD hS hA [0, 1] [2, 3, 4, 5, 6, 7, 8, 9, 10, 11, 12, 13, 14, 15, 16, 17, 18, 19, 20, 21, 22, 23, 24, 25, 26, 27, 28, 29, 30, 31] [30, 31, 0, 1, 2, 3, 4, 5, 6, 7, 8, 9, 10, 11, 12, 13, 14, 15, 16, 17, 18, 19, 20, 21, 22, 23, 24, 25, 26, 27, 28, 29] rfl rfl rfl rfl rfl rfl rfl rfl rfl rfl hl.1 rfl (Nat.le_of_ble_eq_true rfl) dX7_undo_10 rfl (fun H locs hP hD hS => ?_)
    have he := Option.some.inj hf
    obtain ⟨e0, ht0⟩ := Prod.mk.inj he
    obtain ⟨e1, ht1⟩ := Prod.mk.inj ht0
    obtain ⟨e2, ht2⟩ := Prod.mk.inj ht1
    obtain ⟨e3, e4⟩ := Prod.mk.inj ht2
    exact hri _ _ _ rfl (congrArg (fun z => some (Value.int z)) e0.symm) dX7_undo_13 _ _ _ (by rw [e1, e2, e3, e4]) hP hD hS

def fX7_tear (Ma : ST) : Option (Int32 × ST) :=
  (if (Ma 0 7) = 0 then dc_lt (sti Ma 0 7 0) (fun Ma_2 => some (0, Ma_2)) else dc_lt (sti Ma 0 7 0) (fun Ma_3 => some (1, Ma_3)))
abbrev rmX7_tear : Room := { frames := 0, cells := 0, slots := 0, locals := 0 }
set_option maxRecDepth 100000 in
set_option maxHeartbeats 4000000 in
theorem tX7_tear (l : Launch) (D : va_G) (cs : Nat → ClassId) (ama : Nat → Nat) (are : Nat → Nat) (are2 : Nat → Nat) (are3 : Nat → Nat) (ach : Nat → Nat) (ata : Nat → Nat) (asa : Nat → Nat) (Ma : ST) (r0 : Int32) (Maz : ST) (hf : fX7_tear Ma = some (r0, Maz)) : CG l yX7_tear (wsm yX7_tear cX7_tear 2 (some .int)) rmX7_tear D cs [.ref (ama 0)] (some (.int r0)) (kX7 cs ama (.ref (are 0)) (.ref (are2 0)) (.ref (are3 0)) (.ref (ach 0)) (.ref (ata 0)) (.ref (asa 0)) Ma) (kX7 cs ama (.ref (are 0)) (.ref (are2 0)) (.ref (are3 0)) (.ref (ach 0)) (.ref (ata 0)) (.ref (asa 0)) Maz) := by
  refine CG.intro (by decide) (Nat.le_of_ble_eq_true rfl) ?_
  intro p e s m below meth c A Q hx hb hml hown hu hK hZ hP0 hD0 hS0 hA hri hrz hrl hrv hra ls0 hl0
  have hl : lv_has ls0 2 [(0, .ref (ama 0))] := hl0
  have hP := hP0
  have hD := hD0
  have hS := hS0
  unfold fX7_tear at hf
  refine lv_aload_n hx hb dX7_tear_0 rfl (lv_at hl 0 rfl) ?_
  refine va_get (D := D) (ci := 7) (v := .int (Ma 0 7)) (C := RX7) (T := TX7) (N := 8) hx hb hu inX7 hown hK.1 hP 0 rfl rfl 7 (by decide) (hu _ q307) (fun _ h9 => h9) rfl dX7_tear_1 ?_
  refine lv_if_eq (tgt := 11) hx hb dX7_tear_4 (by decide) (fun hc1 => ?_) (fun hc1 => ?_)
  · have hf := ip_el hc1 hf
    refine lv_iconst (v := 0) hx hb dX7_tear_11 (by decide) ?_
    refine lv_istore_n (lv' := [(1, .int 0), (0, .ref (ama 0))]) hx hb dX7_tear_12 rfl hl (by decide) rfl (fun ls hl => ?_)
    refine lv_aload_n hx hb dX7_tear_13 rfl (lv_at hl 1 rfl) ?_
    refine lv_iconst (v := 0) hx hb dX7_tear_14 (by decide) ?_
    obtain ⟨Ma_2, hMa_2, hf⟩ := lt_el hf
    refine va_put (D := D) (ci := 7) (v := .int 0) (ty := .boolean) (C := RX7) (T := TX7) (N := 8) hx hb hu inX7 tyX7 tyX7_ok nmX7 hown hK.1 hP hD hS 0 rfl rfl 7 (by decide) (hu _ q307) (fun _ h9 => h9) rfl (by decide +kernel) rfl rfl (Nat.le_of_ble_eq_true rfl) dX7_tear_15 (fun H locs hP hD hS => ?_)
    have hP : va_P D vwCl (kX7 cs ama (.ref (are 0)) (.ref (are2 0)) (.ref (are3 0)) (.ref (ach 0)) (.ref (ata 0)) (.ref (asa 0)) Ma_2) H := by rw [hMa_2]; exact hP
    have hD : va_D A (kX7 cs ama (.ref (are 0)) (.ref (are2 0)) (.ref (are3 0)) (.ref (ach 0)) (.ref (ata 0)) (.ref (asa 0)) Ma_2) := by rw [hMa_2]; exact hD
    refine lv_iload_n hx hb dX7_tear_18 rfl (lv_at hl 0 rfl) ?_
    have he := Option.some.inj hf
    obtain ⟨e0, e1⟩ := Prod.mk.inj he
    exact hri _ _ _ rfl (congrArg (fun z => some (Value.int z)) e0.symm) dX7_tear_19 _ _ _ (by rw [e1]) hP hD hS
  · have hf := in_el hc1 hf
    refine lv_iconst (v := 1) hx hb dX7_tear_7 (by decide) ?_
    refine lv_goto (tgt := 12) hx hb dX7_tear_8 (by decide) ?_
    refine lv_istore_n (lv' := [(1, .int 1), (0, .ref (ama 0))]) hx hb dX7_tear_12 rfl hl (by decide) rfl (fun ls hl => ?_)
    refine lv_aload_n hx hb dX7_tear_13 rfl (lv_at hl 1 rfl) ?_
    refine lv_iconst (v := 0) hx hb dX7_tear_14 (by decide) ?_
    obtain ⟨Ma_3, hMa_3, hf⟩ := lt_el hf
    refine va_put (D := D) (ci := 7) (v := .int 0) (ty := .boolean) (C := RX7) (T := TX7) (N := 8) hx hb hu inX7 tyX7 tyX7_ok nmX7 hown hK.1 hP hD hS 0 rfl rfl 7 (by decide) (hu _ q307) (fun _ h9 => h9) rfl (by decide +kernel) rfl rfl (Nat.le_of_ble_eq_true rfl) dX7_tear_15 (fun H locs hP hD hS => ?_)
    have hP : va_P D vwCl (kX7 cs ama (.ref (are 0)) (.ref (are2 0)) (.ref (are3 0)) (.ref (ach 0)) (.ref (ata 0)) (.ref (asa 0)) Ma_3) H := by rw [hMa_3]; exact hP
    have hD : va_D A (kX7 cs ama (.ref (are 0)) (.ref (are2 0)) (.ref (are3 0)) (.ref (ach 0)) (.ref (ata 0)) (.ref (asa 0)) Ma_3) := by rw [hMa_3]; exact hD
    refine lv_iload_n hx hb dX7_tear_18 rfl (lv_at hl 0 rfl) ?_
    have he := Option.some.inj hf
    obtain ⟨e0, e1⟩ := Prod.mk.inj he
    exact hri _ _ _ rfl (congrArg (fun z => some (Value.int z)) e0.symm) dX7_tear_19 _ _ _ (by rw [e1]) hP hD hS

def fX7_count (x1 : Int32) (Ma : ST) (Fo : ST) (Se : ST) (Ta : ST) : Option (Int32 × ST) :=
  (if x1 = 0 then some ((Fo 0 0), Ma) else if x1 = 1 then dc_b1 (fX1_alive Fo) (fun r3 => dc_b1 (fJ6_bitCount_0f7a4 r3) (fun r5 => some (r5, Ma))) else if x1 = 2 then dc_b1 (fX4_named Se) (fun r8 => dc_b1 (fJ6_bitCount_0f7a4 r8) (fun r10 => some (r10, Ma))) else if x1 = 3 then dc_b1 (fX4_ruledByAll Se Fo) (fun r13 => some (r13, Ma)) else if x1 = 4 then some ((Ta 0 2), Ma) else if x1 = 5 then some ((Fo 0 8), Ma) else dc_b2 (fX7_finding (-1000000001) Ma) (fun r17 Ma_18 => some (r17, Ma_18)))
abbrev rmX7_count : Room := { frames := 1, cells := 0, slots := 0, locals := 22 }
set_option maxRecDepth 100000 in
set_option maxHeartbeats 4000000 in
theorem tX7_count (l : Launch) (D : va_G) (cs : Nat → ClassId) (ama : Nat → Nat) (are : Nat → Nat) (are2 : Nat → Nat) (are3 : Nat → Nat) (ach : Nat → Nat) (ata : Nat → Nat) (asa : Nat → Nat) (af : Nat → Nat) (ac : Nat → Nat) (atr : Nat → Nat) (ase : Nat → Nat) (adr : Nat → Nat) (x1 : Int32) (Ma : ST) (Fo : ST) (Se : ST) (Ta : ST) (r0 : Int32) (Maz : ST) (hf : fX7_count x1 Ma Fo Se Ta = some (r0, Maz)) : CG l yX7_count (wsm yX7_count cX7_count 2 (some .int)) rmX7_count D cs [.ref (ama 0), .int x1] (some (.int r0)) ((kX7 cs ama (.ref (are 0)) (.ref (are2 0)) (.ref (are3 0)) (.ref (ach 0)) (.ref (ata 0)) (.ref (asa 0)) Ma) ++ ((kX2 cs are (.ref (af 0)) (.ref (ac 0)) (.ref (atr 0)) (.ref (ase 0)) ) ++ ((kX1 cs af  Fo) ++ ((kX4 cs ase (.ref (af 0)) (.ref (ac 0)) (.ref (atr 0)) Se) ++ ((kX6 cs ata (.ref (adr 0)) Ta)))))) ((kX7 cs ama (.ref (are 0)) (.ref (are2 0)) (.ref (are3 0)) (.ref (ach 0)) (.ref (ata 0)) (.ref (asa 0)) Maz) ++ ((kX2 cs are (.ref (af 0)) (.ref (ac 0)) (.ref (atr 0)) (.ref (ase 0)) ) ++ ((kX1 cs af  Fo) ++ ((kX4 cs ase (.ref (af 0)) (.ref (ac 0)) (.ref (atr 0)) Se) ++ ((kX6 cs ata (.ref (adr 0)) Ta)))))) := by
  refine CG.intro (by decide) (Nat.le_of_ble_eq_true rfl) ?_
  intro p e s m below meth c A Q hx hb hml hown hu hK hZ hP0 hD0 hS0 hA hri hrz hrl hrv hra ls0 hl0
  have hl : lv_has ls0 2 [(0, .ref (ama 0)), (1, .int x1)] := hl0
  have hP := hP0
  have hD := hD0
  have hS := hS0
  unfold fX7_count at hf
  refine lv_iload_n hx hb dX7_count_0 rfl (lv_at hl 1 rfl) ?_
  by_cases hc1 : x1 = 0
  · have hf := ip_el hc1 hf
    refine lv_tableIn (off := 39) (tgt := 40) hx hb dX7_count_1 (by rw [hc1]; decide) (by rw [hc1]; decide) (by rw [hc1]; decide) (by decide) ?_
    refine lv_aload_n hx hb dX7_count_40 rfl (lv_at hl 0 rfl) ?_
    refine va_get (D := D) (ci := 7) (v := .ref (are 0)) (C := RX7) (T := TX7) (N := 8) hx hb hu inX7 hown hK.1 hP 0 rfl rfl 0 (by decide) (hu _ q300) (fun _ h9 => h9) rfl dX7_count_41 ?_
    refine va_get (D := D) (ci := 2) (v := .ref (af 0)) (C := RX2) (T := TX2) (N := 4) hx hb hu inX2 hown hK.1 hP 2 rfl rfl 0 (by decide) (hu _ q196) (fun _ h9 => h9) rfl dX7_count_44 ?_
    refine va_get (D := D) (ci := 1) (v := .int (Fo 0 0)) (C := RX1) (T := TX1) (N := 9) hx hb hu inX1 hown hK.1 hP 3 rfl rfl 0 (by decide) (hu _ q93) (fun _ h9 => h9) rfl dX7_count_47 ?_
    have he := Option.some.inj hf
    obtain ⟨e0, e1⟩ := Prod.mk.inj he
    exact hri _ _ _ rfl (congrArg (fun z => some (Value.int z)) e0.symm) dX7_count_50 _ _ _ (by rw [e1]) hP hD hS
  have hf := in_el hc1 hf
  by_cases hc2 : x1 = 1
  · have hf := ip_el hc2 hf
    refine lv_tableIn (off := 50) (tgt := 51) hx hb dX7_count_1 (by rw [hc2]; decide) (by rw [hc2]; decide) (by rw [hc2]; decide) (by decide) ?_
    refine lv_aload_n hx hb dX7_count_51 rfl (lv_at hl 0 rfl) ?_
    refine va_get (D := D) (ci := 7) (v := .ref (are 0)) (C := RX7) (T := TX7) (N := 8) hx hb hu inX7 hown hK.1 hP 0 rfl rfl 0 (by decide) (hu _ q300) (fun _ h9 => h9) rfl dX7_count_52 ?_
    refine va_get (D := D) (ci := 2) (v := .ref (af 0)) (C := RX2) (T := TX2) (N := 4) hx hb hu inX2 hown hK.1 hP 2 rfl rfl 0 (by decide) (hu _ q196) (fun _ h9 => h9) rfl dX7_count_55 ?_
    obtain ⟨r3, hg4, hf⟩ := b1_el hf
    refine cc_V (w' := ((kX7 cs ama (.ref (are 0)) (.ref (are2 0)) (.ref (are3 0)) (.ref (ach 0)) (.ref (ata 0)) (.ref (asa 0)) Ma) ++ ((kX2 cs are (.ref (af 0)) (.ref (ac 0)) (.ref (atr 0)) (.ref (ase 0)) ) ++ ((kX1 cs af  Fo) ++ ((kX4 cs ase (.ref (af 0)) (.ref (ac 0)) (.ref (atr 0)) Se) ++ ((kX6 cs ata (.ref (adr 0)) Ta))))))) (wr := ((kX7 cs ama (.ref (are 0)) (.ref (are2 0)) (.ref (are3 0)) (.ref (ach 0)) (.ref (ata 0)) (.ref (asa 0)) Ma) ++ ((kX2 cs are (.ref (af 0)) (.ref (ac 0)) (.ref (atr 0)) (.ref (ase 0)) ) ++ ((kX4 cs ase (.ref (af 0)) (.ref (ac 0)) (.ref (atr 0)) Se) ++ ((kX6 cs ata (.ref (adr 0)) Ta)))))) (st1 := [.int r3]) [] hx hb hml hown hu (tX1_alive l D cs af Fo r3 hg4) q360 q56 q644 q358 q359 pdX1_alive ⟨rfl, rfl, Nat.le_of_ble_eq_true rfl, Nat.le_of_ble_eq_true rfl⟩ hK hZ hP hD hS hA [3, 4, 5, 6, 7, 8, 9] [0, 1, 2, 10, 11, 12, 13, 14, 15] [0, 1, 2, 9, 10, 11, 12, 13, 14, 15, 3, 4, 5, 6, 7, 8] rfl rfl rfl rfl rfl rfl rfl rfl rfl rfl hl.1 rfl (Nat.le_of_ble_eq_true rfl) dX7_count_58 rfl (fun H locs hP hD hS => ?_)
    obtain ⟨r5, hg6, hf⟩ := b1_el hf
    refine cc_S0 (st1 := [.int r5]) [.int r3] hx hb hml hown hu (tJ6_bitCount_0f7a4 l D cs r3 r5 hg6) q647 q65 q645 q646 pdJ6_bitCount_0f7a4 ⟨rfl, rfl, Nat.le_of_ble_eq_true rfl, Nat.le_of_ble_eq_true rfl⟩ hK hZ hP hD hS hA rfl hl.1 rfl (Nat.le_of_ble_eq_true rfl) dX7_count_61 rfl (fun H locs hP hD hS => ?_)
    have he := Option.some.inj hf
    obtain ⟨e0, e1⟩ := Prod.mk.inj he
    exact hri _ _ _ rfl (congrArg (fun z => some (Value.int z)) e0.symm) dX7_count_64 _ _ _ (by rw [e1]) hP hD hS
  have hf := in_el hc2 hf
  by_cases hc7 : x1 = 2
  · have hf := ip_el hc7 hf
    refine lv_tableIn (off := 64) (tgt := 65) hx hb dX7_count_1 (by rw [hc7]; decide) (by rw [hc7]; decide) (by rw [hc7]; decide) (by decide) ?_
    refine lv_aload_n hx hb dX7_count_65 rfl (lv_at hl 0 rfl) ?_
    refine va_get (D := D) (ci := 7) (v := .ref (are 0)) (C := RX7) (T := TX7) (N := 8) hx hb hu inX7 hown hK.1 hP 0 rfl rfl 0 (by decide) (hu _ q300) (fun _ h9 => h9) rfl dX7_count_66 ?_
    refine va_get (D := D) (ci := 2) (v := .ref (ase 0)) (C := RX2) (T := TX2) (N := 4) hx hb hu inX2 hown hK.1 hP 2 rfl rfl 3 (by decide) (hu _ q204) (fun _ h9 => h9) rfl dX7_count_69 ?_
    obtain ⟨r8, hg9, hf⟩ := b1_el hf
    refine cc_V (w' := ((kX7 cs ama (.ref (are 0)) (.ref (are2 0)) (.ref (are3 0)) (.ref (ach 0)) (.ref (ata 0)) (.ref (asa 0)) Ma) ++ ((kX2 cs are (.ref (af 0)) (.ref (ac 0)) (.ref (atr 0)) (.ref (ase 0)) ) ++ ((kX1 cs af  Fo) ++ ((kX4 cs ase (.ref (af 0)) (.ref (ac 0)) (.ref (atr 0)) Se) ++ ((kX6 cs ata (.ref (adr 0)) Ta))))))) (wr := ((kX7 cs ama (.ref (are 0)) (.ref (are2 0)) (.ref (are3 0)) (.ref (ach 0)) (.ref (ata 0)) (.ref (asa 0)) Ma) ++ ((kX2 cs are (.ref (af 0)) (.ref (ac 0)) (.ref (atr 0)) (.ref (ase 0)) ) ++ ((kX1 cs af  Fo) ++ ((kX6 cs ata (.ref (adr 0)) Ta)))))) (st1 := [.int r8]) [] hx hb hml hown hu (tX4_named l D cs ase (.ref (af 0)) (.ref (ac 0)) (.ref (atr 0)) Se r8 hg9) q380 q58 q902 q378 q379 pdX4_named ⟨rfl, rfl, Nat.le_of_ble_eq_true rfl, Nat.le_of_ble_eq_true rfl⟩ hK hZ hP hD hS hA [10, 11, 12, 13] [0, 1, 2, 3, 4, 5, 6, 7, 8, 9, 14, 15] [0, 1, 2, 3, 4, 5, 6, 7, 8, 9, 12, 13, 14, 15, 10, 11] rfl rfl rfl rfl rfl rfl rfl rfl rfl rfl hl.1 rfl (Nat.le_of_ble_eq_true rfl) dX7_count_72 rfl (fun H locs hP hD hS => ?_)
    obtain ⟨r10, hg11, hf⟩ := b1_el hf
    refine cc_S0 (st1 := [.int r10]) [.int r8] hx hb hml hown hu (tJ6_bitCount_0f7a4 l D cs r8 r10 hg11) q647 q65 q645 q646 pdJ6_bitCount_0f7a4 ⟨rfl, rfl, Nat.le_of_ble_eq_true rfl, Nat.le_of_ble_eq_true rfl⟩ hK hZ hP hD hS hA rfl hl.1 rfl (Nat.le_of_ble_eq_true rfl) dX7_count_75 rfl (fun H locs hP hD hS => ?_)
    have he := Option.some.inj hf
    obtain ⟨e0, e1⟩ := Prod.mk.inj he
    exact hri _ _ _ rfl (congrArg (fun z => some (Value.int z)) e0.symm) dX7_count_78 _ _ _ (by rw [e1]) hP hD hS
  have hf := in_el hc7 hf
  by_cases hc12 : x1 = 3
  · have hf := ip_el hc12 hf
    refine lv_tableIn (off := 78) (tgt := 79) hx hb dX7_count_1 (by rw [hc12]; decide) (by rw [hc12]; decide) (by rw [hc12]; decide) (by decide) ?_
    refine lv_aload_n hx hb dX7_count_79 rfl (lv_at hl 0 rfl) ?_
    refine va_get (D := D) (ci := 7) (v := .ref (are 0)) (C := RX7) (T := TX7) (N := 8) hx hb hu inX7 hown hK.1 hP 0 rfl rfl 0 (by decide) (hu _ q300) (fun _ h9 => h9) rfl dX7_count_80 ?_
    refine va_get (D := D) (ci := 2) (v := .ref (ase 0)) (C := RX2) (T := TX2) (N := 4) hx hb hu inX2 hown hK.1 hP 2 rfl rfl 3 (by decide) (hu _ q204) (fun _ h9 => h9) rfl dX7_count_83 ?_
    obtain ⟨r13, hg14, hf⟩ := b1_el hf
    refine cc_V (w' := ((kX7 cs ama (.ref (are 0)) (.ref (are2 0)) (.ref (are3 0)) (.ref (ach 0)) (.ref (ata 0)) (.ref (asa 0)) Ma) ++ ((kX2 cs are (.ref (af 0)) (.ref (ac 0)) (.ref (atr 0)) (.ref (ase 0)) ) ++ ((kX1 cs af  Fo) ++ ((kX4 cs ase (.ref (af 0)) (.ref (ac 0)) (.ref (atr 0)) Se) ++ ((kX6 cs ata (.ref (adr 0)) Ta))))))) (wr := ((kX7 cs ama (.ref (are 0)) (.ref (are2 0)) (.ref (are3 0)) (.ref (ach 0)) (.ref (ata 0)) (.ref (asa 0)) Ma) ++ ((kX2 cs are (.ref (af 0)) (.ref (ac 0)) (.ref (atr 0)) (.ref (ase 0)) ) ++ ((kX6 cs ata (.ref (adr 0)) Ta))))) (st1 := [.int r13]) [] hx hb hml hown hu (tX4_ruledByAll l D cs ase af ac (.ref (atr 0)) Se Fo r13 hg14) q906 q58 q903 q904 q905 pdX4_ruledByAll ⟨rfl, rfl, Nat.le_of_ble_eq_true rfl, Nat.le_of_ble_eq_true rfl⟩ hK hZ hP hD hS hA [10, 11, 12, 13, 3, 4, 5, 6, 7, 8, 9] [0, 1, 2, 14, 15] [0, 1, 2, 9, 10, 11, 12, 13, 14, 15, 5, 6, 7, 8, 3, 4] rfl rfl rfl rfl rfl rfl rfl rfl rfl rfl hl.1 rfl (Nat.le_of_ble_eq_true rfl) dX7_count_86 rfl (fun H locs hP hD hS => ?_)
    have he := Option.some.inj hf
    obtain ⟨e0, e1⟩ := Prod.mk.inj he
    exact hri _ _ _ rfl (congrArg (fun z => some (Value.int z)) e0.symm) dX7_count_89 _ _ _ (by rw [e1]) hP hD hS
  have hf := in_el hc12 hf
  by_cases hc15 : x1 = 4
  · have hf := ip_el hc15 hf
    refine lv_tableIn (off := 89) (tgt := 90) hx hb dX7_count_1 (by rw [hc15]; decide) (by rw [hc15]; decide) (by rw [hc15]; decide) (by decide) ?_
    refine lv_aload_n hx hb dX7_count_90 rfl (lv_at hl 0 rfl) ?_
    refine va_get (D := D) (ci := 7) (v := .ref (ata 0)) (C := RX7) (T := TX7) (N := 8) hx hb hu inX7 hown hK.1 hP 0 rfl rfl 4 (by decide) (hu _ q304) (fun _ h9 => h9) rfl dX7_count_91 ?_
    refine va_get (D := D) (ci := 6) (v := .int (Ta 0 2)) (C := RX6) (T := TX6) (N := 5) hx hb hu inX6 hown hK.1 hP 14 rfl rfl 2 (by decide) (hu _ q263) (fun _ h9 => h9) rfl dX7_count_94 ?_
    have he := Option.some.inj hf
    obtain ⟨e0, e1⟩ := Prod.mk.inj he
    exact hri _ _ _ rfl (congrArg (fun z => some (Value.int z)) e0.symm) dX7_count_97 _ _ _ (by rw [e1]) hP hD hS
  have hf := in_el hc15 hf
  by_cases hc16 : x1 = 5
  · have hf := ip_el hc16 hf
    refine lv_tableIn (off := 97) (tgt := 98) hx hb dX7_count_1 (by rw [hc16]; decide) (by rw [hc16]; decide) (by rw [hc16]; decide) (by decide) ?_
    refine lv_aload_n hx hb dX7_count_98 rfl (lv_at hl 0 rfl) ?_
    refine va_get (D := D) (ci := 7) (v := .ref (are 0)) (C := RX7) (T := TX7) (N := 8) hx hb hu inX7 hown hK.1 hP 0 rfl rfl 0 (by decide) (hu _ q300) (fun _ h9 => h9) rfl dX7_count_99 ?_
    refine va_get (D := D) (ci := 2) (v := .ref (af 0)) (C := RX2) (T := TX2) (N := 4) hx hb hu inX2 hown hK.1 hP 2 rfl rfl 0 (by decide) (hu _ q196) (fun _ h9 => h9) rfl dX7_count_102 ?_
    refine va_get (D := D) (ci := 1) (v := .int (Fo 0 8)) (C := RX1) (T := TX1) (N := 9) hx hb hu inX1 hown hK.1 hP 3 rfl rfl 8 (by decide) (hu _ q113) (fun _ h9 => h9) rfl dX7_count_105 ?_
    have he := Option.some.inj hf
    obtain ⟨e0, e1⟩ := Prod.mk.inj he
    exact hri _ _ _ rfl (congrArg (fun z => some (Value.int z)) e0.symm) dX7_count_108 _ _ _ (by rw [e1]) hP hD hS
  have hf := in_el hc16 hf
  have nhc1 := sw_ne (a := 0) hc1 (by decide)
  have nhc2 := sw_ne (a := 1) hc2 (by decide)
  have nhc7 := sw_ne (a := 2) hc7 (by decide)
  have nhc12 := sw_ne (a := 3) hc12 (by decide)
  have nhc15 := sw_ne (a := 4) hc15 (by decide)
  have nhc16 := sw_ne (a := 5) hc16 (by decide)
  refine lv_tableOut (tgt := 109) hx hb dX7_count_1 (by omega) (by decide) ?_
  refine lv_aload_n hx hb dX7_count_109 rfl (lv_at hl 0 rfl) ?_
  refine lv_ldc (v := (-1000000001)) hx hb hown (hu _ q335) dX7_count_110 ?_
  obtain ⟨r17, Ma_18, hg19, hf⟩ := b2_el hf
  refine cc_V (w' := ((kX7 cs ama (.ref (are 0)) (.ref (are2 0)) (.ref (are3 0)) (.ref (ach 0)) (.ref (ata 0)) (.ref (asa 0)) Ma_18) ++ ((kX2 cs are (.ref (af 0)) (.ref (ac 0)) (.ref (atr 0)) (.ref (ase 0)) ) ++ ((kX1 cs af  Fo) ++ ((kX4 cs ase (.ref (af 0)) (.ref (ac 0)) (.ref (atr 0)) Se) ++ ((kX6 cs ata (.ref (adr 0)) Ta))))))) (wr := ((kX2 cs are (.ref (af 0)) (.ref (ac 0)) (.ref (atr 0)) (.ref (ase 0)) ) ++ ((kX1 cs af  Fo) ++ ((kX4 cs ase (.ref (af 0)) (.ref (ac 0)) (.ref (atr 0)) Se) ++ ((kX6 cs ata (.ref (adr 0)) Ta)))))) (st1 := [.int r17]) [.int (-1000000001)] hx hb hml hown hu (tX7_finding l D cs ama are are2 are3 ach ata asa (-1000000001) Ma r17 Ma_18 hg19) q339 q54 q336 q338 q0 pdX7_finding ⟨rfl, rfl, Nat.le_of_ble_eq_true rfl, Nat.le_of_ble_eq_true rfl⟩ hK hZ hP hD hS hA [0, 1] [2, 3, 4, 5, 6, 7, 8, 9, 10, 11, 12, 13, 14, 15] [14, 15, 0, 1, 2, 3, 4, 5, 6, 7, 8, 9, 10, 11, 12, 13] rfl rfl rfl rfl rfl rfl rfl rfl rfl rfl hl.1 rfl (Nat.le_of_ble_eq_true rfl) dX7_count_112 rfl (fun H locs hP hD hS => ?_)
  have he := Option.some.inj hf
  obtain ⟨e0, e1⟩ := Prod.mk.inj he
  exact hri _ _ _ rfl (congrArg (fun z => some (Value.int z)) e0.symm) dX7_count_115 _ _ _ (by rw [e1]) hP hD hS

def fX7_status_32_s (k32 : Int32 → Int32 → ST → Option (Int32 × ST)) (y2 : Int32) (y3 : Int32) (Ma : ST) : Option (Int32 × ST) :=
  (if 7 ≤ y3 then some (y2, Ma) else dc_ck y3 7 (dc_lt (y2 + (Ma 7 (Int32.toNatClampNeg y3))) (fun v7 => dc_lt (y3 + 1) (fun v8 => k32 v7 v8 Ma))))
def fX7_status_32 : Nat → Int32 → Int32 → ST → Option (Int32 × ST)
  | 0 => fun _ _ _ => none
  | n + 1 => fX7_status_32_s (fX7_status_32 n)
def fX7_status (x1 : Int32) (Ma : ST) : Option (Int32 × ST) :=
  dc_b1 (fX7_within x1 (-1) 6) (fun r1 => (if r1 = 0 then dc_b2 (fX7_finding (-1000000001) Ma) (fun r10 Ma_11 => some (r10, Ma_11)) else (if x1 < 0 then fX7_status_32 400 0 0 Ma else dc_ck x1 7 (some ((Ma 7 (Int32.toNatClampNeg x1)), Ma)))))
abbrev rmX7_status : Room := { frames := 1, cells := 0, slots := 0, locals := 22 }
set_option maxRecDepth 100000 in
set_option maxHeartbeats 4000000 in
theorem tX7_status (l : Launch) (D : va_G) (cs : Nat → ClassId) (ama : Nat → Nat) (are : Nat → Nat) (are2 : Nat → Nat) (are3 : Nat → Nat) (ach : Nat → Nat) (ata : Nat → Nat) (asa : Nat → Nat) (x1 : Int32) (Ma : ST) (r0 : Int32) (Maz : ST) (hf : fX7_status x1 Ma = some (r0, Maz)) : CG l yX7_status (wsm yX7_status cX7_status 4 (some .int)) rmX7_status D cs [.ref (ama 0), .int x1] (some (.int r0)) (kX7 cs ama (.ref (are 0)) (.ref (are2 0)) (.ref (are3 0)) (.ref (ach 0)) (.ref (ata 0)) (.ref (asa 0)) Ma) (kX7 cs ama (.ref (are 0)) (.ref (are2 0)) (.ref (are3 0)) (.ref (ach 0)) (.ref (ata 0)) (.ref (asa 0)) Maz) := by
  refine CG.intro (by decide) (Nat.le_of_ble_eq_true rfl) ?_
  intro p e s m below meth c A Q hx hb hml hown hu hK hZ hP0 hD0 hS0 hA hri hrz hrl hrv hra ls0 hl0
  have hs32 : ∀ (k32 : Int32 → Int32 → ST → Option (Int32 × ST)), (∀ (y2 : Int32) (y3 : Int32) (Ma : ST) (H : Heap) (locs : List Loc) (ls : Array Slot), va_P D vwCl (kX7 cs ama (.ref (are 0)) (.ref (are2 0)) (.ref (are3 0)) (.ref (ach 0)) (.ref (ata 0)) (.ref (asa 0)) Ma) H → va_D A (kX7 cs ama (.ref (are 0)) (.ref (are2 0)) (.ref (are3 0)) (.ref (ach 0)) (.ref (ata 0)) (.ref (asa 0)) Ma) → va_S A s.heap H locs → lv_has ls 4 [(0, .ref (ama 0)), (2, .int y2), (3, .int y3)] → k32 y2 y3 Ma = some (r0, Maz) → W p l e rmX7_status s m [.ref (ama 0), .int x1].toArray below meth c H locs 0 0 Q (F0 m 32 ls [])) → ∀ (y2 : Int32) (y3 : Int32) (Ma : ST) (H : Heap) (locs : List Loc) (ls : Array Slot), va_P D vwCl (kX7 cs ama (.ref (are 0)) (.ref (are2 0)) (.ref (are3 0)) (.ref (ach 0)) (.ref (ata 0)) (.ref (asa 0)) Ma) H → va_D A (kX7 cs ama (.ref (are 0)) (.ref (are2 0)) (.ref (are3 0)) (.ref (ach 0)) (.ref (ata 0)) (.ref (asa 0)) Ma) → va_S A s.heap H locs → lv_has ls 4 [(0, .ref (ama 0)), (2, .int y2), (3, .int y3)] → fX7_status_32_s k32 y2 y3 Ma = some (r0, Maz) → W p l e rmX7_status s m [.ref (ama 0), .int x1].toArray below meth c H locs 0 0 Q (F0 m 32 ls []) := by
    intro k32 hk32 y2 y3 Ma H locs ls hP hD hS hl hf
    unfold fX7_status_32_s at hf
    refine lv_iload_n hx hb dX7_status_32 rfl (lv_at hl 2 rfl) ?_
    refine lv_bipush (v := 7) hx hb dX7_status_33 (by decide) ?_
    refine lv_icmp_ge (tgt := 53) hx hb dX7_status_35 (by decide) (fun hc5 => ?_) (fun hc5 => ?_)
    · have hf := ip_el hc5 hf
      refine lv_iload_n hx hb dX7_status_53 rfl (lv_at hl 1 rfl) ?_
      have he := Option.some.inj hf
      obtain ⟨e0, e1⟩ := Prod.mk.inj he
      exact hri _ _ _ rfl (congrArg (fun z => some (Value.int z)) e0.symm) dX7_status_54 _ _ _ (by rw [e1]) hP hD hS
    · have hf := in_el hc5 hf
      refine lv_iload_n hx hb dX7_status_38 rfl (lv_at hl 1 rfl) ?_
      refine lv_aload_n hx hb dX7_status_39 rfl (lv_at hl 0 rfl) ?_
      refine va_get (D := D) (ci := 7) (v := .ref (ama 7)) (C := RX7) (T := TX7) (N := 8) hx hb hu inX7 hown hK.1 hP 0 rfl rfl 6 (by decide) (hu _ q306) (fun _ h9 => h9) rfl dX7_status_40 ?_
      refine lv_iload_n hx hb dX7_status_43 rfl (lv_at hl 2 rfl) ?_
      obtain ⟨hi6, hf⟩ := ck_el hf
      refine va_iald hx hb hK.1 hP 1 0 rfl rfl hi6 dX7_status_44 ?_
      refine lv_iadd hx hb dX7_status_45 ?_
      obtain ⟨v7, hv7, hf⟩ := lt_el hf
      refine lv_tope hv7 ?_
      refine lv_istore_n (lv' := [(2, .int v7), (0, .ref (ama 0)), (3, .int y3)]) hx hb dX7_status_46 rfl hl (by decide) rfl (fun ls hl => ?_)
      obtain ⟨v8, hv8, hf⟩ := lt_el hf
      refine lv_iinc (v := v8) (lv' := [(3, .int v8), (2, .int v7), (0, .ref (ama 0))]) hx hb dX7_status_47 hl (k := 2) rfl (by rw [hv8]; rfl) (by decide) rfl (fun ls hl => ?_)
      refine lv_goto (tgt := 32) hx hb dX7_status_50 (by decide) ?_
      exact hk32 v7 v8 Ma _ _ _ hP hD hS (lv_sub hl [2, 1, 0] rfl) hf
  have h32 : ∀ (n : Nat), ∀ (y2 : Int32) (y3 : Int32) (Ma : ST) (H : Heap) (locs : List Loc) (ls : Array Slot), va_P D vwCl (kX7 cs ama (.ref (are 0)) (.ref (are2 0)) (.ref (are3 0)) (.ref (ach 0)) (.ref (ata 0)) (.ref (asa 0)) Ma) H → va_D A (kX7 cs ama (.ref (are 0)) (.ref (are2 0)) (.ref (are3 0)) (.ref (ach 0)) (.ref (ata 0)) (.ref (asa 0)) Ma) → va_S A s.heap H locs → lv_has ls 4 [(0, .ref (ama 0)), (2, .int y2), (3, .int y3)] → fX7_status_32 n y2 y3 Ma = some (r0, Maz) → W p l e rmX7_status s m [.ref (ama 0), .int x1].toArray below meth c H locs 0 0 Q (F0 m 32 ls []) := by
    intro n
    induction n with
    | zero => intro y2 y3 Ma H locs ls hP hD hS hl hf; exact no_el hf
    | succ n ih => intro y2 y3 Ma H locs ls hP hD hS hl hf; exact hs32 _ ih y2 y3 Ma _ _ _ hP hD hS hl hf
  have hl : lv_has ls0 4 [(0, .ref (ama 0)), (1, .int x1)] := hl0
  have hP := hP0
  have hD := hD0
  have hS := hS0
  unfold fX7_status at hf
  refine lv_iload_n hx hb dX7_status_0 rfl (lv_at hl 1 rfl) ?_
  refine lv_iconst (v := (-1)) hx hb dX7_status_1 (by decide) ?_
  refine lv_bipush (v := 6) hx hb dX7_status_2 (by decide) ?_
  obtain ⟨r1, hg2, hf⟩ := b1_el hf
  refine cc_S0 (st1 := [.int r1]) [.int x1, .int (-1), .int 6] hx hb hml hown hu (tX7_within l D cs x1 (-1) 6 r1 hg2) q331 q54 q329 q330 pdX7_within ⟨rfl, rfl, Nat.le_of_ble_eq_true rfl, Nat.le_of_ble_eq_true rfl⟩ hK hZ hP hD hS hA rfl hl.1 rfl (Nat.le_of_ble_eq_true rfl) dX7_status_4 rfl (fun H locs hP hD hS => ?_)
  refine lv_if_ne (tgt := 17) hx hb dX7_status_7 (by decide) (fun hc3 => ?_) (fun hc3 => ?_)
  · have hf := in_el hc3 hf
    refine lv_iload_n hx hb dX7_status_17 rfl (lv_at hl 1 rfl) ?_
    refine lv_if_lt (tgt := 28) hx hb dX7_status_18 (by decide) (fun hc4 => ?_) (fun hc4 => ?_)
    · have hf := ip_el hc4 hf
      refine lv_iconst (v := 0) hx hb dX7_status_28 (by decide) ?_
      refine lv_istore_n (lv' := [(2, .int 0), (0, .ref (ama 0)), (1, .int x1)]) hx hb dX7_status_29 rfl hl (by decide) rfl (fun ls hl => ?_)
      refine lv_iconst (v := 0) hx hb dX7_status_30 (by decide) ?_
      refine lv_istore_n (lv' := [(3, .int 0), (2, .int 0), (0, .ref (ama 0)), (1, .int x1)]) hx hb dX7_status_31 rfl hl (by decide) rfl (fun ls hl => ?_)
      exact h32 400 0 0 Ma _ _ _ hP hD hS (lv_sub hl [2, 1, 0] rfl) hf
    · have hf := in_el hc4 hf
      refine lv_aload_n hx hb dX7_status_21 rfl (lv_at hl 0 rfl) ?_
      refine va_get (D := D) (ci := 7) (v := .ref (ama 7)) (C := RX7) (T := TX7) (N := 8) hx hb hu inX7 hown hK.1 hP 0 rfl rfl 6 (by decide) (hu _ q306) (fun _ h9 => h9) rfl dX7_status_22 ?_
      refine lv_iload_n hx hb dX7_status_25 rfl (lv_at hl 1 rfl) ?_
      obtain ⟨hi9, hf⟩ := ck_el hf
      refine va_iald hx hb hK.1 hP 1 0 rfl rfl hi9 dX7_status_26 ?_
      have he := Option.some.inj hf
      obtain ⟨e0, e1⟩ := Prod.mk.inj he
      exact hri _ _ _ rfl (congrArg (fun z => some (Value.int z)) e0.symm) dX7_status_27 _ _ _ (by rw [e1]) hP hD hS
  · have hf := ip_el hc3 hf
    refine lv_aload_n hx hb dX7_status_10 rfl (lv_at hl 0 rfl) ?_
    refine lv_ldc (v := (-1000000001)) hx hb hown (hu _ q335) dX7_status_11 ?_
    obtain ⟨r10, Ma_11, hg12, hf⟩ := b2_el hf
    refine cc_V1 (w' := (kX7 cs ama (.ref (are 0)) (.ref (are2 0)) (.ref (are3 0)) (.ref (ach 0)) (.ref (ata 0)) (.ref (asa 0)) Ma_11)) (st1 := [.int r10]) [.int (-1000000001)] hx hb hml hown hu (tX7_finding l D cs ama are are2 are3 ach ata asa (-1000000001) Ma r10 Ma_11 hg12) q339 q54 q336 q338 q0 pdX7_finding ⟨rfl, rfl, Nat.le_of_ble_eq_true rfl, Nat.le_of_ble_eq_true rfl⟩ hK hZ hP hD hS hA rfl rfl rfl rfl hl.1 rfl (Nat.le_of_ble_eq_true rfl) dX7_status_13 rfl (fun H locs hP hD hS => ?_)
    have he := Option.some.inj hf
    obtain ⟨e0, e1⟩ := Prod.mk.inj he
    exact hri _ _ _ rfl (congrArg (fun z => some (Value.int z)) e0.symm) dX7_status_16 _ _ _ (by rw [e1]) hP hD hS
