-- read
theorem rd8_87 {N : LT} {M : ST} {L t k g : Nat} {z : Int32} (ht : t < 4) (hL : L ≤ 40) (hM : M 8 t = nI L) (hz : ¬ z = 0) (hk : k < 2 ^ 31) : fX8_read_39 N (g + 1) (nI t) z (nI k) M = fX8_read_87 N z M := by
  show fX8_read_39_s N (fX8_read_39 N g) _ _ _ _ = _
  unfold fX8_read_39_s
  rw [cks _ (vp_in_nI ht (by decide)), nI_clamp (by omega), hM, if_neg hz]
  by_cases q : nI L ≤ nI k
  · rw [if_pos q]
  · rw [if_neg q]
theorem rd_l {F Ma M : ST} {x : S3} {N V : LT} {G : ST} {n a L t : Nat} (h : ctx F x.2.1 x.1 M n a) (hl : lvl x.1 M n) (ht : t < 4) (hL : L ≤ 40) (hG : G 0 1 = nI L) (hM8 : M 8 t = nI L) (hN : ∀ i, i < 40 → N (40 * t + i) = V i) {W : Nat → Int32 → ST → ST → ST → ST → Option (Int32 × ST × ST × ST × ST)} (hW : ∀ f y2 Ma Sc Tr Us, W (f + 1) y2 Ma Sc Tr Us = (if (G 0 1) ≤ y2 then some (0, Ma, Sc, Tr, Us) else dc_ck y2 40 (dc_b4 (fX4_next 1 Us F Sc Tr) (fun r13 Us_14 Sc_15 Tr_16 => (if (lg_cmp (V (Int32.toNatClampNeg y2)) (r13.toInt64)) = 0 then dc_lt (y2 + 1) (fun v19 => W f v19 Ma Sc_15 Tr_16 Us_14) else some ((1 + y2), Ma, Sc_15, Tr_16, Us_14)))))) : ∀ (r k f g : Nat), k + r = L → r < f → r < g → ∃ (e : Nat) (z : Int32), W f (nI k) Ma (itS F x k).2.1 (itS F x k).2.2 (itS F x k).1 = some (z, Ma, (itS F x e).2.1, (itS F x e).2.2, (itS F x e).1) ∧ fX8_read_39 N g (nI t) 0 (nI k) (itM M k) = fX8_read_87 N z (itM M e) := by
  intro r
  induction r with
  | zero =>
    intro k f g hk hf hg
    obtain ⟨f, rfl⟩ : ∃ f', f = f' + 1 := ⟨f - 1, by omega⟩
    obtain ⟨g, rfl⟩ : ∃ f', g = f' + 1 := ⟨g - 1, by omega⟩
    refine ⟨k, 0, ?_, ?_⟩
    · rw [hW, hG, if_pos (nI_le (by omega) (by omega))]
    · show fX8_read_39_s N (fX8_read_39 N g) _ _ _ _ = _
      unfold fX8_read_39_s
      rw [cks _ (vp_in_nI ht (by decide)), nI_clamp (by omega), (it_ok h hl k).2.2.2.1 8 (by decide) (by decide) (by decide), hM8, if_pos (nI_le (by omega) (by omega))]
  | succ r ih =>
    intro k f g hk hf hg
    obtain ⟨f, rfl⟩ : ∃ f', f = f' + 1 := ⟨f - 1, by omega⟩
    obtain ⟨g, rfl⟩ : ∃ f', g = f' + 1 := ⟨g - 1, by omega⟩
    have E8 : fX8_read_39 N (g + 1) (nI t) 0 (nI k) (itM M k) = fX8_read_39_s N (fX8_read_39 N g) (nI t) 0 (nI k) (itM M k) := rfl
    have e40 : 40 * nI t + nI k = nI (40 * t + k) := by rw [show (40 : Int32) = nI 40 from rfl, pk_mul, nI_add]
    obtain ⟨s1, s2, -, -⟩ := it_st h hl k
    rw [hW, E8]
    unfold fX8_read_39_s
    rw [hG, if_neg (nI_ge (a := k) (b := L) (by omega) (by omega)), cks _ (vp_in_nI (show k < 40 by omega) (by decide)), s1, b4s, nI_clamp (show k < 2 ^ 31 by omega), cks _ (vp_in_nI ht (by decide)), nI_clamp (show t < 2 ^ 31 by omega), (it_ok h hl k).2.2.2.1 8 (by decide) (by decide) (by decide), hM8, if_neg (nI_ge (a := k) (b := L) (by omega) (by omega)), i00, e40, cks _ (vp_in_nI (show 40 * t + k < 160 by omega) (by decide)), s2, b2s, nI_clamp (show 40 * t + k < 2 ^ 31 by omega), hN k (by omega)]
    simp only [lts]
    rw [nI_1]
    by_cases q : lg_cmp (V k) (itR F x k).toInt64 = 0
    · rw [if_pos q, if_pos q]
      exact ih (k + 1) f g (by omega) (by omega) (by omega)
    · rw [if_neg q, if_neg q]
      obtain ⟨g, rfl⟩ : ∃ f', g = f' + 1 := ⟨g - 1, by omega⟩
      refine ⟨k + 1, nI (k + 1), ?_, rd8_87 ht hL ?_ (nI_ne0 (by omega) (by omega)) (by omega)⟩
      · rw [show 1 + nI k = nI (k + 1) by rw [show (1 : Int32) = nI 1 from rfl, nI_add, Nat.add_comm]]
      · rw [(it_ok h hl (k + 1)).2.2.2.1 8 (by decide) (by decide) (by decide), hM8]
theorem rd_fin {Ma Fo Sc Se Tr Ch Us Ta Dr G0 : ST} {N0 : LT} {G1 : ST} {N1 : LT} {G2 : ST} {N2 : LT} {G3 : ST} {N3 : LT} {Fo2 Sc2 Se2 Tr2 Fo3 Sc3 Se3 Tr3 M : ST} {N : LT} (hR : RR Ma Fo Sc Se Tr Ch Us Ta Dr G0 N0 G1 N1 G2 N2 G3 N3 Fo2 Sc2 Se2 Tr2 Fo3 Sc3 Se3 Tr3 M N) {t : Nat} {G : ST} {V : LT} (ht : t < 4) (hs : rSh G V (M 7 t) (M 8 t) N t) {W : Nat → Int32 → ST → ST → ST → ST → Option (Int32 × ST × ST × ST × ST)} (hW : ∀ f y2 Ma Sc Tr Us, W (f + 1) y2 Ma Sc Tr Us = (if (G 0 1) ≤ y2 then some (0, Ma, Sc, Tr, Us) else dc_ck y2 40 (dc_b4 (fX4_next 1 Us Fo Sc Tr) (fun r13 Us_14 Sc_15 Tr_16 => (if (lg_cmp (V (Int32.toNatClampNeg y2)) (r13.toInt64)) = 0 then dc_lt (y2 + 1) (fun v19 => W f v19 Ma Sc_15 Tr_16 Us_14) else some ((1 + y2), Ma, Sc_15, Tr_16, Us_14)))))) : ∃ (r0 : Int32) (Maz Scz Trz Usz Mz : ST), dc_b1 (fX5_isMissing G) (fun r5 => (if r5 = 0 then dc_b1 (fX0_start Ch Se Us) (fun Us_8 => W 400 0 Ma Sc Tr Us_8) else dc_b2 (fX7_finding (-1000000006) Ma) (fun r50 Ma_51 => some (r50, Ma_51, Sc, Tr, Us)))) = some (r0, Maz, Scz, Trz, Usz) ∧ dc_ck (nI t) 4 ((if 0 ≤ (M 7 (Int32.toNatClampNeg (nI t))) then dc_b1 (fX8_laysBy M) (fun M_6 => fX8_read_39 N 400 (nI t) 0 0 M_6) else dc_b2 (fX8_finds (-1000000006) M) (fun r21 M_22 => some (r21, M_22)))) = some (r0, Mz) ∧ RR Maz Fo Scz Se Trz Ch Usz Ta Dr G0 N0 G1 N1 G2 N2 G3 N3 Fo2 Sc2 Se2 Tr2 Fo3 Sc3 Se3 Tr3 Mz N := by
  obtain ⟨n, a, h⟩ := ctx_of hR.1.1 hR.1.2.1
  rw [miss7 hs, b1s, cks _ (vp_in_nI ht (by decide)), nI_clamp (by omega)]
  by_cases hb : 0 ≤ M 7 t
  · rw [if_pos hb, if_pos hb, i00]
    obtain ⟨U, K, u1, u2, u3, u4, u5, -⟩ := trial hR h Ch Us
    obtain ⟨L, hL, hl⟩ := hs.2.1
    obtain ⟨e, z, e1, e2⟩ := rd_l (x := (U, Sc, Tr)) (Ma := Ma) u3 u4 ht hL hl (by rw [vup_o (by decide)]; exact hs.2.2.1.trans hl) hs.2.2.2 hW L 0 400 400 (by omega) (by omega) (by omega)
    obtain ⟨Mz, z1, -, -, -, z5⟩ := RR_tr hR u5 (C0 := Sc) (S0 := U) (M0 := va_up M 14 K) (fun _ _ => rfl) (fun _ _ => rfl) (fun i _ => by rw [vup_o (by decide)]) (it_ok (x := (U, Sc, Tr)) u3 u4 e).2.2
    unfold fX8_read_87 at e2
    rw [z1, b1s] at e2
    rw [u1, b1s, u2, b1s]
    exact ⟨_, _, _, _, _, _, e1, e2, z5 _ _ _⟩
  · rw [if_neg hb, if_neg hb, i10, fd7_5, fd8_5, b2s, b2s]
    exact ⟨_, _, _, _, _, _, rfl, rfl, RR_f hR 5 (by decide)⟩
theorem P_read_ok : P_read RR := by
  intro x1 Ma Fo Sc Se Tr Ch Us Ta Dr G0 N0 G1 N1 G2 N2 G3 N3 Fo2 Sc2 Se2 Tr2 Fo3 Sc3 Se3 Tr3 M N hR
  unfold fX7_read fX8_read
  rw [isSh7_e, isSh8_e, b1s, b1s]
  by_cases c1 : x1 < 0 ∨ 3 < x1
  · rw [if_pos c1, i00, i00, fd7_0, fd8_0, b2s, b2s]
    exact ⟨_, _, _, _, _, _, rfl, rfl, RR_f hR 0 (by decide)⟩
  rw [if_neg c1, i10, i10]
  obtain ⟨s0, s1, s2, s3⟩ := hR.2.2.2.2
  rcases four c1 with e | e | e | e
  · subst e
    rw [if_pos rfl]
    exact rd_fin hR (t := 0) (by decide) s0 (W := fun f y2 Ma Sc Tr Us => fX7_read_43 Fo Se Ch G0 N0 G1 N1 G2 N2 G3 N3 f 0 y2 Ma Sc Tr Us) (fun f y2 Ma Sc Tr Us => by
      show fX7_read_43_s Fo Se Ch G0 N0 G1 N1 G2 N2 G3 N3 (fX7_read_43 Fo Se Ch G0 N0 G1 N1 G2 N2 G3 N3 f) 0 y2 Ma Sc Tr Us = _
      unfold fX7_read_43_s
      rw [if_pos rfl])
  · subst e
    rw [if_neg (show ¬ (1 : Int32) = 0 by decide), if_pos rfl]
    exact rd_fin hR (t := 1) (by decide) s1 (W := fun f y2 Ma Sc Tr Us => fX7_read_43 Fo Se Ch G0 N0 G1 N1 G2 N2 G3 N3 f 1 y2 Ma Sc Tr Us) (fun f y2 Ma Sc Tr Us => by
      show fX7_read_43_s Fo Se Ch G0 N0 G1 N1 G2 N2 G3 N3 (fX7_read_43 Fo Se Ch G0 N0 G1 N1 G2 N2 G3 N3 f) 1 y2 Ma Sc Tr Us = _
      unfold fX7_read_43_s
      rw [if_neg (show ¬ (1 : Int32) = 0 by decide), if_pos rfl])
  · subst e
    rw [if_neg (show ¬ (2 : Int32) = 0 by decide), if_neg (show ¬ (2 : Int32) = 1 by decide), if_pos rfl]
    exact rd_fin hR (t := 2) (by decide) s2 (W := fun f y2 Ma Sc Tr Us => fX7_read_43 Fo Se Ch G0 N0 G1 N1 G2 N2 G3 N3 f 2 y2 Ma Sc Tr Us) (fun f y2 Ma Sc Tr Us => by
      show fX7_read_43_s Fo Se Ch G0 N0 G1 N1 G2 N2 G3 N3 (fX7_read_43 Fo Se Ch G0 N0 G1 N1 G2 N2 G3 N3 f) 2 y2 Ma Sc Tr Us = _
      unfold fX7_read_43_s
      rw [if_neg (show ¬ (2 : Int32) = 0 by decide), if_neg (show ¬ (2 : Int32) = 1 by decide), if_pos rfl])
  · subst e
    rw [if_neg (show ¬ (3 : Int32) = 0 by decide), if_neg (show ¬ (3 : Int32) = 1 by decide), if_neg (show ¬ (3 : Int32) = 2 by decide), if_pos rfl]
    exact rd_fin hR (t := 3) (by decide) s3 (W := fun f y2 Ma Sc Tr Us => fX7_read_43 Fo Se Ch G0 N0 G1 N1 G2 N2 G3 N3 f 3 y2 Ma Sc Tr Us) (fun f y2 Ma Sc Tr Us => by
      show fX7_read_43_s Fo Se Ch G0 N0 G1 N1 G2 N2 G3 N3 (fX7_read_43 Fo Se Ch G0 N0 G1 N1 G2 N2 G3 N3 f) 3 y2 Ma Sc Tr Us = _
      unfold fX7_read_43_s
      rw [if_neg (show ¬ (3 : Int32) = 0 by decide), if_neg (show ¬ (3 : Int32) = 1 by decide), if_neg (show ¬ (3 : Int32) = 2 by decide), if_pos rfl])
