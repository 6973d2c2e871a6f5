-- lays
def layB (V : LT) (k : Int32 → Int32 → Int32 → Int32 → Int32 → ST → ST → Option (Int32 × ST × ST)) (y1 y2 y3 y4 y5 : Int32) (Ma Fo : ST) : Option (Int32 × ST × ST) :=
  (if y4 ≤ y5 then some (y3, Ma, Fo) else dc_ck y5 40 (dc_lt (V (Int32.toNatClampNeg y5)) (fun v15 => (if y5 = y2 then dc_lt (y5 + 1) (fun v17 => k y1 y2 y3 y4 v17 Ma Fo) else (if (lg_cmp v15 (-9)) < 0 then dc_lt (y5 + 1) (fun v19 => k y1 y2 y3 y4 v19 Ma Fo) else (if 0 < (lg_cmp v15 9) then dc_lt (y5 + 1) (fun v21 => k y1 y2 y3 y4 v21 Ma Fo) else dc_ck ((y2 * 10) + y5) 100 (dc_lt (sti Fo 7 (Int32.toNatClampNeg ((y2 * 10) + y5)) (v15.toInt32)) (fun Fo_23 => dc_lt (y3 + 1) (fun v24 => dc_lt (y5 + 1) (fun v25 => k y1 y2 v24 y4 v25 Ma Fo_23)))))))))) 
theorem inv_like {F C S : ST} {n p q : Nat} (hn : n ≤ 10) (hF : F 0 0 = nI n) (hi : inv F C S) (hp : p < n) (hq : q < n) (hpq : p ≠ q) (x : Int32) : inv (sti F 7 (10 * p + q) x) C S := by
  obtain ⟨n', hn', hF', ⟨i1, i2, i3, i4⟩, hiR, hiL, hiC⟩ := hi
  have hnn : n' = n := (nI_eq (by omega) (by omega)).mp (hF'.symm.trans hF)
  subst hnn
  refine ⟨n', hn, hF, ⟨i1, i2, i3, fun a b ha hb hab => ?_⟩, hiR, hiL, hiC⟩
  show upd (F 7) (10 * p + q) x (10 * a + b) = 0
  rw [upd_n (by omega)]
  exact i4 a b ha hb hab
theorem lays_l {N V : LT} {W : Nat → Int32 → Int32 → Int32 → Int32 → Int32 → ST → ST → Option (Int32 × ST × ST)} {x1 : Int32} (hW : ∀ f y2 y3 y4 y5 Ma Fo, W (f + 1) x1 y2 y3 y4 y5 Ma Fo = layB V (W f) x1 y2 y3 y4 y5 Ma Fo) {C S Ma : ST} {n L b t p : Nat} (hn : n ≤ 10) (hL : L ≤ 40) (hb : b ≤ n ∧ b ≤ L ∧ (b = n ∨ b = L)) (ht : t < 4) (hp : p < n) (hV : ∀ i, i < 40 → N (40 * t + i) = V i) : ∀ (r k f g : Nat) (F M : ST) (c : Int32), k + r = b → r < f → r < g → F 0 0 = nI n → M 8 t = nI L → core F C S (M 1) → inv F C S → ∃ z F' M', W f x1 (nI p) c (nI b) (nI k) Ma F = some (z, Ma, F') ∧ fX8_lays_51 N g (nI t) (nI p) c (nI k) M = some (z, M') ∧ core F' C S (M' 1) ∧ inv F' C S ∧ ∀ a, a ≠ 1 → M' a = M a := by
  intro r
  induction r with
  | zero =>
    intro k f g F M c hk hf hg hF h8 hc hi
    obtain ⟨f, rfl⟩ : ∃ f', f = f' + 1 := ⟨f - 1, by omega⟩
    obtain ⟨g, rfl⟩ : ∃ f', g = f' + 1 := ⟨g - 1, by omega⟩
    refine ⟨c, F, M, ?_, ?_, hc, hi, fun a _ => rfl⟩
    · rw [hW]
      unfold layB
      rw [if_pos (nI_le (by omega) (by omega))]
    · show fX8_lays_51_s N (fX8_lays_51 N g) _ _ _ _ _ = _
      unfold fX8_lays_51_s
      rw [cks _ (vp_in_nI ht (by decide)), nI_clamp (by omega), h8, hc.1.1, hF]
      by_cases h : nI L ≤ nI k
      · rw [if_pos h]
      · rw [if_neg h, if_pos (nI_le (by rw [nI_leI (by omega) (by omega)] at h; omega) (by omega))]
  | succ r ih =>
    intro k f g F M c hk hf hg hF h8 hc hi
    obtain ⟨f, rfl⟩ : ∃ f', f = f' + 1 := ⟨f - 1, by omega⟩
    obtain ⟨g, rfl⟩ : ∃ f', g = f' + 1 := ⟨g - 1, by omega⟩
    have e4 : (40 : Int32) * nI t + nI k = nI (40 * t + k) := by rw [show (40 : Int32) = nI 40 from rfl, pk_mul, nI_add]
    have e1 : nI p * 10 + nI k = nI (10 * p + k) := by rw [show (10 : Int32) = nI 10 from rfl, pk_mul, nI_add, Nat.mul_comm]
    have e2 : (74 + 10 * nI p) + nI k = nI (74 + (10 * p + k)) := by rw [show (10 : Int32) = nI 10 from rfl, show (74 : Int32) = nI 74 from rfl, pk_mul, nI_add, nI_add, Nat.add_assoc]
    have h7 : W (f + 1) x1 (nI p) c (nI b) (nI k) Ma F = (if nI k = nI p then W f x1 (nI p) c (nI b) (nI (k + 1)) Ma F else (if (lg_cmp (V k) (-9)) < 0 then W f x1 (nI p) c (nI b) (nI (k + 1)) Ma F else (if 0 < (lg_cmp (V k) 9) then W f x1 (nI p) c (nI b) (nI (k + 1)) Ma F else W f x1 (nI p) (c + 1) (nI b) (nI (k + 1)) Ma (sti F 7 (10 * p + k) ((V k).toInt32))))) := by
      rw [hW]
      unfold layB
      rw [if_neg (nI_ge (by omega) (by omega)), cks _ (vp_in_nI (by omega) (by decide)), lts, nI_clamp (by omega), e1, cks _ (vp_in_nI (n := 10 * p + k) (by omega) (by decide)), nI_clamp (n := 10 * p + k) (by omega)]
      simp only [lts, nI_1]
    have h9 : fX8_lays_51 N (g + 1) (nI t) (nI p) c (nI k) M = (if nI k = nI p then fX8_lays_51 N g (nI t) (nI p) c (nI (k + 1)) M else (if (lg_cmp (V k) (-9)) < 0 then fX8_lays_51 N g (nI t) (nI p) c (nI (k + 1)) M else (if 0 < (lg_cmp (V k) 9) then fX8_lays_51 N g (nI t) (nI p) c (nI (k + 1)) M else fX8_lays_51 N g (nI t) (nI p) (c + 1) (nI (k + 1)) (sti M 1 (74 + (10 * p + k)) ((V k).toInt32))))) := by
      show fX8_lays_51_s N (fX8_lays_51 N g) _ _ _ _ _ = _
      unfold fX8_lays_51_s
      rw [cks _ (vp_in_nI ht (by decide)), nI_clamp (n := t) (by omega), h8, hc.1.1, hF, if_neg (nI_ge (by omega) (by omega)), if_neg (nI_ge (by omega) (by omega)), e4, cks _ (vp_in_nI (n := 40 * t + k) (by omega) (by decide)), lts, nI_clamp (n := 40 * t + k) (by omega), hV k (by omega), e2, cks _ (vp_in_nI (n := 74 + (10 * p + k)) (by omega) (by decide)), nI_clamp (n := 74 + (10 * p + k)) (by omega)]
      simp only [lts, nI_1]
      unfold fX8_isIn
      by_cases q1 : (lg_cmp (V k) (-9)) < 0
      · simp only [if_pos q1, b1s, if_true]
      · by_cases q2 : 0 < (lg_cmp (V k) 9)
        · simp only [if_neg q1, if_pos q2, b1s, if_true]
        · simp only [if_neg q1, if_neg q2, b1s, i10]
    rw [h7, h9]
    by_cases q0 : nI k = nI p
    · rw [if_pos q0, if_pos q0]
      exact ih (k + 1) f g F M c (by omega) (by omega) (by omega) hF h8 hc hi
    rw [if_neg q0, if_neg q0]
    by_cases q1 : (lg_cmp (V k) (-9)) < 0
    · rw [if_pos q1, if_pos q1]
      exact ih (k + 1) f g F M c (by omega) (by omega) (by omega) hF h8 hc hi
    rw [if_neg q1, if_neg q1]
    by_cases q2 : 0 < (lg_cmp (V k) 9)
    · rw [if_pos q2, if_pos q2]
      exact ih (k + 1) f g F M c (by omega) (by omega) (by omega) hF h8 hc hi
    rw [if_neg q2, if_neg q2]
    have hkp : p ≠ k := fun e => q0 (by rw [e])
    obtain ⟨z, F', M', a1, a2, a3, a4, a5⟩ := ih (k + 1) f g (sti F 7 (10 * p + k) ((V k).toInt32)) (sti M 1 (74 + (10 * p + k)) ((V k).toInt32)) (c + 1) (by omega) (by omega) (by omega) hF h8 (core_like hc (by omega) _) (inv_like hn hF hi hp (by omega) hkp _)
    refine ⟨z, F', M', a1, a2, a3, a4, fun a ha => ?_⟩
    rw [a5 a ha]
    unfold sti va_up
    rw [if_neg ha]
theorem P_lays_ok : P_lays RR := by
  intro x1 x2 Ma Fo Sc Se Tr Ch Us Ta Dr G0 N0 G1 N1 G2 N2 G3 N3 Fo2 Sc2 Se2 Tr2 Fo3 Sc3 Se3 Tr3 M N hR
  unfold fX7_lays fX8_lays
  rw [isSh7_e, isSh8_e, b1s, b1s]
  by_cases c1 : x1 < 0 ∨ 3 < x1
  · exact ⟨-1000000001, fMa 0 Ma, Fo, fM 0 M, by rw [if_pos c1, if_pos rfl, fd7_0, b2s], by rw [if_pos c1, if_pos rfl, fd8_0, b2s], RR_f hR 0 (by decide)⟩
  rw [if_neg c1, i10, i10]
  obtain ⟨s0, s1, s2, s3⟩ := hR.2.2.2.2
  obtain ⟨n, hn, hF, hM⟩ := RR_n hR
  have hmin : ∀ L : Nat, L ≤ 40 → ∃ b : Nat, (b ≤ n ∧ b ≤ L ∧ (b = n ∨ b = L)) ∧ (if nI n < nI L then nI n else nI L) = nI b := fun L hL => by
    by_cases h : n < L
    · exact ⟨n, ⟨by omega, by omega, Or.inl rfl⟩, if_pos (nI_lt h (by omega))⟩
    · exact ⟨L, ⟨by omega, by omega, Or.inr rfl⟩, if_neg (nI_nlt (by omega) (by omega))⟩
  have hend : ∀ {F' M' : ST}, core F' Sc Se (M' 1) → inv F' Sc Se → (∀ a, a ≠ 1 → M' a = M a) → RR Ma F' Sc Se Tr Ch Us Ta Dr G0 N0 G1 N1 G2 N2 G3 N3 Fo2 Sc2 Se2 Tr2 Fo3 Sc3 Se3 Tr3 M' N := fun {F' M'} a3 a4 a5 => by
    unfold RR
    rw [a5 0 (by decide), a5 2 (by decide), a5 4 (by decide), a5 5 (by decide), a5 7 (by decide), a5 8 (by decide)]
    obtain ⟨⟨-, -, hk⟩, h2⟩ := hR
    exact ⟨⟨a3, a4, hk⟩, h2⟩
  obtain ⟨⟨hc, hi, -⟩, -⟩ := id hR
  rcases four c1 with rfl | rfl | rfl | rfl
  · have v4 : vp_in (0 : Int32) 4 := vp_in_nI (n := 0) (by decide) (by decide)
    have cl : Int32.toNatClampNeg (0 : Int32) = 0 := nI_clamp (n := 0) (by decide)
    rw [if_pos (show (0 : Int32) = 0 from rfl), miss7 s0, b1s, cks _ v4, cl]
    by_cases c2 : 0 ≤ M 7 0
    rotate_left
    · exact ⟨-1000000006, fMa 5 Ma, Fo, fM 5 M, by rw [if_neg c2, if_neg (show ¬ (1 : Int32) = 0 by decide), fd7_5, b2s], by rw [if_neg c2, fd8_5, b2s], RR_f hR 5 (by decide)⟩
    obtain ⟨L, hL, hl⟩ := s0.2.1
    have hl8 : M 8 0 = nI L := s0.2.2.1.trans hl
    rw [if_pos c2, if_pos rfl, if_pos c2, isOne_e hn hF, isP_e hM, b1s, b1s]
    by_cases c3 : x2 < 0 ∨ nI n ≤ x2
    · exact ⟨-1000000001, fMa 0 Ma, Fo, fM 0 M, by rw [if_pos c3, if_pos rfl, fd7_0, b2s], by rw [if_pos c3, if_pos rfl, fd8_0, b2s], RR_f hR 0 (by decide)⟩
    obtain ⟨p, hp, rfl⟩ := in_n hn c3
    obtain ⟨b, hb, eb⟩ := hmin L hL
    rw [if_neg c3, i10, i10, lts, hF, hl, eb]
    obtain ⟨z, F', M', a1, a2, a3, a4, a5⟩ := lays_l (N := N) (V := N0) (W := fX7_lays_78 G0 N0 G1 N1 G2 N2 G3 N3) (x1 := 0) (fun f y2 y3 y4 y5 Ma Fo => by
      show fX7_lays_78_s G0 N0 G1 N1 G2 N2 G3 N3 (fX7_lays_78 G0 N0 G1 N1 G2 N2 G3 N3 f) _ _ _ _ _ _ _ = _
      unfold fX7_lays_78_s layB
      rw [if_pos (show (0 : Int32) = 0 from rfl)]) (Ma := Ma) (t := 0) hn hL hb (by decide) hp s0.2.2.2 b 0 400 400 Fo M 0 (by omega) (by omega) (by omega) hF hl8 hc hi
    exact ⟨z, Ma, F', M', a1, a2, hend a3 a4 a5⟩
  · have v4 : vp_in (1 : Int32) 4 := vp_in_nI (n := 1) (by decide) (by decide)
    have cl : Int32.toNatClampNeg (1 : Int32) = 1 := nI_clamp (n := 1) (by decide)
    rw [if_neg (show ¬ (1 : Int32) = 0 by decide), if_pos (show (1 : Int32) = 1 from rfl), miss7 s1, b1s, cks _ v4, cl]
    by_cases c2 : 0 ≤ M 7 1
    rotate_left
    · exact ⟨-1000000006, fMa 5 Ma, Fo, fM 5 M, by rw [if_neg c2, if_neg (show ¬ (1 : Int32) = 0 by decide), fd7_5, b2s], by rw [if_neg c2, fd8_5, b2s], RR_f hR 5 (by decide)⟩
    obtain ⟨L, hL, hl⟩ := s1.2.1
    have hl8 : M 8 1 = nI L := s1.2.2.1.trans hl
    rw [if_pos c2, if_pos rfl, if_pos c2, isOne_e hn hF, isP_e hM, b1s, b1s]
    by_cases c3 : x2 < 0 ∨ nI n ≤ x2
    · exact ⟨-1000000001, fMa 0 Ma, Fo, fM 0 M, by rw [if_pos c3, if_pos rfl, fd7_0, b2s], by rw [if_pos c3, if_pos rfl, fd8_0, b2s], RR_f hR 0 (by decide)⟩
    obtain ⟨p, hp, rfl⟩ := in_n hn c3
    obtain ⟨b, hb, eb⟩ := hmin L hL
    rw [if_neg c3, i10, i10, lts, hF, hl, eb]
    obtain ⟨z, F', M', a1, a2, a3, a4, a5⟩ := lays_l (N := N) (V := N1) (W := fX7_lays_78 G0 N0 G1 N1 G2 N2 G3 N3) (x1 := 1) (fun f y2 y3 y4 y5 Ma Fo => by
      show fX7_lays_78_s G0 N0 G1 N1 G2 N2 G3 N3 (fX7_lays_78 G0 N0 G1 N1 G2 N2 G3 N3 f) _ _ _ _ _ _ _ = _
      unfold fX7_lays_78_s layB
      rw [if_neg (show ¬ (1 : Int32) = 0 by decide), if_pos (show (1 : Int32) = 1 from rfl)]) (Ma := Ma) (t := 1) hn hL hb (by decide) hp s1.2.2.2 b 0 400 400 Fo M 0 (by omega) (by omega) (by omega) hF hl8 hc hi
    exact ⟨z, Ma, F', M', a1, a2, hend a3 a4 a5⟩
  · have v4 : vp_in (2 : Int32) 4 := vp_in_nI (n := 2) (by decide) (by decide)
    have cl : Int32.toNatClampNeg (2 : Int32) = 2 := nI_clamp (n := 2) (by decide)
    rw [if_neg (show ¬ (2 : Int32) = 0 by decide), if_neg (show ¬ (2 : Int32) = 1 by decide), if_pos (show (2 : Int32) = 2 from rfl), miss7 s2, b1s, cks _ v4, cl]
    by_cases c2 : 0 ≤ M 7 2
    rotate_left
    · exact ⟨-1000000006, fMa 5 Ma, Fo, fM 5 M, by rw [if_neg c2, if_neg (show ¬ (1 : Int32) = 0 by decide), fd7_5, b2s], by rw [if_neg c2, fd8_5, b2s], RR_f hR 5 (by decide)⟩
    obtain ⟨L, hL, hl⟩ := s2.2.1
    have hl8 : M 8 2 = nI L := s2.2.2.1.trans hl
    rw [if_pos c2, if_pos rfl, if_pos c2, isOne_e hn hF, isP_e hM, b1s, b1s]
    by_cases c3 : x2 < 0 ∨ nI n ≤ x2
    · exact ⟨-1000000001, fMa 0 Ma, Fo, fM 0 M, by rw [if_pos c3, if_pos rfl, fd7_0, b2s], by rw [if_pos c3, if_pos rfl, fd8_0, b2s], RR_f hR 0 (by decide)⟩
    obtain ⟨p, hp, rfl⟩ := in_n hn c3
    obtain ⟨b, hb, eb⟩ := hmin L hL
    rw [if_neg c3, i10, i10, lts, hF, hl, eb]
    obtain ⟨z, F', M', a1, a2, a3, a4, a5⟩ := lays_l (N := N) (V := N2) (W := fX7_lays_78 G0 N0 G1 N1 G2 N2 G3 N3) (x1 := 2) (fun f y2 y3 y4 y5 Ma Fo => by
      show fX7_lays_78_s G0 N0 G1 N1 G2 N2 G3 N3 (fX7_lays_78 G0 N0 G1 N1 G2 N2 G3 N3 f) _ _ _ _ _ _ _ = _
      unfold fX7_lays_78_s layB
      rw [if_neg (show ¬ (2 : Int32) = 0 by decide), if_neg (show ¬ (2 : Int32) = 1 by decide), if_pos (show (2 : Int32) = 2 from rfl)]) (Ma := Ma) (t := 2) hn hL hb (by decide) hp s2.2.2.2 b 0 400 400 Fo M 0 (by omega) (by omega) (by omega) hF hl8 hc hi
    exact ⟨z, Ma, F', M', a1, a2, hend a3 a4 a5⟩
  · have v4 : vp_in (3 : Int32) 4 := vp_in_nI (n := 3) (by decide) (by decide)
    have cl : Int32.toNatClampNeg (3 : Int32) = 3 := nI_clamp (n := 3) (by decide)
    rw [if_neg (show ¬ (3 : Int32) = 0 by decide), if_neg (show ¬ (3 : Int32) = 1 by decide), if_neg (show ¬ (3 : Int32) = 2 by decide), if_pos (show (3 : Int32) = 3 from rfl), miss7 s3, b1s, cks _ v4, cl]
    by_cases c2 : 0 ≤ M 7 3
    rotate_left
    · exact ⟨-1000000006, fMa 5 Ma, Fo, fM 5 M, by rw [if_neg c2, if_neg (show ¬ (1 : Int32) = 0 by decide), fd7_5, b2s], by rw [if_neg c2, fd8_5, b2s], RR_f hR 5 (by decide)⟩
    obtain ⟨L, hL, hl⟩ := s3.2.1
    have hl8 : M 8 3 = nI L := s3.2.2.1.trans hl
    rw [if_pos c2, if_pos rfl, if_pos c2, isOne_e hn hF, isP_e hM, b1s, b1s]
    by_cases c3 : x2 < 0 ∨ nI n ≤ x2
    · exact ⟨-1000000001, fMa 0 Ma, Fo, fM 0 M, by rw [if_pos c3, if_pos rfl, fd7_0, b2s], by rw [if_pos c3, if_pos rfl, fd8_0, b2s], RR_f hR 0 (by decide)⟩
    obtain ⟨p, hp, rfl⟩ := in_n hn c3
    obtain ⟨b, hb, eb⟩ := hmin L hL
    rw [if_neg c3, i10, i10, lts, hF, hl, eb]
    obtain ⟨z, F', M', a1, a2, a3, a4, a5⟩ := lays_l (N := N) (V := N3) (W := fX7_lays_78 G0 N0 G1 N1 G2 N2 G3 N3) (x1 := 3) (fun f y2 y3 y4 y5 Ma Fo => by
      show fX7_lays_78_s G0 N0 G1 N1 G2 N2 G3 N3 (fX7_lays_78 G0 N0 G1 N1 G2 N2 G3 N3 f) _ _ _ _ _ _ _ = _
      unfold fX7_lays_78_s layB
      rw [if_neg (show ¬ (3 : Int32) = 0 by decide), if_neg (show ¬ (3 : Int32) = 1 by decide), if_neg (show ¬ (3 : Int32) = 2 by decide), if_pos (show (3 : Int32) = 3 from rfl)]) (Ma := Ma) (t := 3) hn hL hb (by decide) hp s3.2.2.2 b 0 400 400 Fo M 0 (by omega) (by omega) (by omega) hF hl8 hc hi
    exact ⟨z, Ma, F', M', a1, a2, hend a3 a4 a5⟩
