-- years, odds
theorem b5s {α γ δ ε ζ β : Type} (a : α) (b : γ) (c : δ) (d : ε) (e : ζ) (k : α → γ → δ → ε → ζ → Option β) : dc_b5 (some (a, b, c, d, e)) k = k a b c d e := rfl
theorem ys_l {Ma : ST} {n a N : Nat} (hN : N ≤ 50) : ∀ (r k f g : Nat) (y : Int32) (F C S Tr M : ST), k + r = N → r < f → r < g → ctx F C S M n a → lvl S M n → ∃ (z : Int32) (F' C' S' Tr' M' : ST), fX7_years_21 f (nI N) y (nI k) Ma F C S Tr = some (z, Ma, F', C', S', Tr') ∧ fX8_years_23 g (nI N) y (nI k) M = some (z, M') ∧ ctx F' C' S' M' n a ∧ frN2 C S M C' S' M' := by
  intro r
  induction r with
  | zero =>
    intro k f g y F C S Tr M hk hf hg h hl
    obtain ⟨f, rfl⟩ : ∃ f', f = f' + 1 := ⟨f - 1, by omega⟩
    obtain ⟨g, rfl⟩ : ∃ f', g = f' + 1 := ⟨g - 1, by omega⟩
    refine ⟨y, F, C, S, Tr, M, ?_, ?_, h, frN2_r C S M⟩
    · show fX7_years_21_s (fX7_years_21 f) _ _ _ _ _ _ _ _ = _
      unfold fX7_years_21_s
      rw [if_pos (nI_le (by omega) (by omega))]
    · show fX8_years_23_s (fX8_years_23 g) _ _ _ _ = _
      unfold fX8_years_23_s
      rw [if_pos (nI_le (by omega) (by omega))]
  | succ r ih =>
    intro k f g y F C S Tr M hk hf hg h hl
    obtain ⟨f, rfl⟩ : ∃ f', f = f' + 1 := ⟨f - 1, by omega⟩
    obtain ⟨g, rfl⟩ : ∃ f', g = f' + 1 := ⟨g - 1, by omega⟩
    have E : fX7_years_21 (f + 1) (nI N) y (nI k) Ma F C S Tr = fX7_years_21_s (fX7_years_21 f) (nI N) y (nI k) Ma F C S Tr := rfl
    have E8 : fX8_years_23 (g + 1) (nI N) y (nI k) M = fX8_years_23_s (fX8_years_23 g) (nI N) y (nI k) M := rfl
    obtain ⟨z, F1, C1, S1, T1, M1, e1, e2, e3, e4, e5⟩ := yr h hl Tr
    rw [E, E8]
    unfold fX7_years_21_s fX8_years_23_s
    rw [if_neg (nI_ge (a := k) (b := N) (by omega) (by omega)), if_neg (nI_ge (a := k) (b := N) (by omega) (by omega)), e1, e2, b5s, b2s]
    simp only [lts]
    rw [nI_1, Int32.add_zero]
    have go : ∀ y', ∃ (z : Int32) (F' C' S' Tr' M' : ST), fX7_years_21 f (nI N) y' (nI (k + 1)) Ma F1 C1 S1 T1 = some (z, Ma, F', C', S', Tr') ∧ fX8_years_23 g (nI N) y' (nI (k + 1)) M1 = some (z, M') ∧ ctx F' C' S' M' n a ∧ frN2 C S M C' S' M' := fun y' => by
      obtain ⟨z2, F2, C2, S2, T2, M2, q1, q2, q3, q4⟩ := ih (k + 1) f g y' F1 C1 S1 T1 M1 (by omega) (by omega) (by omega) e3 (lvl_fr hl e4)
      exact ⟨z2, F2, C2, S2, T2, M2, q1, q2, q3, frN2_t e4 q4⟩
    rcases e5 with q | q
    · rw [q, i00, i00]; exact go y
    · rw [q, i10, i10]; exact go _
theorem RR_ny {Ma Fo Sc Se Tr Ch Us Ta Dr G0 : ST} {N0 : LT} {G1 : ST} {N1 : LT} {G2 : ST} {N2 : LT} {G3 : ST} {N3 : LT} {Fo2 Sc2 Se2 Tr2 Fo3 Sc3 Se3 Tr3 M : ST} {N : LT} (hR : RR Ma Fo Sc Se Tr Ch Us Ta Dr G0 N0 G1 N1 G2 N2 G3 N3 Fo2 Sc2 Se2 Tr2 Fo3 Sc3 Se3 Tr3 M N) {F' C' S' Tr' M' : ST} {n a : Nat} (h : ctx F' C' S' M' n a) (f : frN2 Sc Se M C' S' M') : RR Ma F' C' S' Tr' Ch Us Ta Dr G0 N0 G1 N1 G2 N2 G3 N3 Fo2 Sc2 Se2 Tr2 Fo3 Sc3 Se3 Tr3 M' N := by
  obtain ⟨⟨hc, hi, k8, k9, hk⟩, h2, h3, h4, h5⟩ := hR
  have hM : ∀ b, b ≠ 1 → b ≠ 12 → b ≠ 26 → M' b = M b := f.2.1
  refine ⟨⟨(ctx_inv h).1, (ctx_inv h).2, f.2.2.2.1.trans k8, f.2.2.2.2.1.trans k9, ?_⟩, ?_, ?_, ?_, ?_⟩
  · rw [hM 0 (by decide) (by decide) (by decide)]; exact hk
  · rw [hM 0 (by decide) (by decide) (by decide), hM 2 (by decide) (by decide) (by decide)]; exact h2
  · rw [hM 4 (by decide) (by decide) (by decide)]; exact h3
  · rw [hM 0 (by decide) (by decide) (by decide), hM 5 (by decide) (by decide) (by decide)]; exact h4
  · rw [hM 7 (by decide) (by decide) (by decide), hM 8 (by decide) (by decide) (by decide)]; exact h5
theorem P_years_ok : P_years RR := by
  intro x1 Ma Fo Sc Se Tr Ch Us Ta Dr G0 N0 G1 N1 G2 N2 G3 N3 Fo2 Sc2 Se2 Tr2 Fo3 Sc3 Se3 Tr3 M N hR
  obtain ⟨n, a, h⟩ := ctx_of hR.1.1 hR.1.2.1
  unfold fX7_years fX8_years
  rw [within_e, isIn8_e x1 1 50 (by decide) (by decide), b1s, b1s]
  by_cases hx : x1 < 1 ∨ 50 < x1
  · rw [if_pos hx, i00, i00, fd7_0, fd8_0, b2s, b2s]
    exact ⟨_, _, _, _, _, _, _, rfl, rfl, RR_f hR 0 (by decide)⟩
  rw [if_neg hx, i10, i10]
  obtain ⟨m, m1, m2, rfl⟩ := in_1k 50 (by decide) hx
  obtain ⟨z, F', C', S', Tr', M', e1, e2, e3, e4⟩ := ys_l (Ma := Ma) m2 m 0 400 400 0 Fo Sc Se Tr M (by omega) (by omega) (by omega) h (RR_lvl hR hR.1.2.2.1 hR.1.2.2.2.1 rfl)
  exact ⟨_, _, _, _, _, _, _, e1, e2, RR_ny hR e3 e4⟩
theorem od_in {Fo Sc Se Ma : ST} {n a : Nat} (k42 : Int32 → Int32 → Int32 → Int32 → Int32 → ST → ST → ST → ST → ST → Option (Int32 × ST × ST × ST × ST × ST)) (k44 : Int32 → Int32 → Int32 → Int32 → Int32 → ST → Option (Int32 × ST)) (y1 y2 y3 y5 : Int32) : ∀ (r k f g : Nat) (y6 : Int32) (F C S T M : ST), k + r = 200 → r < f → r < g → ctx F C S M n a → lvl S M n → (y6 = 0 ∨ y6 = 1) → ∃ (y6' : Int32) (F' C' S' T' M' : ST), fX7_odds_77 Fo Sc Se k42 f y1 y2 y3 y5 y6 (nI k) Ma F C S T = fX7_odds_108 Fo Sc Se k42 y1 y2 y3 y5 y6' Ma F' C' S' T' ∧ fX8_odds_64 k44 g y1 y2 y3 y5 y6 (nI k) M = fX8_odds_89 k44 y1 y2 y3 y5 y6' M' ∧ ctx F' C' S' M' n a ∧ frN2 C S M C' S' M' ∧ (y6' = 0 ∨ y6' = 1) := by
  intro r
  induction r with
  | zero =>
    intro k f g y6 F C S T M hk hf hg h hl hy
    obtain ⟨f, rfl⟩ : ∃ f', f = f' + 1 := ⟨f - 1, by omega⟩
    obtain ⟨g, rfl⟩ : ∃ f', g = f' + 1 := ⟨g - 1, by omega⟩
    have h200 : (200 : Int32) ≤ nI k := nI_le (a := 200) (by omega) (by omega)
    refine ⟨y6, F, C, S, T, M, ?_, ?_, h, frN2_r C S M, hy⟩
    · show fX7_odds_77_s Fo Sc Se k42 (fX7_odds_77 Fo Sc Se k42 f) _ _ _ _ _ _ _ _ _ _ _ = _
      unfold fX7_odds_77_s
      rw [if_pos h200]
    · show fX8_odds_64_s k44 (fX8_odds_64 k44 g) _ _ _ _ _ _ _ = _
      unfold fX8_odds_64_s
      rw [if_pos h200]
  | succ r ih =>
    intro k f g y6 F C S T M hk hf hg h hl hy
    obtain ⟨f, rfl⟩ : ∃ f', f = f' + 1 := ⟨f - 1, by omega⟩
    obtain ⟨g, rfl⟩ : ∃ f', g = f' + 1 := ⟨g - 1, by omega⟩
    have h200 : ¬ (200 : Int32) ≤ nI k := nI_ge (b := 200) (by omega) (by decide)
    have E : fX7_odds_77 Fo Sc Se k42 (f + 1) y1 y2 y3 y5 y6 (nI k) Ma F C S T = fX7_odds_77_s Fo Sc Se k42 (fX7_odds_77 Fo Sc Se k42 f) y1 y2 y3 y5 y6 (nI k) Ma F C S T := rfl
    have E8 : fX8_odds_64 k44 (g + 1) y1 y2 y3 y5 y6 (nI k) M = fX8_odds_64_s k44 (fX8_odds_64 k44 g) y1 y2 y3 y5 y6 (nI k) M := rfl
    rw [E, E8]
    unfold fX7_odds_77_s fX8_odds_64_s
    rw [if_neg h200, if_neg h200]
    rcases hy with q | q
    · rw [q, i00, i00]
      obtain ⟨z, F1, C1, S1, T1, M1, e1, e2, e3, e4, e5⟩ := yr h hl T
      rw [e1, e2, b5s, b2s, lts, lts, nI_1]
      obtain ⟨z2, F2, C2, S2, T2, M2, q1, q2, q3, q4, q5⟩ := ih (k + 1) f g z F1 C1 S1 T1 M1 (by omega) (by omega) (by omega) e3 (lvl_fr hl e4) e5
      exact ⟨z2, F2, C2, S2, T2, M2, q1, q2, q3, frN2_t e4 q4, q5⟩
    · rw [q, i10, i10]
      exact ⟨1, F, C, S, T, M, rfl, rfl, h, frN2_r C S M, Or.inr rfl⟩
theorem od_out {Fo Sc Se Ma M : ST} {n a N p : Nat} {K : Nat → Int32} (h : ctx Fo Sc Se M n a) (w1 : M 0 9 = -1) (w2 : M 0 10 = -1) (fl : M 0 12 = 0) (hK : ∀ i, i < 74 → K i = M 1 i) (hN : N ≤ 40) : ∀ (r i f g : Nat) (t z : Int32) (F3 C3 S3 T3 Mi : ST), i + r = N → r < f → r < g → (∀ b, b ≠ 12 → b ≠ 14 → b ≠ 26 → Mi b = M b) → Mi 14 = K → ∃ (t' : Int32) (F' C' S' T' M' : ST), fX7_odds_42 Fo Sc Se f (nI p) (nI N) t z (nI i) Ma F3 C3 S3 T3 = some (t', Ma, F', C', S', T') ∧ fX8_odds_44 g (nI p) (nI N) t z (nI i) Mi = some (t', M') ∧ (∀ b, b ≠ 12 → b ≠ 14 → b ≠ 26 → M' b = M b) := by
  have h' := h
  obtain ⟨hn, hF, a1, a4, hA, hc, i1, i2, i3, i4⟩ := h'
  intro r
  induction r with
  | zero =>
    intro i f g t z F3 C3 S3 T3 Mi hi hf hg hM h14
    obtain ⟨f, rfl⟩ : ∃ f', f = f' + 1 := ⟨f - 1, by omega⟩
    obtain ⟨g, rfl⟩ : ∃ f', g = f' + 1 := ⟨g - 1, by omega⟩
    refine ⟨t, F3, C3, S3, T3, Mi, ?_, ?_, hM⟩
    · show fX7_odds_42_s Fo Sc Se (fX7_odds_42 Fo Sc Se f) _ _ _ _ _ _ _ _ _ _ = _
      unfold fX7_odds_42_s
      rw [if_pos (nI_le (by omega) (by omega))]
    · show fX8_odds_44_s (fX8_odds_44 g) _ _ _ _ _ _ = _
      unfold fX8_odds_44_s
      rw [if_pos (nI_le (by omega) (by omega))]
  | succ r ih =>
    intro i f g t z F3 C3 S3 T3 Mi hi hf hg hM h14
    obtain ⟨f, rfl⟩ : ∃ f', f = f' + 1 := ⟨f - 1, by omega⟩
    obtain ⟨g, rfl⟩ : ∃ f', g = f' + 1 := ⟨g - 1, by omega⟩
    have E : fX7_odds_42 Fo Sc Se (f + 1) (nI p) (nI N) t z (nI i) Ma F3 C3 S3 T3 = fX7_odds_42_s Fo Sc Se (fX7_odds_42 Fo Sc Se f) (nI p) (nI N) t z (nI i) Ma F3 C3 S3 T3 := rfl
    have E8 : fX8_odds_44 (g + 1) (nI p) (nI N) t z (nI i) Mi = fX8_odds_44_s (fX8_odds_44 g) (nI p) (nI N) t z (nI i) Mi := rfl
    obtain ⟨Fa, fa1, fa2⟩ := takeF F3 Fo
    obtain ⟨Ca, ca1, ca2, -⟩ := takeC C3 Sc
    obtain ⟨Sa, sa1, sa2, sa3, sa4⟩ := takeS S3 Se
    have m1 : Mi 1 = M 1 := hM 1 (by decide) (by decide) (by decide)
    have m0 : Mi 0 = M 0 := hM 0 (by decide) (by decide) (by decide)
    have hx : ctx (sti Fa 0 8 z) Ca Sa (sti Mi 1 3 z) n a := by
      obtain ⟨n', hn', hF', j1, j2, j3, j4⟩ := inv_ag fa2 ca2 sa2 (ctx_inv h).2
      have en : n' = n := nI_inj (by omega) (by omega) (hF'.symm.trans (fa2.1.trans hF))
      subst en
      refine ⟨hn, hF', a1, a4, (sa2.2.2.1 0 (by decide)).trans hA, ?_, j1, j2, j3, j4⟩
      rw [sti_s, m1]
      exact core_z (core_ag fa2 ca2 sa2 hc) z
    have hl : lvl Sa (sti Mi 1 3 z) n := by
      unfold lvl
      rw [sti_o (by decide), m0]
      exact ⟨fl, Or.inl ⟨sa3, sa4, w1, w2⟩⟩
    obtain ⟨y6, F1, C1, S1, T1, M1, e1, e2, e3, e4, e5⟩ := od_in (Fo := Fo) (Sc := Sc) (Se := Se) (Ma := Ma) (fX7_odds_42 Fo Sc Se f) (fX8_odds_44 g) (nI p) (nI N) t (nI i) 200 0 400 400 0 (sti Fa 0 8 z) Ca Sa T3 (sti Mi 1 3 z) (by omega) (by omega) (by omega) hx hl (Or.inl rfl)
    have e1' : fX7_odds_77 Fo Sc Se (fX7_odds_42 Fo Sc Se f) 400 (nI p) (nI N) t (nI i) 0 0 Ma (sti Fa 0 8 z) Ca Sa T3 = _ := e1
    have e2' : fX8_odds_64 (fX8_odds_44 g) 400 (nI p) (nI N) t (nI i) 0 0 (sti Mi 1 3 z) = _ := e2
    obtain ⟨Mz, z1, z2, z3, z4⟩ := lay_ok (M := M) (M' := M1) hK (by rw [e4.2.1 14 (by decide) (by decide) (by decide), sti_o (by decide)]; exact h14) (fun j hj => by rw [e4.2.2.1 j hj, sti_s, upd_n (by omega), m1])
    have zb : ∀ b, b ≠ 12 → b ≠ 14 → b ≠ 26 → Mz b = M b := fun b h1 h2 h3 => by
      by_cases q : b = 1
      · rw [q]; exact z2
      · rw [z4 b q, e4.2.1 b q h1 h3, sti_o q]; exact hM b h1 h2 h3
    have c1 := e3.2.2.2.2.2.1
    have tk : fX2_takeFrom F3 C3 S3 Fo Sc Se = some (Fa, Ca, Sa) := by
      unfold fX2_takeFrom
      rw [fa1, b1s, ca1, b1s, sa1, b1s]
    rw [E, E8]
    unfold fX7_odds_42_s fX8_odds_44_s
    rw [if_neg (nI_ge (a := i) (b := N) (by omega) (by omega)), if_neg (nI_ge (a := i) (b := N) (by omega) (by omega)), tk, b3s, lts, lts, e1', e2']
    unfold fX7_odds_108 fX8_odds_89 fX7_odds_130 fX8_odds_110
    simp only [lts, z1, b1s]
    rw [c1.1.2.1, c1.1.2.2.2, nI_1, Int32.add_zero]
    rcases e5 with q | q
    · rw [q, i00, i00]
      exact ih (i + 1) f g t (F1 0 8) F1 C1 S1 T1 Mz (by omega) (by omega) (by omega) zb z3
    · rw [q, i10, i10]
      by_cases w : S1 0 6 = nI p
      · rw [if_pos w, if_pos w]
        exact ih (i + 1) f g (t + 1) (F1 0 8) F1 C1 S1 T1 Mz (by omega) (by omega) (by omega) zb z3
      · rw [if_neg w, if_neg w]
        exact ih (i + 1) f g t (F1 0 8) F1 C1 S1 T1 Mz (by omega) (by omega) (by omega) zb z3
theorem P_odds_ok : P_odds RR := by
  intro x1 x2 Ma Fo Sc Se Tr Ch Us Ta Dr G0 N0 G1 N1 G2 N2 G3 N3 Fo2 Sc2 Se2 Tr2 Fo3 Sc3 Se3 Tr3 M N hR
  obtain ⟨n, a, h⟩ := ctx_of hR.1.1 hR.1.2.1
  have h' := h
  obtain ⟨hn, hF, a1, a4, hA, hc, hiF, hiR, hiL, hiC⟩ := h'
  unfold fX7_odds fX8_odds fX7_odds_18 fX8_odds_20
  rw [fd7_0, fd8_0, b2s, b2s, isOne_e hn hF, isP_e (hc.1.1.trans hF), b1s, b1s]
  by_cases hx : x1 < 0 ∨ nI n ≤ x1
  · rw [if_pos hx, i00, i00]
    exact ⟨_, _, _, _, _, _, _, rfl, rfl, RR_f hR 0 (by decide)⟩
  rw [if_neg hx, i10, i10, within_e, isIn8_e x2 1 40 (by decide) (by decide), b1s, b1s]
  by_cases hy : x2 < 1 ∨ 40 < x2
  · rw [if_pos hy, i00, i00]
    exact ⟨_, _, _, _, _, _, _, rfl, rfl, RR_f hR 0 (by decide)⟩
  rw [if_neg hy, i10, i10]
  obtain ⟨p, hp, rfl⟩ := in_n hn hx
  obtain ⟨m, m1, m2, rfl⟩ := in_1k 40 (by decide) hy
  obtain ⟨-, -, -, -, w1, w2, fl⟩ := hR.1
  obtain ⟨K, k1, k2⟩ := lay_by M
  obtain ⟨t', F', C', S', T', M', e1, e2, e3⟩ := od_out (Ma := Ma) (p := p) h w1 w2 fl k2 m2 m 0 400 400 0 (Fo 0 8) Fo3 Sc3 Se3 Tr3 (va_up M 14 K) (by omega) (by omega) (by omega) (fun b _ h2 _ => vup_o h2) vup_s
  rw [k1, b1s, lts, lts, show (va_up M 14 K) 1 3 = Fo 0 8 from hc.1.2.2.2]
  exact ⟨_, _, _, _, _, _, _, e1, e2, RR_st hR (fun _ _ => rfl) (fun b hb => e3 b (by omega) (by omega) (by omega))⟩
