-- next, TO COME (level o)
theorem sh8o (k4 : Int32 → Int32 → ST → Option (Int32 × ST)) (y1 y2 : Int32) (M : ST) : fX8_comes_42 k4 400 y1 y2 0 M = k4 y1 (y2 + 1) (shM M) := by
  have s0 : ∀ (j f : Nat) (M : ST), j < 3 → fX8_comes_42 k4 (f + 1) y1 y2 (nI j) M = fX8_comes_42 k4 f y1 y2 (nI (j + 1)) (sh1 j M) := fun j f M hj => by
    show fX8_comes_42_s k4 (fX8_comes_42 k4 f) _ _ _ _ = _
    unfold fX8_comes_42_s
    have e : 10 + nI j = nI (10 + j) := by rw [show (10 : Int32) = nI 10 from rfl, nI_add]
    rw [nI_1, if_neg (show ¬ (4 : Int32) ≤ nI (j + 1) from nI_ge (b := 4) (by omega) (by decide)), e, nI_1, cks _ (vp_in_nI (by omega) (by decide)), cks _ (vp_in_nI (by omega) (by decide)), nI_clamp (by omega), nI_clamp (by omega), lts, lts]
    rfl
  have s3 : ∀ (f : Nat) (M : ST), fX8_comes_42 k4 (f + 1) y1 y2 (nI 3) M = k4 y1 (y2 + 1) (sti M 1 13 (-1)) := fun f M => by
    show fX8_comes_42_s k4 (fX8_comes_42 k4 f) _ _ _ _ = _
    unfold fX8_comes_42_s
    rw [if_pos (by decide), lts, lts]
  exact (s0 0 399 M (by decide)).trans ((s0 1 398 _ (by decide)).trans ((s0 2 397 _ (by decide)).trans (s3 396 _)))
theorem paso {F C S M : ST} (Tr : ST) {n a P : Nat} (hn : n ≤ 10) (hF : F 0 0 = nI n) (a1 : 1 ≤ a) (a4 : a ≤ 4) (hA : S 4 0 = nI a) (hP : (S 4 4 = 0 ∧ P = a) ∨ (¬ S 4 4 = 0 ∧ P = 1)) (lk : Int32) : ∀ (r k f g : Nat) (Sk Mk : ST), k + r = P → r < f → r < g → psI F C S M Sk Mk → ((1 ≤ k ∧ Sk 5 (a - 1) = -1) ∨ (k = 0 ∧ Sk 0 6 = -1)) → ∃ S' M', fX4_next_32 F f lk (nI P) (nI k) Sk C Tr = fX4_next_59 F lk S' C Tr ∧ fX8_comes_4 g (Sk 0 6) (nI k) Mk = fX8_comes_89 (S' 0 6) M' ∧ psI F C S M S' M' ∧ S' 5 (a - 1) = -1 := by
  have hPa : P ≤ a := by rcases hP with ⟨_, h⟩ | ⟨_, h⟩ <;> omega
  have hP1 : 1 ≤ P := by rcases hP with ⟨_, h⟩ | ⟨_, h⟩ <;> omega
  intro r
  induction r with
  | zero =>
    intro k f g Sk Mk hk hf hg hI hs
    obtain ⟨f, rfl⟩ : ∃ f', f = f' + 1 := ⟨f - 1, by omega⟩
    obtain ⟨g, rfl⟩ : ∃ f', g = f' + 1 := ⟨g - 1, by omega⟩
    have ek : k = P := by omega
    subst ek
    have hc := hI.1
    have e4 : Mk 1 4 = Sk 4 0 := hc.2.1 0 (by decide)
    have e8 : Mk 1 8 = Sk 4 4 := hc.2.1 4 (by decide)
    refine ⟨Sk, Mk, ?_, ?_, hI, ?_⟩
    · show fX4_next_32_s F (fX4_next_32 F f) _ _ _ _ _ _ = _
      unfold fX4_next_32_s
      rw [if_pos (nI_le (by omega) (by omega))]
    · show fX8_comes_4_s (fX8_comes_4 g) _ _ _ = _
      unfold fX8_comes_4_s
      rw [e4, e8, hI.2.2.1, hA]
      by_cases q : a ≤ k
      · rw [if_pos (nI_le q (by omega))]
      · rw [if_neg (nI_ge (by omega) (by omega))]
        rcases hP with ⟨_, h⟩ | ⟨h0, h⟩
        · omega
        · by_cases q2 : 0 ≤ Sk 0 6
          · rw [if_pos q2]
          · rw [if_neg q2, if_neg (nI_ne0 (by omega) (by omega)), if_neg h0]
    · rcases hs with h | h
      · exact h.2
      · omega
  | succ r ih =>
    intro k f g Sk Mk hk hf hg hI hs
    obtain ⟨f, rfl⟩ : ∃ f', f = f' + 1 := ⟨f - 1, by omega⟩
    obtain ⟨g, rfl⟩ : ∃ f', g = f' + 1 := ⟨g - 1, by omega⟩
    have hc := hI.1
    have hAk : Sk 4 0 = nI a := by rw [hI.2.2.1]; exact hA
    have e4 : Mk 1 4 = nI a := (show Mk 1 4 = Sk 4 0 from hc.2.1 0 (by decide)).trans hAk
    have e8 : Mk 1 8 = S 4 4 := (show Mk 1 8 = Sk 4 4 from hc.2.1 4 (by decide)).trans (by rw [hI.2.2.1])
    have e10 : Mk 1 10 = Sk 5 0 := hc.2.2.1 0 (by decide)
    have E : fX4_next_32 F (f + 1) lk (nI P) (nI k) Sk C Tr = fX4_next_32_s F (fX4_next_32 F f) lk (nI P) (nI k) Sk C Tr := rfl
    have E8 : fX8_comes_4 (g + 1) (Sk 0 6) (nI k) Mk = fX8_comes_4_s (fX8_comes_4 g) (Sk 0 6) (nI k) Mk := rfl
    rw [E, E8]
    unfold fX4_next_32_s fX8_comes_4_s
    rw [if_neg (nI_ge (a := k) (b := P) (by omega) (by omega)), e4, e8, if_neg (nI_ge (a := k) (b := a) (by omega) (by omega))]
    obtain ⟨n', hn', hF', i1, i2, i3, i4⟩ := hI.2.1
    by_cases q : Sk 0 6 = -1
    · obtain ⟨S1, m1, m2, m3⟩ := mvU a1 a4 hAk i3
      have e32 : fX8_comes_32 (fX8_comes_4 g) (nI k) Mk = fX8_comes_4 g (Sk 5 0) (nI (k + 1)) (shM Mk) := by
        unfold fX8_comes_32
        rw [lts, sh8o, nI_1, e10]
      have e06 : (sti S1 0 6 (Sk 5 0)) 0 6 = Sk 5 0 := by rw [sti_s, upd_s]
      obtain ⟨S', M', r1, r2, r3, r4⟩ := ih (k + 1) f g (sti S1 0 6 (Sk 5 0)) (shM Mk) (by omega) (by omega) (by omega) (psI_sh a4 hAk hI m2 m3) (Or.inl ⟨by omega, by
        rw [sti_o (by decide), m3 (a - 1) (by omega)]
        by_cases z : a - 1 < 3
        · rw [if_pos z, show a - 1 + 1 = a by omega]
          exact i3.2.1 a (by omega) (by rw [hAk]; exact nI_le (by omega) (by omega))
        · rw [if_neg z]⟩)
      rw [e06] at r2
      refine ⟨S', M', ?_, ?_, r3, r4⟩
      · rw [if_pos q, m1, b2s, lts, lts, nI_1]; exact r1
      · rw [if_neg (show ¬ 0 ≤ Sk 0 6 by rw [q]; exact m1_nle), e32]
        rw [r2]
        by_cases k0 : nI k = 0
        · rw [if_pos k0]
        · rw [if_neg k0]
          rcases hP with ⟨h0, h⟩ | ⟨h0, h⟩
          · rw [if_pos h0]
          · exfalso
            apply k0
            rw [show k = 0 by omega]; rfl
    · rcases i3.2.2.2.1 with z | ⟨s, hs2, _, z⟩
      · exact absurd z q
      · rw [if_neg q, if_pos (show 0 ≤ Sk 0 6 by rw [z]; exact nI_pos' (by omega))]
        refine ⟨Sk, Mk, rfl, rfl, hI, ?_⟩
        rcases hs with h | h
        · exact h.2
        · exact absurd h.2 q
theorem nm_lo {F C S M : ST} {n a s : Nat} (hs : s < n) : ∀ (r k f g : Nat) (Sk Ck Tr Mk : ST), k + r = a → r < f → r < g → ctx F Ck Sk Mk n a → lvl Sk Mk n → Sk 0 6 = nI s → (Sk 4 4 = 1 ∨ ∀ j, k ≤ j → j < a → Sk 5 j = -1) → frN2 C S M Ck Sk Mk → ∃ (C' S' Tr' M' : ST), fX4_next_108 F f 1 (nI (a - 1)) (nI k) Sk Ck Tr = some (nI s, S', C', Tr') ∧ fX8_comes_149 g (nI s) (nI k) Mk = some (nI s, M') ∧ ctx F C' S' M' n a ∧ frN2 C S M C' S' M' ∧ S' 0 6 = nI s := by
  intro r
  induction r with
  | zero =>
    intro k f g Sk Ck Tr Mk hk hf hg hx hl h6 hgp hfr
    obtain ⟨f, rfl⟩ : ∃ f', f = f' + 1 := ⟨f - 1, by omega⟩
    obtain ⟨g, rfl⟩ : ∃ f', g = f' + 1 := ⟨g - 1, by omega⟩
    have h' := hx
    obtain ⟨hn, hF, a1, a4, hA, hc, -⟩ := h'
    refine ⟨Ck, Sk, Tr, Mk, ?_, ?_, hx, hfr, h6⟩
    · show fX4_next_108_s F (fX4_next_108 F f) _ _ _ _ _ _ = _
      unfold fX4_next_108_s
      rw [if_pos (nI_lt (by omega) (by omega)), h6]
    · show fX8_comes_149_s (fX8_comes_149 g) _ _ _ = _
      unfold fX8_comes_149_s
      rw [show Mk 1 4 = nI a from (hc.2.1 0 (by decide)).trans hA, if_pos (nI_le (by omega) (by omega))]
  | succ r ih =>
    intro k f g Sk Ck Tr Mk hk hf hg hx hl h6 hgp hfr
    obtain ⟨f, rfl⟩ : ∃ f', f = f' + 1 := ⟨f - 1, by omega⟩
    obtain ⟨g, rfl⟩ : ∃ f', g = f' + 1 := ⟨g - 1, by omega⟩
    have h' := hx
    obtain ⟨hn, hF, a1, a4, hA, hc, i1, i2, i3, i4⟩ := h'
    have E : fX4_next_108 F (f + 1) 1 (nI (a - 1)) (nI k) Sk Ck Tr = fX4_next_108_s F (fX4_next_108 F f) 1 (nI (a - 1)) (nI k) Sk Ck Tr := rfl
    have E8 : fX8_comes_149 (g + 1) (nI s) (nI k) Mk = fX8_comes_149_s (fX8_comes_149 g) (nI s) (nI k) Mk := rfl
    have e10 : 10 + nI k = nI (10 + k) := by rw [show (10 : Int32) = nI 10 from rfl, nI_add]
    rw [E, E8]
    unfold fX4_next_108_s fX8_comes_149_s
    rw [if_neg (nI_nlt (a := a - 1) (b := k) (by omega) (by omega)), cks _ (vp_in_nI (show k < 4 by omega) (by decide)), nI_clamp (show k < 2 ^ 31 by omega), h6, show Mk 1 4 = nI a from (hc.2.1 0 (by decide)).trans hA, if_neg (nI_ge (a := k) (b := a) (by omega) (by omega)), e10, nI_clamp (show 10 + k < 2 ^ 31 by omega), hc.2.2.1 k (by omega), show Mk 1 8 = Sk 4 4 from hc.2.1 4 (by decide)]
    simp only [cks _ (vp_in_nI (show 10 + k < 271 by omega) (by decide)), lts]
    by_cases q : Sk 5 k = -1
    · obtain ⟨z, C1, Tr1, M1, z1, z2, z3, z4⟩ := choo hx hs hl Tr
      have e202 : fX8_comes_202 (fX8_comes_149 g) (nI s) (nI k) (nI (10 + k)) Mk = fX8_comes_149 g (nI s) (nI (k + 1)) (sti M1 1 (10 + k) z) := by
        unfold fX8_comes_202
        rw [z2, b2s, cks _ (vp_in_nI (show 10 + k < 271 by omega) (by decide)), nI_clamp (by omega), lts, lts, nI_1]
      have hx1 : ctx F C1 Sk M1 n a := ctx_fr hx z3.1 (fr2_1 z3)
      obtain ⟨C', S', Tr', M', r1, r2, r3⟩ := ih (k + 1) f g (sti Sk 5 k z) C1 Tr1 (sti M1 1 (10 + k) z) (by omega) (by omega) (by omega) (ctx_set hx1 (by omega) z4) (by unfold lvl; rw [sti_o (by decide), sti_o (by decide), fr2_0 z3]; exact hl) h6 (by
        rcases hgp with hgp | hgp
        · exact Or.inl hgp
        · refine Or.inr (fun j h1 h2 => ?_)
          rw [sti_s, upd_n (by omega)]; exact hgp j (by omega) h2) (frN2_g (by omega) hfr z3)
      refine ⟨C', S', Tr', M', ?_, ?_, r3⟩
      · rw [if_pos q, z1, b3s, cks _ (vp_in_nI (show k < 4 by omega) (by decide)), nI_1]; exact r1
      · rw [q, if_pos m1_lt, e202, r2]
        by_cases g1 : Sk 4 4 = 1
        · rw [if_pos g1]
        · rw [if_neg g1]
    · rcases i3.1 k (by omega) with z | ⟨t, ht, _, z⟩
      · exact absurd z q
      · have g1 : Sk 4 4 = 1 := by
          rcases hgp with hgp | hgp
          · exact hgp
          · exact absurd (hgp k (by omega) (by omega)) q
        obtain ⟨C', S', Tr', M', r1, r2, r3⟩ := ih (k + 1) f g Sk Ck Tr Mk (by omega) (by omega) (by omega) hx hl h6 (Or.inl g1) hfr
        refine ⟨C', S', Tr', M', ?_, ?_, r3⟩
        · rw [if_neg q, nI_1]; exact r1
        · rw [if_pos g1, if_neg (show ¬ Sk 5 k < 0 by rw [z]; exact nI_pos (by omega)), sti_same (hc.2.2.1 k (by omega)), nI_1]; exact r2
theorem n59o {F C S M S1 M1 : ST} (Tr : ST) {n a : Nat} (hn : n ≤ 10) (hF : F 0 0 = nI n) (a1 : 1 ≤ a) (a4 : a ≤ 4) (hA : S 4 0 = nI a) (hI : psI F C S M S1 M1) (hla : S1 5 (a - 1) = -1) (hl : lvl S M n) : ∃ (r : Int32) (C' S' Tr' M' : ST), fX4_next_59 F 1 S1 C Tr = some (r, S', C', Tr') ∧ fX8_comes_89 (S1 0 6) M1 = some (r, M') ∧ ctx F C' S' M' n a ∧ frN2 C S M C' S' M' ∧ (r = -1 ∨ ∃ s, s < n ∧ r = nI s) ∧ S' 0 6 = r := by
  obtain ⟨hc, ⟨n', hn', hF', i1, i2, i3, i4⟩, h4, h8, h9, hM, hM1⟩ := hI
  have en : n' = n := nI_inj (by omega) (by omega) (hF'.symm.trans hF)
  subst en
  have hA1 : S1 4 0 = nI a := by rw [h4]; exact hA
  have em : (sti (sti M1 1 1 (S1 0 6)) 1 2 0) 1 = upd (upd (M1 1) 1 (S1 0 6)) 2 0 := by rw [sti_s, sti_s]
  have hx0 : ctx F C S1 (sti (sti M1 1 1 (S1 0 6)) 1 2 0) n' a := ⟨hn, hF, a1, a4, hA1, by rw [em]; exact hc, i1, i2, i3, i4⟩
  have f0 : frN2 C S M C S1 (sti (sti M1 1 1 (S1 0 6)) 1 2 0) := ⟨fun _ _ => rfl, fun b hb hb1 hb2 => by rw [sti_o hb, sti_o hb]; exact hM b hb, fun i hi => by rw [em, upd_n (by omega), upd_n (by omega)]; exact hM1 i (by omega), h8, h9, h4⟩
  unfold fX4_next_59 fX8_comes_89
  simp only [lts]
  rcases i3.2.2.2.1 with z | ⟨s, hs, _, z⟩
  · rw [if_pos z, if_pos (show S1 0 6 < 0 by rw [z]; exact m1_lt)]
    exact ⟨-1, C, S1, Tr, _, rfl, by rw [z], hx0, f0, Or.inl rfl, z⟩
  · rw [if_neg (show ¬ S1 0 6 = -1 by rw [z]; exact nI_m1 (by omega)), if_neg (show ¬ S1 0 6 < 0 by rw [z]; exact nI_pos (by omega))]
    have ei : (14 + 6 * nI s) + 4 = nI (14 + 6 * s + 4) := by rw [show (6 : Int32) = nI 6 from rfl, show (14 : Int32) = nI 14 from rfl, show (4 : Int32) = nI 4 from rfl, pk_mul, nI_add, nI_add]
    obtain ⟨M3, eM3⟩ : ∃ M3, M3 = sti (sti M1 1 1 (S1 0 6)) 1 2 0 := ⟨_, rfl⟩
    rw [← eM3] at hx0 f0 ⊢
    have hc3 := hx0.2.2.2.2.2.1
    have er : M3 1 (14 + 6 * s + 4) = S1 6 s := (hc3.2.2.2.1 s (by omega)).2.2.2.2.1
    obtain ⟨S2, eS2⟩ : ∃ S2, S2 = sti S1 6 s (S1 6 s + 1) := ⟨_, rfl⟩
    obtain ⟨M4, eM4⟩ : ∃ M4, M4 = sti M3 1 (14 + 6 * s + 4) (S1 6 s + 1) := ⟨_, rfl⟩
    have s24 : S2 4 = S1 4 := by rw [eS2]; exact sti_o (by decide)
    have s20 : S2 0 = S1 0 := by rw [eS2]; exact sti_o (by decide)
    have s25 : S2 5 = S1 5 := by rw [eS2]; exact sti_o (by decide)
    have hx2 : ctx F C S2 M4 n' a := by
      refine ⟨hn, hF, a1, a4, by rw [s24]; exact hA1, ?_, i1, iR_c i2 s24, ?_, i4⟩
      · rw [eS2, eM4, sti_s]
        exact core_ruled hc3 (by omega) _
      · obtain ⟨l1, l2, l3, l4, l5⟩ := i3
        refine ⟨by rw [s25]; exact l1, by rw [s24, s25]; exact l2, by rw [s25]; exact l3, by rw [s20]; exact l4, fun p hp hp2 => ?_⟩
        rw [eS2, sti_s, upd_n (by omega)]; exact l5 p hp hp2
    have f2 : frN2 C S M C S2 M4 := by
      obtain ⟨g1, g2, g3, g4, g5, g6⟩ := f0
      refine ⟨g1, fun b hb hb1 hb2 => by rw [eM4, sti_o hb]; exact g2 b hb hb1 hb2, fun i hi => ?_, by rw [s20]; exact g4, by rw [s20]; exact g5, by rw [s24]; exact g6⟩
      rw [eM4, sti_s, upd_n (by omega)]; exact g3 i hi
    rw [z, ei, cks _ (vp_in_nI (show s < 10 by omega) (by decide)), cks _ (vp_in_nI (show s < 10 by omega) (by decide)), nI_clamp (show s < 2 ^ 31 by omega), cks _ (vp_in_nI (show 14 + 6 * s + 4 < 271 by omega) (by decide)), cks _ (vp_in_nI (show 14 + 6 * s + 4 < 271 by omega) (by decide)), nI_clamp (show 14 + 6 * s + 4 < 2 ^ 31 by omega), er, ← eS2, ← eM4]
    have hc4 := hx2.2.2.2.2.2.1
    have l2 : lvl S2 M4 n' := by
      unfold lvl
      rw [s20, h8, h9, f2.2.1 0 (by decide) (by decide) (by decide)]; exact hl
    have ea : nI a - 1 = nI (a - 1) := pk_sub (a := a) (b := 1) a1
    rw [show M4 1 8 = S2 4 4 from hc4.2.1 4 (by decide), show M4 1 4 = S2 4 0 from hc4.2.1 0 (by decide), s24, hA1, ea]
    have z2 : S2 0 6 = nI s := by rw [s20]; exact z
    by_cases g1 : S1 4 4 = 1
    · rw [if_pos g1, if_pos g1]
      obtain ⟨C', S', Tr', M', r1, r2, r3, r4, r5⟩ := nm_lo (C := C) (S := S) (M := M) hs a 0 400 400 S2 C Tr M4 (by omega) (by omega) (by omega) hx2 l2 z2 (Or.inl (by rw [s24]; exact g1)) f2
      exact ⟨nI s, C', S', Tr', M', r1, r2, r3, r4, Or.inr ⟨s, hs, rfl⟩, r5⟩
    · rw [if_neg g1, if_neg g1]
      obtain ⟨C', S', Tr', M', r1, r2, r3, r4, r5⟩ := nm_lo (C := C) (S := S) (M := M) hs 1 (a - 1) 400 400 S2 C Tr M4 (by omega) (by omega) (by omega) hx2 l2 z2 (Or.inr (fun j h1 h2 => by rw [s25, show j = a - 1 by omega]; exact hla)) f2
      exact ⟨nI s, C', S', Tr', M', r1, r2, r3, r4, Or.inr ⟨s, hs, rfl⟩, r5⟩
theorem nxto {F C S M : ST} {n a : Nat} (h : ctx F C S M n a) (hl : lvl S M n) (Tr : ST) : ∃ (r : Int32) (C' S' Tr' M' : ST), fX4_next 1 S F C Tr = some (r, S', C', Tr') ∧ fX8_comes M = some (r, M') ∧ ctx F C' S' M' n a ∧ frN2 C S M C' S' M' ∧ (r = -1 ∨ ∃ s, s < n ∧ r = nI s) ∧ S' 0 6 = r := by
  have h' := h
  obtain ⟨hn, hF, a1, a4, hA, hc, i1, i2, i3, i4⟩ := h'
  obtain ⟨S2, eS2⟩ : ∃ S2, S2 = sti (sti S 0 6 (-1)) 0 7 0 := ⟨_, rfl⟩
  have e06 : S2 0 6 = -1 := by rw [eS2]; rfl
  have e4 : S2 4 = S 4 := by rw [eS2]; rfl
  have hI : psI F C S M S2 M := by
    refine ⟨?_, ⟨n, hn, hF, i1, iR_c i2 e4, iL_c i3 e4 (by rw [eS2]; rfl) (by rw [eS2]; rfl) (Or.inl e06), i4⟩, e4, by rw [eS2]; rfl, by rw [eS2]; rfl, fun _ _ => rfl, fun _ _ => rfl⟩
    rw [e06, eS2]
    exact core_reign (core_sits hc (-1)) 0
  obtain ⟨P, hP, hP2⟩ : ∃ P, ((S 4 4 = 0 ∧ P = a) ∨ (¬ S 4 4 = 0 ∧ P = 1)) ∧ fX4_next 1 S F C Tr = fX4_next_32 F 400 1 (nI P) (nI 0) S2 C Tr := by
    unfold fX4_next
    rw [lts, lts, ← eS2, e4, hA, lts]
    by_cases g : S 4 4 = 0
    · rw [if_pos g]; exact ⟨a, Or.inl ⟨g, rfl⟩, rfl⟩
    · rw [if_neg g]; exact ⟨1, Or.inr ⟨g, rfl⟩, rfl⟩
  obtain ⟨S', M', r1, r2, r3, r4⟩ := paso (C := C) (M := M) Tr hn hF a1 a4 hA hP 1 P 0 400 400 S2 M (by omega) (by rcases hP with ⟨_, h⟩ | ⟨_, h⟩ <;> omega) (by rcases hP with ⟨_, h⟩ | ⟨_, h⟩ <;> omega) hI (Or.inr ⟨rfl, e06⟩)
  rw [e06] at r2
  have r2' : fX8_comes M = fX8_comes_89 (S' 0 6) M' := r2
  rw [hP2, r1, r2']
  exact n59o Tr hn hF a1 a4 hA r3 r4 hl
