-- whom one WOULD name (level o)
def VHo (F C S M : ST) (n a p : Nat) (w y lk w' : Int32) : Prop := ∀ q, q < n → mayB F S a p q = true → ∀ (Ck Tr Mk : ST), fr2 C M Ck Mk → ∃ (v : Int32) (C' Tr' M' : ST), fX4_measure w y (nI q) lk S F Ck Tr = some (v, C', Tr') ∧ fX8_valueBy (nI p) (nI q) w' Mk = some (v, M') ∧ fr2 C M C' M'
theorem best8o {F C S M : ST} {n a p k f : Nat} (h : ctx F C S M n a) (hp : p < n) (hk : k < n) (w' y3 y4 : Int32) : fX8_bestBy_8 (f + 1) (nI p) w' y3 y4 (nI k) M = fX8_bestBy_55 (fX8_bestBy_8 f) (nI p) w' y3 y4 (nI k) (if (mayB F S a p k && selB F w' p k) = true then 1 else 0) M := by
  have h' := h
  obtain ⟨hn, hF, a1, a4, hA, hc, -⟩ := h'
  show fX8_bestBy_8_s (fX8_bestBy_8 f) _ _ _ _ _ _ = _
  unfold fX8_bestBy_8_s
  rw [hc.1.1, hF, if_neg (nI_ge hk (by omega)), may8 h (by omega) (by omega), b1s, has0_2 (p := k) (by omega), b1s, has0_2 (p := p) (by omega), b1s, (hc.2.2.2.1 k (by omega)).2.2.1, (hc.2.2.2.1 p (by omega)).2.2.1]
  cases hm : mayB F S a p k
  · rw [Bool.false_and, if10f, i00]
  · rw [Bool.true_and, if10t, i10]
    unfold selB
    by_cases e4 : w' = 4
    · rw [if_pos e4, decide_eq_true e4]
      by_cases es : F 4 k = F 4 p
      · rw [if_pos es, decide_eq_true es]; rfl
      · rw [if_neg es, decide_eq_false es]; rfl
    · rw [if_neg e4, decide_eq_false e4]; rfl
theorem cho_lo {F C S M : ST} {n a p : Nat} (h : ctx F C S M n a) (hp : p < n) {w y lk w' G : Int32} (hV : VHo F C S M n a p w y lk w') (hG : ∀ q, q < n → bt G q = (mayB F S a p q && selB F w' p q)) : ∀ (r k f g : Nat) (b m : Int32) (Ck Tr Mk : ST), k + r = n → r < f → r < g → fr2 C M Ck Mk → (b = -1 ∨ ∃ j, j < n ∧ bt G j = true ∧ b = nI j) → ∃ (z : Int32) (C' Tr' M' : ST), fX4_choice_128 S F f lk G w y b m (nI k) Ck Tr = some (z, C', Tr') ∧ fX8_bestBy_8 g (nI p) w' b m (nI k) Mk = some (z, M') ∧ fr2 C M C' M' ∧ (z = -1 ∨ ∃ j, j < n ∧ bt G j = true ∧ z = nI j) ∧ (z = -1 → b = -1 ∧ ∀ q, k ≤ q → q < n → bt G q = false) := by
  have h' := h
  obtain ⟨hn, hF, a1, a4, hA, hc, -⟩ := h'
  intro r
  induction r with
  | zero =>
    intro k f g b m Ck Tr Mk hk hf hg hfr hb
    obtain ⟨f, rfl⟩ : ∃ f', f = f' + 1 := ⟨f - 1, by omega⟩
    obtain ⟨g, rfl⟩ : ∃ f', g = f' + 1 := ⟨g - 1, by omega⟩
    refine ⟨b, Ck, Tr, Mk, ?_, ?_, hfr, hb, fun z => ⟨z, fun q q1 q2 => by omega⟩⟩
    · show fX4_choice_128_s S F (fX4_choice_128 S F f) _ _ _ _ _ _ _ _ _ = _
      unfold fX4_choice_128_s
      rw [hF, if_pos (nI_le (by omega) (by omega))]
    · show fX8_bestBy_8_s (fX8_bestBy_8 g) _ _ _ _ _ _ = _
      unfold fX8_bestBy_8_s
      rw [fr2_1 hfr, hc.1.1, hF, if_pos (nI_le (by omega) (by omega))]
  | succ r ih =>
    intro k f g b m Ck Tr Mk hk hf hg hfr hb
    obtain ⟨f, rfl⟩ : ∃ f', f = f' + 1 := ⟨f - 1, by omega⟩
    obtain ⟨g, rfl⟩ : ∃ f', g = f' + 1 := ⟨g - 1, by omega⟩
    have hkn : k < n := by omega
    have hx : ctx F Ck S Mk n a := ctx_fr h hfr.1 (fr2_1 hfr)
    have E : fX4_choice_128 S F (f + 1) lk G w y b m (nI k) Ck Tr = fX4_choice_128_s S F (fX4_choice_128 S F f) lk G w y b m (nI k) Ck Tr := rfl
    rw [best8o hx hp hkn, ← hG k hkn, E]
    unfold fX4_choice_128_s fX8_bestBy_55
    rw [hF, if_neg (nI_ge (by omega) (by omega)), isIn7_e G (by omega), b1s]
    cases hbk : bt G k
    · rw [if10f, i00, i00, lts, lts, nI_1]
      obtain ⟨z, C', Tr', M', z1, z2, z3, z4, z5⟩ := ih (k + 1) f g b m Ck Tr Mk (by omega) (by omega) (by omega) hfr hb
      refine ⟨z, C', Tr', M', z1, z2, z3, z4, fun e => ⟨(z5 e).1, fun q q1 q2 => ?_⟩⟩
      by_cases e2 : q = k
      · rw [e2]; exact hbk
      · exact (z5 e).2 q (by omega) q2
    · have hm : mayB F S a p k = true := by
        have := (hG k hkn).symm.trans hbk
        rw [Bool.and_eq_true] at this
        exact this.1
      obtain ⟨v, C1, Tr1, M1, e1, e2, e3⟩ := hV k hkn hm Ck Tr Mk hfr
      rw [if10t, i10, i10, e1, e2, b3s, b2s]
      have up : ∃ (z : Int32) (C' Tr' M' : ST), fX4_choice_128 S F f lk G w y (nI k) v (nI (k + 1)) C1 Tr1 = some (z, C', Tr') ∧ fX8_bestBy_8 g (nI p) w' (nI k) v (nI (k + 1)) M1 = some (z, M') ∧ fr2 C M C' M' ∧ (z = -1 ∨ ∃ j, j < n ∧ bt G j = true ∧ z = nI j) ∧ (z = -1 → b = -1 ∧ ∀ q, k ≤ q → q < n → bt G q = false) := by
        obtain ⟨z, C', Tr', M', z1, z2, z3, z4, z5⟩ := ih (k + 1) f g (nI k) v C1 Tr1 M1 (by omega) (by omega) (by omega) e3 (Or.inr ⟨k, hkn, hbk, rfl⟩)
        exact ⟨z, C', Tr', M', z1, z2, z3, z4, fun e => absurd (z5 e).1 (nI_m1 (by omega))⟩
      simp only [lts]
      rw [nI_1]
      rcases hb with eb | ⟨j, hj, hbj, eb⟩
      · rw [if_pos eb, if_pos (show b < 0 by rw [eb]; exact m1_lt)]
        exact up
      · rw [if_neg (show ¬ b = -1 by rw [eb]; exact nI_m1 (by omega)), if_neg (show ¬ b < 0 by rw [eb]; exact nI_pos (by omega))]
        by_cases hv : v ≤ m
        · rw [if_pos hv, if_pos hv]
          obtain ⟨z, C', Tr', M', z1, z2, z3, z4, z5⟩ := ih (k + 1) f g b m C1 Tr1 M1 (by omega) (by omega) (by omega) e3 (Or.inr ⟨j, hj, hbj, eb⟩)
          exact ⟨z, C', Tr', M', z1, z2, z3, z4, fun e => absurd (eb.symm.trans (z5 e).1) (nI_m1 (by omega))⟩
        · rw [if_neg hv, if_neg hv]
          exact up
theorem vh_liko {F C S M : ST} {n a p : Nat} (h : ctx F C S M n a) (hp : p < n) {w w' : Int32} (hw : w = 0 ∨ w = 4) (hw' : w' = 0 ∨ w' = 4) : VHo F C S M n a p w (nI p) 1 w' := by
  intro q hq _ Ck Tr Mk hfr
  have hc := h.2.2.2.2.2.1
  have hn := h.1
  refine ⟨F 7 (10 * p + q), Ck, Tr, Mk, ?_, ?_, hfr⟩
  · have e82 : fX4_measure_82 S F (nI p) (nI q) Ck Tr = some (F 7 (10 * p + q), Ck, Tr) := by
      unfold fX4_measure_82
      rw [j10, cks _ (vp_in_nI (by omega) (by decide)), nI_clamp (by omega)]
    unfold fX4_measure
    rcases hw with z | z
    · rw [z, if_neg (by decide), if_neg (by decide), if_neg (by decide), if_neg (by decide), if_neg (by decide), e82]
    · rw [z, if_neg (by decide), if_neg (by decide), if_pos rfl, e82]
  · have e82 : fX8_valueBy_82 (nI p) (nI q) Mk = some (F 7 (10 * p + q), Mk) := by
      unfold fX8_valueBy_82
      rw [lik8 (by omega) (by omega), b1s, fr2_1 hfr, hc.2.2.2.2.1 _ (by omega)]
    unfold fX8_valueBy
    rcases hw' with z | z
    · rw [z, if_neg (by decide), if_neg (by decide), if_neg (by decide), if_neg (by decide), if_neg (by decide), if_neg (by decide), e82]
    · rw [z, if_neg (by decide), if_neg (by decide), if_neg (by decide), if_pos rfl, e82]
theorem vh_frio {F C S M : ST} {n a p f : Nat} (h : ctx F C S M n a) (hf : f < n) (ef : fnS S a = nI f) : VHo F C S M n a p 1 (nI f) 1 1 := by
  intro q hq _ Ck Tr Mk hfr
  have hc := h.2.2.2.2.2.1
  have hn := h.1
  have hx : ctx F Ck S Mk n a := ctx_fr h hfr.1 (fr2_1 hfr)
  refine ⟨F 7 (10 * f + q), Ck, Tr, Mk, ?_, ?_, hfr⟩
  · unfold fX4_measure fX4_measure_82
    rw [if_neg (by decide), if_neg (by decide), if_neg (by decide), if_neg (by decide), if_neg (by decide), j10, cks _ (vp_in_nI (by omega) (by decide)), nI_clamp (by omega)]
  · unfold fX8_valueBy
    rw [if_pos rfl, fn8 hx, b1s, ef, lik8 (by omega) (by omega), b1s, fr2_1 hfr, hc.2.2.2.2.1 _ (by omega)]
theorem vh_spio {F C S M : ST} {n a p f : Nat} (h : ctx F C S M n a) (hf : f < n) (ef : fnS S a = nI f) : VHo F C S M n a p 2 (nI f) 1 2 := by
  intro q hq _ Ck Tr Mk hfr
  have hc := h.2.2.2.2.2.1
  have hn := h.1
  have hx : ctx F Ck S Mk n a := ctx_fr h hfr.1 (fr2_1 hfr)
  refine ⟨-(F 7 (10 * f + q)), Ck, Tr, Mk, ?_, ?_, hfr⟩
  · unfold fX4_measure
    rw [if_pos rfl, j10, cks _ (vp_in_nI (by omega) (by decide)), nI_clamp (by omega)]
  · unfold fX8_valueBy
    rw [if_neg (by decide), if_pos rfl, fn8 hx, b1s, ef, lik8 (by omega) (by omega), b1s, fr2_1 hfr, hc.2.2.2.2.1 _ (by omega)]
theorem vh_fooo {F C S M : ST} {n a p : Nat} (h : ctx F C S M n a) : VHo F C S M n a p 3 (nI p) 1 3 := by
  intro q hq _ Ck Tr Mk hfr
  have hc := h.2.2.2.2.2.1
  have hn := h.1
  refine ⟨F 3 q, Ck, Tr, Mk, ?_, ?_, hfr⟩
  · unfold fX4_measure
    rw [if_neg (by decide), if_pos rfl, cks _ (vp_in_nI (by omega) (by decide)), nI_clamp (by omega)]
  · unfold fX8_valueBy
    rw [if_neg (by decide), if_neg (by decide), if_pos rfl, has0_1 (by omega), b1s, fr2_1 hfr, (hc.2.2.2.1 q (by omega)).2.1]
theorem vh_tolo {F C S M : ST} {n a p : Nat} (h : ctx F C S M n a) (hp : p < n) (ht : ¬ C 0 2 ≤ 0) : VHo F C S M n a p 5 (nI p) 1 5 := by
  intro q hq _ Ck Tr Mk hfr
  have hx : ctx F Ck S Mk n a := ctx_fr h hfr.1 (fr2_1 hfr)
  obtain ⟨v, C', M', g1, g2, g3, g4⟩ := given hx hp hq (by rw [hfr.1 0 (by decide)]; exact ht)
  refine ⟨v, C', Tr, M', ?_, ?_, fr2_g hfr g3 g4⟩
  · unfold fX4_measure
    rw [if_neg (by decide), if_neg (by decide), if_neg (by decide), if_pos rfl, g1, b2s]
  · unfold fX8_valueBy
    rw [if_neg (by decide), if_neg (by decide), if_neg (by decide), if_neg (by decide), if_pos rfl, g2, b2s]
theorem vh_besto {F C S M : ST} {n a p : Nat} (h : ctx F C S M n a) (hp : p < n) (h12 : M 0 12 = 0) : VHo F C S M n a p 6 (nI p) 1 6 := by
  intro q hq hm Ck Tr Mk hfr
  have hx : ctx F Ck S Mk n a := ctx_fr h hfr.1 (fr2_1 hfr)
  obtain ⟨v, C', Tr', M', f1, f2, f3⟩ := fol hx hp hq hm (by rw [fr2_0 hfr]; exact h12) Tr
  refine ⟨v, C', Tr', M', ?_, ?_, fun b hb => (f3.1 b hb).trans (hfr.1 b hb), fun b hb hc => (f3.2 b hb hc).trans (hfr.2 b hb hc)⟩
  · unfold fX4_measure
    rw [if_neg (by decide), if_neg (by decide), if_neg (by decide), if_neg (by decide), if_pos rfl, f1, b3s]
  · unfold fX8_valueBy
    rw [if_neg (by decide), if_neg (by decide), if_neg (by decide), if_neg (by decide), if_neg (by decide), if_pos rfl, f2, b2s]
theorem wayo {F C S M : ST} {n a p : Nat} (h : ctx F C S M n a) (hp : p < n) (h12 : M 0 12 = 0) : ∃ w, fX4_wayOf (nI p) 1 S F C = some w ∧ fX8_would_54 (nI p) M = fX8_would_130 (nI p) (F 2 p) w (nI p) M ∧ (w = 4 ↔ F 2 p = 4) ∧ (w = 0 ∨ (w = 1 ∧ ¬ fnS S a = -1) ∨ (w = 2 ∧ ¬ fnS S a = -1) ∨ w = 3 ∨ w = 4 ∨ (w = 5 ∧ ¬ C 0 2 ≤ 0) ∨ w = 6) := by
  have h' := h
  obtain ⟨hn, hF, a1, a4, hA, hc, hiF, hiR, hiL, hiC⟩ := h'
  obtain ⟨k, hk, ek⟩ := (hiF.1 p (by omega)).1
  have e190 : M 1 190 = C 0 2 := hc.2.2.2.2.2.2.1
  unfold fX4_wayOf fX8_would_54
  rw [cks _ (vp_in_nI (show p < 10 by omega) (by decide)), nI_clamp (by omega), lts, has0_0 (by omega), b1s, (hc.2.2.2.1 p (by omega)).1, ek]
  have s0 : ∀ y, fX4_wayOf_58 S F C y 0 = some y := fun y => by unfold fX4_wayOf_58; rw [i00]
  have s1 : ∀ y, fX4_wayOf_58 S F C y 1 = some 0 := fun y => by unfold fX4_wayOf_58; rw [i10]
  have r0 : ∀ y, fX8_would_116 (nI p) y 0 M = fX8_would_130 (nI p) y y (nI p) M := fun y => by unfold fX8_would_116; rw [i00]
  have r1 : ∀ y, fX8_would_116 (nI p) y 1 M = fX8_would_130 (nI p) y 0 (nI p) M := fun y => by unfold fX8_would_116; rw [i10]
  have c43 : ∀ y, ¬ y = 6 → fX4_wayOf_43 S F C 1 y = some y := fun y hy => by unfold fX4_wayOf_43; rw [if_neg hy, s0]
  have c28 : ∀ y, ¬ y = 5 → ¬ y = 6 → fX4_wayOf_28 S F C 1 y = some y := fun y hy hz => by unfold fX4_wayOf_28; rw [if_neg hy, c43 y hz]
  have d98 : ∀ y, ¬ y = 6 → fX8_would_98 (nI p) y M = fX8_would_130 (nI p) y y (nI p) M := fun y hy => by unfold fX8_would_98; rw [if_neg hy, r0]
  have d82 : ∀ y, ¬ y = 5 → ¬ y = 6 → fX8_would_82 (nI p) y M = fX8_would_130 (nI p) y y (nI p) M := fun y hy hz => by unfold fX8_would_82; rw [if_neg hy, d98 y hz]
  have hks : k = 0 ∨ k = 1 ∨ k = 2 ∨ k = 3 ∨ k = 4 ∨ k = 5 ∨ k = 6 := by omega
  have fs : ∀ y, ¬ y = 5 → ¬ y = 6 → (fnS S a = -1 ∧ fX4_wayOf_20 S F C 1 y = some 0 ∧ fX8_would_75 (nI p) y M = fX8_would_130 (nI p) y 0 (nI p) M) ∨ (¬ fnS S a = -1 ∧ fX4_wayOf_20 S F C 1 y = some y ∧ fX8_would_75 (nI p) y M = fX8_would_130 (nI p) y y (nI p) M) := fun y h5 h6 => by
    unfold fX4_wayOf_20 fX8_would_75
    rw [fn4 h, fn8 h, b1s, b1s]
    rcases fn_case h with z | ⟨q, hq, z⟩
    · exact Or.inl ⟨z, by rw [if_pos z, s1], by rw [z, if_pos m1_lt, r1]⟩
    · exact Or.inr ⟨by rw [z]; exact nI_m1 (by omega), by rw [z, if_neg (nI_m1 (by omega)), c28 y h5 h6], by rw [z, if_neg (nI_pos (by omega)), d82 y h5 h6]⟩
  rcases hks with e | e | e | e | e | e | e
  · subst e
    refine ⟨0, ?_, ?_, ?_, Or.inl rfl⟩
    · rw [if_neg (by decide), if_neg (by decide), c28 _ (by decide) (by decide)]; rfl
    · rw [if_pos (show nI 0 = 0 from rfl), r1]
    · exact ⟨fun h => absurd h (by decide), fun h => absurd h (by decide)⟩
  · subst e
    rw [if_pos (show nI 1 = 1 from rfl), if_neg (show ¬ nI 1 = 0 by decide), if_pos (show nI 1 = 1 from rfl)]
    rcases fs (nI 1) (by decide) (by decide) with ⟨z1, z2, z3⟩ | ⟨z1, z2, z3⟩
    · exact ⟨0, z2, z3, ⟨fun h => absurd h (by decide), fun h => absurd h (by decide)⟩, Or.inl rfl⟩
    · exact ⟨nI 1, z2, z3, ⟨fun h => absurd h (by decide), fun h => absurd h (by decide)⟩, Or.inr (Or.inl ⟨rfl, z1⟩)⟩
  · subst e
    rw [if_neg (show ¬ nI 2 = 1 by decide), if_pos (show nI 2 = 2 from rfl), if_neg (show ¬ nI 2 = 0 by decide), if_neg (show ¬ nI 2 = 1 by decide), if_pos (show nI 2 = 2 from rfl)]
    rcases fs (nI 2) (by decide) (by decide) with ⟨z1, z2, z3⟩ | ⟨z1, z2, z3⟩
    · exact ⟨0, z2, z3, ⟨fun h => absurd h (by decide), fun h => absurd h (by decide)⟩, Or.inl rfl⟩
    · exact ⟨nI 2, z2, z3, ⟨fun h => absurd h (by decide), fun h => absurd h (by decide)⟩, Or.inr (Or.inr (Or.inl ⟨rfl, z1⟩))⟩
  · subst e
    refine ⟨nI 3, ?_, ?_, ⟨fun h => absurd h (by decide), fun h => absurd h (by decide)⟩, Or.inr (Or.inr (Or.inr (Or.inl rfl)))⟩
    · rw [if_neg (by decide), if_neg (by decide), c28 _ (by decide) (by decide)]
    · rw [if_neg (by decide), if_neg (by decide), if_neg (by decide), d82 _ (by decide) (by decide)]
  · subst e
    refine ⟨nI 4, ?_, ?_, Iff.rfl, Or.inr (Or.inr (Or.inr (Or.inr (Or.inl rfl))))⟩
    · rw [if_neg (by decide), if_neg (by decide), c28 _ (by decide) (by decide)]
    · rw [if_neg (by decide), if_neg (by decide), if_neg (by decide), d82 _ (by decide) (by decide)]
  · subst e
    rw [if_neg (by decide), if_neg (by decide), if_neg (by decide), if_neg (by decide), if_neg (by decide)]
    unfold fX4_wayOf_28 fX8_would_82
    rw [if_pos (show nI 5 = 5 from rfl), if_pos (show nI 5 = 5 from rfl), there_e, b1s, e190]
    by_cases z : C 0 2 ≤ 0
    · have z0 : C 0 2 = 0 := by
        by_cases q : C 0 2 = 0
        · exact q
        · exact absurd z ((there hiC).mpr q)
      rw [if_pos z, i00, if_pos z0, s1, r1]
      exact ⟨0, rfl, rfl, ⟨fun h => absurd h (by decide), fun h => absurd h (by decide)⟩, Or.inl rfl⟩
    · rw [if_neg z, i10, if_neg ((there hiC).mp z), c43 _ (by decide), d98 _ (by decide)]
      exact ⟨nI 5, rfl, rfl, ⟨fun h => absurd h (by decide), fun h => absurd h (by decide)⟩, Or.inr (Or.inr (Or.inr (Or.inr (Or.inr (Or.inl ⟨rfl, z⟩)))))⟩
  · subst e
    rw [if_neg (by decide), if_neg (by decide), if_neg (by decide), if_neg (by decide), if_neg (by decide)]
    unfold fX4_wayOf_28 fX8_would_82 fX4_wayOf_43 fX8_would_98
    rw [if_neg (show ¬ nI 6 = 5 by decide), if_neg (show ¬ nI 6 = 5 by decide), if_pos (show nI 6 = 6 from rfl), if_pos (show nI 6 = 6 from rfl), h12]
    rw [if_pos (show (0 : Int32) < 1 by decide), if_pos (show (0 : Int32) = 0 from rfl), s0, r0]
    exact ⟨nI 6, rfl, rfl, ⟨fun h => absurd h (by decide), fun h => absurd h (by decide)⟩, Or.inr (Or.inr (Or.inr (Or.inr (Or.inr (Or.inr rfl)))))⟩
theorem owno {F C S M : ST} {n a p : Nat} (h : ctx F C S M n a) (hp : p < n) (h12 : M 0 12 = 0) {g : Int32} (hg1 : ∀ i, i < n → bt g i = mayB F S a p i) (hg2 : ∀ i, n ≤ i → i < 32 → bt g i = false) (Tr : ST) : ∃ (z : Int32) (C' Tr' M' : ST), (dc_b1 (fX4_wayOf (nI p) 1 S F C) (fun r8 => (if r8 = 4 then dc_ck (nI p) 10 (dc_b1 (fX1_ofSort (F 4 (Int32.toNatClampNeg (nI p))) F) (fun r29 => dc_lt (g &&& r29) (fun v31 => (if v31 = 0 then fX4_choice_97 S F (nI p) 1 g r8 C Tr else fX4_choice_97 S F (nI p) 1 v31 r8 C Tr)))) else fX4_choice_97 S F (nI p) 1 g r8 C Tr))) = some (z, C', Tr') ∧ fX8_would_54 (nI p) M = some (z, M') ∧ fr2 C M C' M' ∧ okz F S n a p z := by
  obtain ⟨w, e1, e2, e4, e5⟩ := wayo h hp h12
  have h' := h
  obtain ⟨hn, hF, a1, a4, hA, hc, hiF, hiR, hiL, hiC⟩ := h'
  rw [e1, b1s, e2]
  unfold fX8_would_130
  have fin : ∀ y, ¬ w = 4 → VHo F C S M n a p w y 1 w → fX4_choice_97 S F (nI p) 1 g w C Tr = fX4_choice_117 S F 1 g w y C Tr → ∃ (z : Int32) (C' Tr' M' : ST), (if w = 4 then dc_ck (nI p) 10 (dc_b1 (fX1_ofSort (F 4 (Int32.toNatClampNeg (nI p))) F) (fun r29 => dc_lt (g &&& r29) (fun v31 => (if v31 = 0 then fX4_choice_97 S F (nI p) 1 g w C Tr else fX4_choice_97 S F (nI p) 1 v31 w C Tr)))) else fX4_choice_97 S F (nI p) 1 g w C Tr) = some (z, C', Tr') ∧ dc_b2 (fX8_bestBy (nI p) w M) (fun r8 M_9 => (if 0 ≤ r8 then some (r8, M_9) else (if F 2 p = 4 then dc_b2 (fX8_bestBy (nI p) 0 M_9) (fun r13 M_14 => some (r13, M_14)) else some (r8, M_9)))) = some (z, M') ∧ fr2 C M C' M' ∧ okz F S n a p z := fun y h4 hV e97 => by
    obtain ⟨z, C', Tr', M', z1, z2, z3, z4, -⟩ := cho_lo h hp hV (G := g) (fun q hq => by rw [hg1 q hq]; unfold selB; rw [decide_eq_false h4]; simp) n 0 400 400 (-1) 0 C Tr M (by omega) (by omega) (by omega) (fr2_r C M) (Or.inl rfl)
    refine ⟨z, C', Tr', M', ?_, ?_, z3, ?_⟩
    · rw [if_neg h4, e97]; exact z1
    · have zz : fX8_bestBy (nI p) w M = some (z, M') := z2
      rw [zz, b2s, if_neg (fun q => h4 (e4.mpr q))]
      by_cases q : 0 ≤ z
      · rw [if_pos q]
      · rw [if_neg q]
    · rcases z4 with z4 | ⟨j, hj, hb, z4⟩
      · exact Or.inl z4
      · exact Or.inr ⟨j, hj, (hg1 j hj).symm.trans hb, z4⟩
  have c117 : ¬ w = 1 → ¬ w = 2 → fX4_choice_97 S F (nI p) 1 g w C Tr = fX4_choice_117 S F 1 g w (nI p) C Tr := fun q1 q2 => by
    unfold fX4_choice_97
    rw [if_neg q1, if_neg q2]
  rcases e5 with e | ⟨e, ef⟩ | ⟨e, ef⟩ | e | e | ⟨e, ht⟩ | e
  · subst e
    exact fin (nI p) (by decide) (vh_liko h hp (Or.inl rfl) (Or.inl rfl)) (c117 (by decide) (by decide))
  · subst e
    rcases fn_case h with z | ⟨f, hf, z⟩
    · exact absurd z ef
    · refine fin (nI f) (by decide) (vh_frio h hf z) ?_
      unfold fX4_choice_97
      rw [if_pos rfl]
      unfold fX4_choice_109
      rw [fn4 h, b1s, z]
  · subst e
    rcases fn_case h with z | ⟨f, hf, z⟩
    · exact absurd z ef
    · refine fin (nI f) (by decide) (vh_spio h hf z) ?_
      unfold fX4_choice_97
      rw [if_neg (by decide), if_pos rfl]
      unfold fX4_choice_109
      rw [fn4 h, b1s, z]
  · subst e
    exact fin (nI p) (by decide) (vh_fooo h) (c117 (by decide) (by decide))
  · subst e
    obtain ⟨o, eo, ho⟩ := ofSort_e hn hF (F 4 p)
    have e117 : ∀ G, fX4_choice_97 S F (nI p) 1 G 4 C Tr = fX4_choice_117 S F 1 G 4 (nI p) C Tr := fun G => by
      unfold fX4_choice_97
      rw [if_neg (by decide), if_neg (by decide)]
    rw [if_pos rfl, cks _ (vp_in_nI (show p < 10 by omega) (by decide)), nI_clamp (by omega), eo, b1s, lts, e117, e117]
    obtain ⟨z, C', Tr', M', z1, z2, z3, z4, z5⟩ := cho_lo h hp (vh_liko h hp (w := 4) (w' := 4) (Or.inr rfl) (Or.inr rfl)) (G := g &&& o) (fun q hq => by rw [b_and, hg1 q hq, ho q (by omega), decide_eq_true hq]; unfold selB; rw [decide_eq_true rfl]; rfl) n 0 400 400 (-1) 0 C Tr M (by omega) (by omega) (by omega) (fr2_r C M) (Or.inl rfl)
    have zz : fX8_bestBy (nI p) 4 M = some (z, M') := z2
    rw [zz, b2s, if_pos (e4.mp rfl)]
    by_cases hz : g &&& o = 0
    · have ez : z = -1 := by
        rcases z4 with z4 | ⟨j, hj, hb, z4⟩
        · exact z4
        · rw [hz, b_0] at hb; exact absurd hb (by decide)
      rw [if_pos hz, ez, if_neg m1_nle]
      obtain ⟨z', C2, Tr2, M2, y1, y2, y3, y4, -⟩ := cho_lo h hp (vh_liko h hp (w := 4) (w' := 0) (Or.inr rfl) (Or.inl rfl)) (G := g) (fun q hq => by rw [hg1 q hq]; unfold selB; rw [decide_eq_false (by decide)]; simp) n 0 400 400 (-1) 0 C Tr M' (by omega) (by omega) (by omega) ⟨fun _ _ => rfl, z3.2⟩ (Or.inl rfl)
      have yy : fX8_bestBy (nI p) 0 M' = some (z', M2) := y2
      rw [yy, b2s]
      refine ⟨z', C2, Tr2, M2, y1, rfl, y3, ?_⟩
      rcases y4 with y4 | ⟨j, hj, hb, y4⟩
      · exact Or.inl y4
      · exact Or.inr ⟨j, hj, (hg1 j hj).symm.trans hb, y4⟩
    · rw [if_neg hz]
      have nz : ¬ z = -1 := fun e => hz (b_ext (fun i hi => by
        rw [b_0]
        by_cases q : i < n
        · exact (z5 e).2 i (by omega) q
        · rw [b_and, hg2 i (by omega) hi, Bool.false_and]))
      rcases z4 with z4 | ⟨j, hj, hb, z4⟩
      · exact absurd z4 nz
      · rw [if_pos (by rw [z4]; exact nI_pos' (by omega))]
        refine ⟨z, C', Tr', M', z1, rfl, z3, Or.inr ⟨j, hj, ?_, z4⟩⟩
        rw [b_and, Bool.and_eq_true] at hb
        exact (hg1 j hj).symm.trans hb.1
  · subst e
    exact fin (nI p) (by decide) (vh_tolo h hp ht) (c117 (by decide) (by decide))
  · subst e
    exact fin (nI p) (by decide) (vh_besto h hp h12) (c117 (by decide) (by decide))
/-- the words that are kept, on both sides -/
def lvl (S M : ST) (n : Nat) : Prop := M 0 12 = 0 ∧ ((S 0 8 = -1 ∧ S 0 9 = -1 ∧ M 0 9 = -1 ∧ M 0 10 = -1) ∨ ∃ u v, u < n ∧ v < n ∧ u ≠ v ∧ S 0 8 = nI u ∧ S 0 9 = nI v ∧ ((M 0 9 = nI u ∧ M 0 10 = nI v) ∨ (M 0 9 = nI v ∧ M 0 10 = nI u)))
theorem choo {F C S M : ST} {n a p : Nat} (h : ctx F C S M n a) (hp : p < n) (hl : lvl S M n) (Tr : ST) : ∃ (z : Int32) (C' Tr' M' : ST), fX4_choice (nI p) 1 S F C Tr = some (z, C', Tr') ∧ fX8_would (nI p) M = some (z, M') ∧ fr2 C M C' M' ∧ okz F S n a p z := by
  obtain ⟨g, e, g1, g2⟩ := allow4 h hp
  have hn := h.1
  have np : ¬ nI p = -1 := nI_m1 (by omega)
  have key : ∃ s : Int32, (s = -1 ∨ ∃ v, v < n ∧ s = nI v) ∧ fX4_choice (nI p) 1 S F C Tr = fX4_choice_37 S F (nI p) 1 g s C Tr ∧ fX8_would (nI p) M = fX8_would_31 (nI p) s M := by
    unfold fX4_choice fX8_would
    rw [e, b1s]
    rcases hl.2 with ⟨a1, a2, a3, a4⟩ | ⟨u, v, hu, hv, huv, a1, a2, ⟨a3, a4⟩ | ⟨a3, a4⟩⟩
    · rw [a1, a2, a3, a4, if_neg np, if_neg np, if_neg np, if_neg np]
      exact ⟨-1, Or.inl rfl, rfl, rfl⟩
    · rw [a1, a2, a3, a4]
      by_cases q1 : nI p = nI u
      · rw [if_pos q1, if_pos q1]; exact ⟨nI v, Or.inr ⟨v, hv, rfl⟩, rfl, rfl⟩
      · rw [if_neg q1, if_neg q1]
        by_cases q2 : nI p = nI v
        · rw [if_pos q2, if_pos q2]; exact ⟨nI u, Or.inr ⟨u, hu, rfl⟩, rfl, rfl⟩
        · rw [if_neg q2, if_neg q2]; exact ⟨-1, Or.inl rfl, rfl, rfl⟩
    · rw [a1, a2, a3, a4]
      by_cases q1 : nI p = nI u
      · have q2 : ¬ nI p = nI v := fun q2 => huv (nI_inj (by omega) (by omega) (q1.symm.trans q2))
        rw [if_pos q1, if_neg q2, if_pos q1]; exact ⟨nI v, Or.inr ⟨v, hv, rfl⟩, rfl, rfl⟩
      · by_cases q2 : nI p = nI v
        · rw [if_neg q1, if_pos q2, if_pos q2]; exact ⟨nI u, Or.inr ⟨u, hu, rfl⟩, rfl, rfl⟩
        · rw [if_neg q1, if_neg q2, if_neg q2, if_neg q1]; exact ⟨-1, Or.inl rfl, rfl, rfl⟩
  obtain ⟨s, hs, k1, k2⟩ := key
  rw [k1, k2]
  unfold fX4_choice_37 fX8_would_31
  rcases hs with rfl | ⟨v, hv, rfl⟩
  · rw [isIn7_m1, b1s, i00, if_pos m1_lt]
    exact owno h hp hl.1 g1 g2 Tr
  · rw [isIn7_e g (show v < 10 by omega), b1s, if_neg (nI_pos (by omega)), hl.1, i00, may8 h (by omega) (by omega), b1s, ← g1 v hv]
    cases hb : bt g v
    · rw [if10f, i00, i00]
      exact owno h hp hl.1 g1 g2 Tr
    · rw [if10t, i10, i10]
      exact ⟨nI v, C, Tr, M, rfl, rfl, fr2_r C M, Or.inr ⟨v, hv, (g1 v hv).symm.trans hb, rfl⟩⟩
