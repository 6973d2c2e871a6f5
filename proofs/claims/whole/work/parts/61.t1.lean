-- THE TEXT: what stands behind a part that is read
def cns (b : Nat) (c fl : Int32) : Prop := bs c ≠ 0 ∧ b ≤ bs c ∧ ¬ (bs c = 3 ∧ fl ≠ 0)
/-- a FAULT, on both sides -/
def FT (n : Nat) (v : Nat → Int32) (T' Dr' M : ST) (R : Option (Int32 × ST)) : Prop := ∃ i' M', tpc n v T' i' 1 ∧ i' ≤ n ∧ dl Dr' ∧ R = some (-1 - nI i', M') ∧ mfr M M'
def st0 (n : Nat) (v : Nat → Int32) (T Dr M : ST) (i d w lv k : Nat) : Prop := tpc n v T i 0 ∧ i ≤ n ∧ dfc Dr d ∧ mfc M d w lv k ∧ (∀ j, j < d → M 19 j = enS (Dr 1 j)) ∧ M 5 = v ∧ d + w ≤ i ∧ lv ≤ k ∧ k ≤ 5 ∧ (M 23 lv = 0 ∨ M 23 lv = 1)
def OC (n : Nat) (v : Nat → Int32) (b nb : Nat) (T' Dr' Dr M : ST) (i d w lv k i' d' e' w' : Nat) (M' : ST) : Prop := tpc n v T' i' 0 ∧ i < i' ∧ i' ≤ n ∧ dfc Dr' d' ∧ d < d' ∧ (∀ j, j < d → Dr' 1 j = Dr 1 j) ∧ dpt (Dr' 1) d' = dpt (Dr 1) d + 1 ∧ mfc M' e' w' lv k ∧ w ≤ w' ∧ d' = e' + (w' - w) ∧ (∀ j, j < e' → M' 19 j = enS (Dr' 1 j)) ∧ (∀ t, t < w' - w → 0 < M' 21 (w' - 1 - t) ∧ b ≤ bs (M' 21 (w' - 1 - t)) ∧ enS (Dr' 1 (e' + t)) = 10000 + M' 21 (w' - 1 - t)) ∧ (∀ j, j < w → M' 21 j = M 21 j) ∧ (∀ j, j < lv → M' 23 j = M 23 j) ∧ (4 ≤ b → M' 23 lv = M 23 lv) ∧ (M' 23 lv = 0 ∨ M' 23 lv = 1) ∧ e' + w' ≤ i' ∧ mfr M M' ∧ (i' < n → ¬ cns nb (v i') (M' 23 lv))
def topc (M : ST) (w b : Nat) : Prop := w = 0 ∨ M 21 (w - 1) = -22 ∨ (0 < M 21 (w - 1) ∧ bs (M 21 (w - 1)) < b)
def SX (n : Nat) (v : Nat → Int32) (k b : Nat) (rx : ST → ST → Option (ST × ST)) : Prop := ∀ (T Dr M : ST) (i d w lv f : Nat), st0 n v T Dr M i d w lv k → topc M w b → (b ≤ 3 → M 23 lv = 0) → n - i < f → ∃ T' Dr', rx T Dr = some (T', Dr') ∧ (FT n v T' Dr' M (fX8_text_41 f (nI n) 0 (nI i) M) ∨ ∃ i' d' e' w' f' M', OC n v b b T' Dr' Dr M i d w lv k i' d' e' w' M' ∧ n - i' < f' ∧ fX8_text_41 f (nI n) 0 (nI i) M = fX8_text_41 f' (nI n) 1 (nI i') M')
def SQ (n : Nat) (v : Nat → Int32) (k : Nat) (rq : ST → ST → Option (ST × ST)) : Prop := ∀ (T Dr M : ST) (i d w m lv f : Nat), st0 n v T Dr M i d w lv k → m ≤ w → m ≤ k → (∀ t, t < m → M 21 (w - 1 - t) = -20 ∨ M 21 (w - 1 - t) = -21) → (m < w → M 21 (w - 1 - m) ≠ -20 ∧ M 21 (w - 1 - m) ≠ -21) → n - i < f → ∃ T' Dr', rq T Dr = some (T', Dr') ∧ (FT n v T' Dr' M (fX8_text_41 f (nI n) 0 (nI i) M) ∨ ∃ i' d' f' M', tpc n v T' i' 0 ∧ i < i' ∧ i' ≤ n ∧ dfc Dr' d' ∧ d < d' ∧ (∀ j, j < d → Dr' 1 j = Dr 1 j) ∧ dpt (Dr' 1) d' = dpt (Dr 1) d + 1 ∧ mfc M' (d' + m) (w - m) lv (k - m) ∧ (∀ j, j < d' → M' 19 j = enS (Dr' 1 j)) ∧ (∀ t, t < m → M' 19 (d' + t) = M 21 (w - 1 - t)) ∧ (∀ j, j < w - m → M' 21 j = M 21 j) ∧ (∀ j, j ≤ lv → M' 23 j = M 23 j) ∧ d' + w ≤ i' ∧ mfr M M' ∧ n - i' < f' ∧ fX8_text_41 f (nI n) 0 (nI i) M = fX8_text_41 f' (nI n) 1 (nI i') M')
theorem SX6 {n : Nat} {v : Nat → Int32} {k : Nat} {rq : ST → ST → Option (ST × ST)} (h : SQ n v k rq) : SX n v k 6 rq := by
  intro T Dr M i d w lv f h0 ht _ hf
  obtain ⟨T', Dr', e, z⟩ := h T Dr M i d w 0 lv f h0 (by omega) (by omega) (fun t ht => by omega) (fun hw => by
    rcases ht with q | q | q
    · omega
    · rw [show w - 1 - 0 = w - 1 from rfl, q]; exact ⟨by decide, by decide⟩
    · rw [show w - 1 - 0 = w - 1 from rfl]
      exact ⟨fun e => by rw [e] at q; exact absurd q.1 (by decide), fun e => by rw [e] at q; exact absurd q.1 (by decide)⟩) hf
  refine ⟨T', Dr', e, z.imp id ?_⟩
  rintro ⟨i', d', f', M', z1, z2, z3, z4, z5, z6, z7, z8, z9, -, z11, z12, z13, z14, z15, z16⟩
  refine ⟨i', d', d', w, f', M', ⟨z1, z2, z3, z4, z5, z6, z7, z8, Nat.le_refl w, by omega, z9, fun t ht => by omega, z11, fun j hj => z12 j (by omega), fun _ => z12 lv (Nat.le_refl lv), ?_, z13, z14, fun _ c => ?_⟩, z15, z16⟩
  · rw [z12 lv (Nat.le_refl lv)]; exact h0.2.2.2.2.2.2.2.2.2
  · have := bs_le (v i')
    have := c.2.1
    omega
theorem nar0 : vp_nar .boolean 0 = 0 := by decide +kernel
theorem nar1 : vp_nar .boolean 1 = 1 := by decide +kernel
/-- a sign between two, read by the reference -/
theorem sgn_step {n : Nat} {v : Nat → Int32} {M : ST} {i e w w' lv k b f : Nat} (hn : n ≤ 80) (hi : i < n) (h5 : M 5 = v) (hc : mfc M e w' lv k) (hw : w ≤ w') (hs : e + w' ≤ i) (hlv : lv ≤ 5) (hb : bs (v i) = b) (hb0 : b ≠ 0) (h3 : b = 3 → M 23 lv = 0) (hfl : M 23 lv = 0 ∨ M 23 lv = 1) (hp : ∀ t, t < w' - w → 0 < M 21 (w' - 1 - t) ∧ b ≤ bs (M 21 (w' - 1 - t))) (ht : w = 0 ∨ M 21 (w - 1) ≤ 0 ∨ bs (M 21 (w - 1)) < b) : ∃ M', fX8_text_41 (f + 1) (nI n) 1 (nI i) M = fX8_text_41 f (nI n) 0 (nI (i + 1)) M' ∧ mfc M' (e + (w' - w)) (w + 1) lv k ∧ (∀ j, j < e → M' 19 j = M 19 j) ∧ (∀ t, t < w' - w → M' 19 (e + t) = 10000 + M 21 (w' - 1 - t)) ∧ (∀ j, j < w → M' 21 j = M 21 j) ∧ M' 21 w = v i ∧ (∀ j, j < lv → M' 23 j = M 23 j) ∧ (b = 3 → M' 23 lv = 1) ∧ (b < 3 → M' 23 lv = 0) ∧ (4 ≤ b → M' 23 lv = M 23 lv) ∧ mfr M M' := by
  obtain ⟨h19, h21, h23, h24⟩ := hc
  have hb5 : b ≤ 5 := by have := bs_le (v i); omega
  have e119 : ∀ s0 nf : Int32, vp_nar .boolean s0 = nf → ∃ M', fX8_isSignRead_119 (v i) (nI b) s0 (nI lv) M = some (1, M') ∧ mfc M' (e + (w' - w)) (w + 1) lv k ∧ (∀ j, j < e → M' 19 j = M 19 j) ∧ (∀ t, t < w' - w → M' 19 (e + t) = 10000 + M 21 (w' - 1 - t)) ∧ (∀ j, j < w → M' 21 j = M 21 j) ∧ M' 21 w = v i ∧ (∀ j, j < lv → M' 23 j = M 23 j) ∧ M' 23 lv = nf ∧ mfr M M' := fun s0 nf hnf => by
    obtain ⟨M8, e8⟩ : ∃ M8, M8 = sti M 23 lv nf := ⟨_, rfl⟩
    have c21 : M8 21 = M 21 := by rw [e8]; rfl
    have c19 : M8 19 = M 19 := by rw [e8]; rfl
    have c0 : M8 0 = M 0 := by rw [e8]; rfl
    obtain ⟨M9, z1, z2, z3, z4, z5, z6, z7⟩ := doneBy_l (b := b) (w := w) hb5 (w' - w) e 400 M8 (by rw [c0]; exact h19) (by rw [c0, h21]; congr 1; omega) (by omega) (by omega) (fun t ht => by rw [c21, show w + (w' - w) - 1 - t = w' - 1 - t by omega]; exact hp t ht) (by rw [c21]; exact ht)
    have z1' : fX8_doneBy (nI b) M8 = some M9 := z1
    have d21 : M9 21 = M 21 := by rw [z6 21 (by decide) (by decide), c21]
    refine ⟨sti (sti M9 21 w (v i)) 0 21 (nI (w + 1)), ?_, ⟨z2, rfl, ?_, ?_⟩, fun j hj => ?_, fun t ht => ?_, fun j hj => ?_, ?_, fun j hj => ?_, ?_, ?_, ?_⟩
    · unfold fX8_isSignRead_119
      rw [cks _ (vp_in_nI (show lv < 8 by omega) (by decide)), nI_clamp (by omega), hnf, lts, ← e8, z1', b1s, waits_e z3 (by omega), b1s]
    · show M9 0 23 = nI lv
      rw [z7 23 (by decide) (by decide), c0]; exact h23
    · show M9 0 24 = nI k
      rw [z7 24 (by decide) (by decide), c0]; exact h24
    · show M9 19 j = _
      rw [z4 j hj, c19]
    · show M9 19 (e + t) = _
      rw [z5 t ht, c21, show w + (w' - w) - 1 - t = w' - 1 - t by omega]
    · show upd (M9 21) w (v i) j = _
      rw [upd_n (by omega), d21]
    · show upd (M9 21) w (v i) w = _
      rw [upd_s]
    · show M9 23 j = _
      rw [z6 23 (by decide) (by decide), e8, sti_s, upd_n (by omega)]
    · show M9 23 lv = _
      rw [z6 23 (by decide) (by decide), e8, sti_s, upd_s]
    · intro c h1 h2 h3 h4
      rw [sti_o h1, sti_o h3, z6 c h1 h2, e8, sti_o h4]
    · intro j h1 h2 h3 h4
      rw [sti_s, upd_n h2, sti_o (by decide), z7 j h1 h2, c0]
  have e84 : ∃ M' nf, fX8_isSignRead (v i) M = some (1, M') ∧ mfc M' (e + (w' - w)) (w + 1) lv k ∧ (∀ j, j < e → M' 19 j = M 19 j) ∧ (∀ t, t < w' - w → M' 19 (e + t) = 10000 + M 21 (w' - 1 - t)) ∧ (∀ j, j < w → M' 21 j = M 21 j) ∧ M' 21 w = v i ∧ (∀ j, j < lv → M' 23 j = M 23 j) ∧ M' 23 lv = nf ∧ mfr M M' ∧ (b = 3 → nf = 1) ∧ (b < 3 → nf = 0) ∧ (4 ≤ b → nf = M 23 lv) := by
    unfold fX8_isSignRead
    rw [binds_e, b1s, hb, if_neg (bs_41 (by rw [hb]; exact hb0)), if_neg (nI_ne0 (by omega) (by omega))]
    unfold fX8_isSignRead_84
    rw [h23]
    by_cases q3 : b = 3
    · subst q3
      rw [if_pos (show nI 3 = 3 from rfl), cks _ (vp_in_nI (show lv < 8 by omega) (by decide)), nI_clamp (by omega), if_pos (h3 rfl), if_pos (show nI 3 = 3 from rfl)]
      obtain ⟨M', z⟩ := e119 1 1 nar1
      obtain ⟨z1, z2, z3, z4, z5, z6, z7, z8, z9⟩ := z
      exact ⟨M', 1, z1, z2, z3, z4, z5, z6, z7, z8, z9, fun _ => rfl, fun h => absurd h (by omega), fun h => absurd h (by omega)⟩
    · have n3 : ¬ nI b = 3 := fun e => q3 (nI_inj (a := b) (b := 3) (by omega) (by decide) e)
      rw [if_neg n3, if_neg n3]
      by_cases q : b < 3
      · rw [if_pos (show nI b ≤ 3 from nI_le (b := 3) (by omega) (by decide))]
        obtain ⟨M', z⟩ := e119 0 0 nar0
        obtain ⟨z1, z2, z3, z4, z5, z6, z7, z8, z9⟩ := z
        exact ⟨M', 0, z1, z2, z3, z4, z5, z6, z7, z8, z9, fun h => absurd h q3, fun _ => rfl, fun h => absurd h (by omega)⟩
      · rw [if_neg (show ¬ nI b ≤ 3 from nI_ge (a := 3) (by omega) (by omega)), cks _ (vp_in_nI (show lv < 8 by omega) (by decide)), nI_clamp (by omega)]
        rcases hfl with g | g
        · rw [if_pos g]
          obtain ⟨M', z⟩ := e119 0 0 nar0
          obtain ⟨z1, z2, z3, z4, z5, z6, z7, z8, z9⟩ := z
          exact ⟨M', 0, z1, z2, z3, z4, z5, z6, z7, z8, z9, fun h => absurd h q3, fun h => absurd h q, fun _ => g.symm⟩
        · rw [if_neg (show ¬ M 23 lv = 0 by rw [g]; decide)]
          obtain ⟨M', z⟩ := e119 1 1 nar1
          obtain ⟨z1, z2, z3, z4, z5, z6, z7, z8, z9⟩ := z
          exact ⟨M', 1, z1, z2, z3, z4, z5, z6, z7, z8, z9, fun h => absurd h q3, fun h => absurd h q, fun _ => g.symm⟩
  obtain ⟨M', nf, z1, z2, z3, z4, z5, z6, z7, z8, z9, y1, y2, y3⟩ := e84
  refine ⟨M', ?_, z2, z3, z4, z5, z6, z7, fun h => z8.trans (y1 h), fun h => z8.trans (y2 h), fun h => z8.trans (y3 h), z9⟩
  show fX8_text_41_s (fX8_text_41 f) _ _ _ _ = _
  unfold fX8_text_41_s
  rw [if_neg (nI_ge hi (by omega)), cks _ (vp_in_nI (show i < 80 by omega) (by decide)), nI_clamp (by omega), h5, lts, i10, z1, b2s, i10, if_neg (bs_41 (by rw [hb]; exact hb0)), lts, nI_1]
/-- one more: a sign, and what is behind it -/
theorem iter {n : Nat} {v : Nat → Int32} {k b : Nat} {sub : ST → ST → Option (ST × ST)} (hn : n ≤ 80) (hb1 : 1 ≤ b) (hb5 : b ≤ 5) (hS : SX n v k (b + 1) sub) {T1 D1 Dr M M1 : ST} {i d w lv i1 d1 e1 w1 f1 : Nat} (hk : k ≤ 5) (hlv : lv ≤ k) (h5 : M 5 = v) (ht : topc M w b) (oc : OC n v b (b + 1) T1 D1 Dr M i d w lv k i1 d1 e1 w1 M1) (hi : i1 < n) (hbs : bs (v i1) = b) (h3 : b = 3 → M1 23 lv = 0) (hf : n - i1 < f1) : ∃ T2 D2, sub (sti T1 0 3 (nI (i1 + 1))) D1 = some (T2, D2) ∧ (FT n v T2 D2 M (fX8_text_41 f1 (nI n) 1 (nI i1) M1) ∨ ∃ i2 d2 e2 w2 f2 M3, fX3_putSign (v i1) D2 = some (pD D2 d2 (-1 - v i1)) ∧ OC n v b (b + 1) T2 (pD D2 d2 (-1 - v i1)) Dr M i d w lv k i2 (d2 + 1) e2 w2 M3 ∧ i1 + 1 < i2 ∧ (b = 3 → M3 23 lv = 1) ∧ n - i2 < f2 ∧ fX8_text_41 f1 (nI n) 1 (nI i1) M1 = fX8_text_41 f2 (nI n) 1 (nI i2) M3) := by
  obtain ⟨o1, o2, o3, o4, o5, o6, o7, o8, o9, o10, o11, o12, o13, o14, o15, o16, o17, o18, o19⟩ := oc
  obtain ⟨f1, rfl⟩ : ∃ f', f1 = f' + 1 := ⟨f1 - 1, by omega⟩
  have m15 : M1 5 = v := by rw [o18.1 5 (by decide) (by decide) (by decide) (by decide)]; exact h5
  obtain ⟨M2, s1, s2, s3, s4, s5, s6, s7, s8, s9, s10, s11⟩ := sgn_step (f := f1) hn hi m15 o8 o9 o17 (by omega) hbs (by omega) h3 o16 (fun t ht => ⟨(o12 t ht).1, (o12 t ht).2.1⟩) (by
    rcases Nat.eq_zero_or_pos w with z | z
    · exact Or.inl z
    · refine Or.inr ?_
      rw [o13 (w - 1) (by omega)]
      rcases ht with q | q | q
      · omega
      · rw [q]; exact Or.inl (by decide)
      · exact Or.inr q.2)
  have hcode := bs_code (c := v i1) (by rw [hbs]; omega)
  have st : st0 n v (sti T1 0 3 (nI (i1 + 1))) D1 M2 (i1 + 1) d1 (w + 1) lv k := by
    refine ⟨tpc_at o1 (i1 + 1), by omega, o4, by rw [o10]; exact s2, fun j hj => ?_, ?_, by omega, hlv, hk, ?_⟩
    · by_cases q : j < e1
      · rw [s3 j q, o11 j q]
      · have := s4 (j - e1) (by omega)
        rw [show e1 + (j - e1) = j by omega] at this
        rw [this, ← (o12 (j - e1) (by omega)).2.2, show e1 + (j - e1) = j by omega]
    · rw [s11.1 5 (by decide) (by decide) (by decide) (by decide)]; exact m15
    · rcases Nat.lt_or_ge b 3 with q | q
      · exact Or.inl (s9 q)
      · by_cases q3 : b = 3
        · exact Or.inr (s8 q3)
        · rw [s10 (by omega)]; exact o16
  obtain ⟨T2, D2, r1, r2⟩ := hS _ _ _ _ _ _ _ f1 st (Or.inr (Or.inr ⟨by rw [show w + 1 - 1 = w from rfl, s6]; exact hcode.2.2.2, by rw [show w + 1 - 1 = w from rfl, s6, hbs]; omega⟩)) (fun h => s9 (by omega)) (by omega)
  refine ⟨T2, D2, r1, ?_⟩
  rcases r2 with ⟨i', M', q1, q2, q3, q4, q5⟩ | ⟨i2, d2, e2, w2, f2, M3, oc2, r3, r4⟩
  · exact Or.inl ⟨i', M', q1, q2, q3, s1.trans q4, mfr_t o18 (mfr_t s11 q5)⟩
  · obtain ⟨p1, p2, p3, p4, p5, p6, p7, p8, p9, p10, p11, p12, p13, p14, p15, p16, p17, p18, p19⟩ := oc2
    have hd2 : d2 < 80 := by omega
    refine Or.inr ⟨i2, d2, e2, w2, f2, M3, sgn_e p4.1 hd2 _, ⟨p1, by omega, p3, dfc_p p4 hcode.1 (by rw [hcode.2.1, p7, o7]; omega), by omega, fun j hj => ?_, ?_, p8, by omega, by omega, fun j hj => ?_, fun t ht => ?_, fun j hj => ?_, fun j hj => ?_, fun h4 => ?_, p16, p17, mfr_t o18 (mfr_t s11 p18), p19⟩, by omega, fun q3 => ?_, r3, s1.trans r4⟩
    · rw [pD_1, upd_n (by omega), p6 j (by omega), o6 j hj]
    · rw [dpt_s, hcode.2.1, if_neg (by decide), if_neg (by decide), p7, o7]; omega
    · rw [pD_1, upd_n (by omega)]; exact p11 j hj
    · by_cases q : t < w2 - (w + 1)
      · obtain ⟨g1, g2, g3⟩ := p12 t q
        refine ⟨g1, by omega, ?_⟩
        rw [pD_1, upd_n (by omega)]; exact g3
      · have et : w2 - 1 - t = w := by omega
        rw [et, p13 w (by omega), s6, hbs]
        refine ⟨hcode.2.2.2, Nat.le_refl b, ?_⟩
        rw [show e2 + t = d2 by omega, pD_1, upd_s]
        exact hcode.2.2.1
    · rw [p13 j (by omega), s5 j hj, o13 j hj]
    · rw [p14 j hj, s7 j hj, o14 j hj]
    · rw [p15 (by omega), s10 h4, o15 h4]
    · rw [p15 (by omega), s8 q3]
/-- a part that is read, and then signs of one strength with what is behind them -/
theorem lp {n : Nat} {v : Nat → Int32} {k b : Nat} {sub : ST → ST → Option (ST × ST)} (hn : n ≤ 80) (hb : b = 1 ∨ b = 2 ∨ b = 4 ∨ b = 5) (hS : SX n v k (b + 1) sub) {W : Nat → Int32 → ST → ST → Option (ST × ST)} (hW0 : ∀ f y T Dr i, tpc n v T i 1 → y < 80 → W (f + 1) (nI y) T Dr = some (T, Dr)) (hWn : ∀ f y T Dr i, tpc n v T i 0 → i ≤ n → y < 80 → ¬ (i < n ∧ bs (v i) = b) → W (f + 1) (nI y) T Dr = some (T, Dr)) (hWc : ∀ f y T Dr i, tpc n v T i 0 → y < 80 → i < n → bs (v i) = b → W (f + 1) (nI y) T Dr = dc_b2 (sub (sti T 0 3 (nI (i + 1))) Dr) (fun T2 D2 => dc_b1 (fX3_putSign (v i) D2) (fun D3 => W f (nI (y + 1)) T2 D3))) {Dr M : ST} {i d w lv : Nat} (hk : k ≤ 5) (hlv : lv ≤ k) (h5 : M 5 = v) (ht : topc M w b) : ∀ (r i1 y g f1 d1 e1 w1 : Nat) (T1 D1 M1 : ST), OC n v b (b + 1) T1 D1 Dr M i d w lv k i1 d1 e1 w1 M1 → n - i1 ≤ r → r < g → y < i1 → n - i1 < f1 → ∃ T' Dr', W g (nI y) T1 D1 = some (T', Dr') ∧ (FT n v T' Dr' M (fX8_text_41 f1 (nI n) 1 (nI i1) M1) ∨ ∃ i' d' e' w' f' M', OC n v b b T' Dr' Dr M i d w lv k i' d' e' w' M' ∧ n - i' < f' ∧ fX8_text_41 f1 (nI n) 1 (nI i1) M1 = fX8_text_41 f' (nI n) 1 (nI i') M') := by
  intro r
  induction r with
  | zero =>
    intro i1 y g f1 d1 e1 w1 T1 D1 M1 oc hr hg hy hf
    obtain ⟨g, rfl⟩ : ∃ f', g = f' + 1 := ⟨g - 1, by omega⟩
    have oc' := oc
    obtain ⟨o1, o2, o3, o4, o5, o6, o7, o8, o9, o10, o11, o12, o13, o14, o15, o16, o17, o18, o19⟩ := oc'
    refine ⟨T1, D1, hWn g y T1 D1 i1 o1 o3 (by omega) (fun z => by omega), Or.inr ⟨i1, d1, e1, w1, f1, M1, ⟨o1, o2, o3, o4, o5, o6, o7, o8, o9, o10, o11, o12, o13, o14, o15, o16, o17, o18, fun z => by omega⟩, hf, rfl⟩⟩
  | succ r ih =>
    intro i1 y g f1 d1 e1 w1 T1 D1 M1 oc hr hg hy hf
    obtain ⟨g, rfl⟩ : ∃ f', g = f' + 1 := ⟨g - 1, by omega⟩
    have oc' := oc
    obtain ⟨o1, o2, o3, o4, o5, o6, o7, o8, o9, o10, o11, o12, o13, o14, o15, o16, o17, o18, o19⟩ := oc'
    by_cases q : i1 < n ∧ bs (v i1) = b
    · obtain ⟨T2, D2, r1, r2⟩ := iter hn (by omega) (by omega) hS hk hlv h5 ht oc q.1 q.2 (fun h => by omega) hf
      rw [hWc g y T1 D1 i1 o1 (by omega) q.1 q.2, r1, b2s]
      rcases r2 with ⟨i', M', q1, q2, q3, q4, q5⟩ | ⟨i2, d2, e2, w2, f2, M3, p1, p2, p3, -, p5, p6⟩
      · obtain ⟨D3, s1, s2⟩ := sgn_s q3 (v i1)
        obtain ⟨g, rfl⟩ : ∃ f', g = f' + 1 := ⟨g - 1, by omega⟩
        rw [s1, b1s]
        by_cases hy' : y + 1 < 80
        · exact ⟨T2, D3, hW0 g (y + 1) T2 D3 i' q1 hy', Or.inl ⟨i', M', q1, q2, s2, q4, q5⟩⟩
        · omega
      · rw [p1, b1s, p6]
        exact ih i2 (y + 1) g f2 (d2 + 1) e2 w2 T2 _ M3 p2 (by omega) (by omega) (by omega) p5
    · refine ⟨T1, D1, hWn g y T1 D1 i1 o1 o3 (by omega) q, Or.inr ⟨i1, d1, e1, w1, f1, M1, ⟨o1, o2, o3, o4, o5, o6, o7, o8, o9, o10, o11, o12, o13, o14, o15, o16, o17, o18, fun z c => ?_⟩, hf, rfl⟩⟩
      by_cases q2 : bs (v i1) = b
      · exact q ⟨z, q2⟩
      · exact o19 z ⟨c.1, by have := c.2.1; omega, c.2.2⟩
theorem OC_up {n : Nat} {v : Nat → Int32} {b : Nat} {T' Dr' Dr M M' : ST} {i d w lv k i' d' e' w' : Nat} (h : OC n v (b + 1) (b + 1) T' Dr' Dr M i d w lv k i' d' e' w' M') : OC n v b (b + 1) T' Dr' Dr M i d w lv k i' d' e' w' M' := by
  obtain ⟨o1, o2, o3, o4, o5, o6, o7, o8, o9, o10, o11, o12, o13, o14, o15, o16, o17, o18, o19⟩ := h
  exact ⟨o1, o2, o3, o4, o5, o6, o7, o8, o9, o10, o11, fun t ht => ⟨(o12 t ht).1, by have := (o12 t ht).2.1; omega, (o12 t ht).2.2⟩, o13, o14, fun h4 => o15 (by omega), o16, o17, o18, o19⟩
theorem topc_up {M : ST} {w b : Nat} (h : topc M w b) : topc M w (b + 1) := by
  rcases h with q | q | q
  · exact Or.inl q
  · exact Or.inr (Or.inl q)
  · exact Or.inr (Or.inr ⟨q.1, by omega⟩)
theorem SX_lp {n : Nat} {v : Nat → Int32} {k b : Nat} {sub : ST → ST → Option (ST × ST)} (hn : n ≤ 80) (hb : b = 1 ∨ b = 2 ∨ b = 4 ∨ b = 5) (hS : SX n v k (b + 1) sub) {W : Nat → Int32 → ST → ST → Option (ST × ST)} (hW0 : ∀ f y T Dr i, tpc n v T i 1 → y < 80 → W (f + 1) (nI y) T Dr = some (T, Dr)) (hWn : ∀ f y T Dr i, tpc n v T i 0 → i ≤ n → y < 80 → ¬ (i < n ∧ bs (v i) = b) → W (f + 1) (nI y) T Dr = some (T, Dr)) (hWc : ∀ f y T Dr i, tpc n v T i 0 → y < 80 → i < n → bs (v i) = b → W (f + 1) (nI y) T Dr = dc_b2 (sub (sti T 0 3 (nI (i + 1))) Dr) (fun T2 D2 => dc_b1 (fX3_putSign (v i) D2) (fun D3 => W f (nI (y + 1)) T2 D3))) : SX n v k b (fun T Dr => dc_b2 (sub T Dr) (fun T1 D1 => W 400 0 T1 D1)) := by
  intro T Dr M i d w lv f h0 ht h3 hf
  obtain ⟨T1, D1, r1, r2⟩ := hS T Dr M i d w lv f h0 (topc_up ht) (fun h => h3 (by omega)) hf
  show ∃ T' Dr', dc_b2 (sub T Dr) (fun T1 D1 => W 400 0 T1 D1) = some (T', Dr') ∧ _
  rw [r1, b2s]
  rcases r2 with ⟨i', M', q1, q2, q3, q4, q5⟩ | ⟨i1, d1, e1, w1, f1, M1, oc, p1, p2⟩
  · exact ⟨T1, D1, hW0 399 0 T1 D1 i' q1 (by omega), Or.inl ⟨i', M', q1, q2, q3, q4, q5⟩⟩
  · rw [p2]
    exact lp hn hb hS hW0 hWn hWc h0.2.2.2.2.2.2.2.2.1 h0.2.2.2.2.2.2.2.1 h0.2.2.2.2.2.1 ht n i1 0 400 f1 d1 e1 w1 T1 D1 M1 (OC_up oc) (by omega) (by omega) (by have := oc.2.1; omega) p1
/-- a comparison, or none -/
theorem SX_3 {n : Nat} {v : Nat → Int32} {k : Nat} {sub rb : ST → ST → Option (ST × ST)} (hn : n ≤ 80) (hS : SX n v k 4 sub) {W : ST → ST → Option (ST × ST)} (hrb : ∀ T Dr, rb T Dr = dc_b2 (sub T Dr) (fun T1 D1 => W T1 D1)) (hW0 : ∀ T Dr i, tpc n v T i 1 → W T Dr = some (T, Dr)) (hWn : ∀ T Dr i, tpc n v T i 0 → i ≤ n → ¬ (i < n ∧ bs (v i) = 3) → W T Dr = some (T, Dr)) (hWc : ∀ T Dr i, tpc n v T i 0 → i < n → bs (v i) = 3 → W T Dr = dc_b2 (sub (sti T 0 3 (nI (i + 1))) Dr) (fun T2 D2 => dc_b1 (fX3_putSign (v i) D2) (fun D3 => some (T2, D3)))) : SX n v k 3 rb := by
  intro T Dr M i d w lv f h0 ht h3 hf
  obtain ⟨T1, D1, r1, r2⟩ := hS T Dr M i d w lv f h0 (topc_up ht) (fun h => by omega) hf
  rw [hrb, r1, b2s]
  rcases r2 with ⟨i', M', q1, q2, q3, q4, q5⟩ | ⟨i1, d1, e1, w1, f1, M1, oc, p1, p2⟩
  · exact ⟨T1, D1, hW0 T1 D1 i' q1, Or.inl ⟨i', M', q1, q2, q3, q4, q5⟩⟩
  · have fl0 : M1 23 lv = 0 := by rw [oc.2.2.2.2.2.2.2.2.2.2.2.2.2.2.1 (by omega)]; exact h3 (by omega)
    have ocu := OC_up (b := 3) oc
    have ocu' := ocu
    obtain ⟨o1, o2, o3, o4, o5, o6, o7, o8, o9, o10, o11, o12, o13, o14, o15, o16, o17, o18, o19⟩ := ocu'
    by_cases q : i1 < n ∧ bs (v i1) = 3
    · obtain ⟨T2, D2, s1, s2⟩ := iter (b := 3) hn (by omega) (by omega) hS h0.2.2.2.2.2.2.2.2.1 h0.2.2.2.2.2.2.2.1 h0.2.2.2.2.2.1 ht ocu q.1 q.2 (fun _ => fl0) p1
      rw [hWc T1 D1 i1 o1 q.1 q.2, s1, b2s, p2]
      rcases s2 with ⟨i', M', q1, q2, q3, q4, q5⟩ | ⟨i2, d2, e2, w2, f2, M3, y1, y2, y3, y4, y5, y6⟩
      · obtain ⟨D3, t1, t2⟩ := sgn_s q3 (v i1)
        rw [t1, b1s]
        exact ⟨T2, D3, rfl, Or.inl ⟨i', M', q1, q2, t2, q4, q5⟩⟩
      · rw [y1, b1s]
        obtain ⟨x1, x2, x3, x4, x5, x6, x7, x8, x9, x10, x11, x12, x13, x14, x15, x16, x17, x18, x19⟩ := y2
        refine ⟨T2, _, rfl, Or.inr ⟨i2, d2 + 1, e2, w2, f2, M3, ⟨x1, x2, x3, x4, x5, x6, x7, x8, x9, x10, x11, x12, x13, x14, x15, x16, x17, x18, fun z c => ?_⟩, y5, y6⟩⟩
        by_cases g : bs (v i2) = 3
        · exact c.2.2 ⟨g, by rw [y4 rfl]; decide⟩
        · exact x19 z ⟨c.1, by have := c.2.1; omega, c.2.2⟩
    · rw [hWn T1 D1 i1 o1 o3 q]
      refine ⟨T1, D1, rfl, Or.inr ⟨i1, d1, e1, w1, f1, M1, ⟨o1, o2, o3, o4, o5, o6, o7, o8, o9, o10, o11, o12, o13, o14, o15, o16, o17, o18, fun z c => ?_⟩, p1, p2⟩⟩
      by_cases g : bs (v i1) = 3
      · exact q ⟨z, g⟩
      · exact o19 z ⟨c.1, by have := c.2.1; omega, c.2.2⟩
