-- pact
def two (F : ST) (n : Nat) : Prop := ∃ i j, i < j ∧ j < n ∧ bt (F 0 5) i = false ∧ bt (F 0 5) j = false
theorem cnt_ge1 {P : Nat → Bool} {i : Nat} (hp : P i = true) : ∀ k, i < k → 1 ≤ cnt P k := by
  intro k
  induction k with
  | zero => intro h; omega
  | succ k ih =>
    intro h
    unfold cnt
    by_cases e : i = k
    · rw [← e, hp]; simp
    · have := ih (by omega)
      cases P k <;> simp <;> omega
theorem cnt_ge2 {P : Nat → Bool} {i j : Nat} (hij : i < j) (hi : P i = true) (hj : P j = true) : ∀ k, j < k → 2 ≤ cnt P k := by
  intro k
  induction k with
  | zero => intro h; omega
  | succ k ih =>
    intro h
    unfold cnt
    by_cases e : j = k
    · have := cnt_ge1 hi k (by omega)
      rw [← e] at this ⊢
      rw [hj]; simp; omega
    · have := ih (by omega)
      cases P k <;> simp <;> omega
theorem cnt_no {P : Nat → Bool} : ∀ k, (∀ i, i < k → P i = false) → cnt P k = 0 := by
  intro k
  induction k with
  | zero => intro _; rfl
  | succ k ih =>
    intro h
    unfold cnt
    rw [ih (fun i hi => h i (by omega)), h k (by omega)]
    rfl
theorem cnt_le1 {P : Nat → Bool} : ∀ k, (∀ i j, i < j → j < k → ¬ (P i = true ∧ P j = true)) → cnt P k ≤ 1 := by
  intro k
  induction k with
  | zero => intro _; exact Nat.zero_le _
  | succ k ih =>
    intro h
    unfold cnt
    cases hp : P k
    · have := ih (fun i j h1 h2 => h i j h1 (by omega))
      simp; omega
    · have := cnt_no (P := P) k (fun i hi => by
        cases hq : P i
        · rfl
        · exact absurd ⟨hq, hp⟩ (h i k hi (by omega)))
      rw [this]; simp
theorem two_iff {F : ST} {n : Nat} (hn : n ≤ 10) (hF : F 0 0 = nI n) : two F n ↔ 2 ≤ aliveN F := by
  unfold aliveN
  constructor
  · rintro ⟨i, j, h1, h2, h3, h4⟩
    exact cnt_ge2 h1 (by rw [alive_b hn hF (by omega), decide_eq_true (by omega), h3]; rfl) (by rw [alive_b hn hF (by omega), decide_eq_true h2, h4]; rfl) 10 (by omega)
  · intro h
    by_cases ht : two F n
    · exact ht
    · have := cnt_le1 (P := bt (aliveG F)) 10 (fun i j h1 h2 ⟨p1, p2⟩ => by
        rw [alive_b hn hF (by omega), Bool.and_eq_true, decide_eq_true_iff] at p1 p2
        refine ht ⟨i, j, h1, p2.1, ?_, ?_⟩
        · cases hb : bt (F 0 5) i
          · rfl
          · rw [hb] at p1; exact absurd p1.2 (by decide)
        · cases hb : bt (F 0 5) j
          · rfl
          · rw [hb] at p2; exact absurd p2.2 (by decide))
      omega
theorem pc_in {F Sc Se M0 Ma : ST} {x0 : S3} {n a N i : Nat} (h : ctx F Sc Se M0 n a) (w1 : M0 0 9 = -1) (w2 : M0 0 10 = -1) (fl : M0 0 12 = 0) (hN : N ≤ 200) (a0 : agS Se x0.1) (c0 : ∀ b, b ≠ 2 → x0.2.1 b = Sc b) (k0 : x0.1 0 8 = -1 ∧ x0.1 0 9 = -1) (hi : i < n) (k70 : Int32 → Int32 → Int32 → Int32 → ST → ST → ST → ST → ST → Option (Int32 × ST × ST × ST × ST × ST)) (k26 : Int32 → Int32 → Int32 → Int32 → ST → Option (Int32 × ST)) : ∀ (r j f g : Nat) (b m : Int32) (C T Ch U M : ST), j + r = n → r < f → r < g → i < j → PS F Sc M0 x0 N C Ch M → (b = -1 ∨ (0 ≤ b ∧ two F n)) → ∃ (b' m' : Int32) (C' T' Ch' U' M' : ST), fX7_pact_91 F Se k70 f (nI N) b m (nI i) (nI j) Ma C T Ch U = k70 (nI N) b' m' (nI (i + 1)) Ma C' T' Ch' U' ∧ fX8_pact_43 k26 g (nI N) b m (nI i) (nI j) M = k26 (nI N) b' m' (nI (i + 1)) M' ∧ PS F Sc M0 x0 N C' Ch' M' ∧ (b' = -1 ∨ (0 ≤ b' ∧ two F n)) ∧ (b' = -1 → b = -1 ∧ ∀ j', j ≤ j' → j' < n → ¬ (bt (F 0 5) i = false ∧ bt (F 0 5) j' = false)) := by
  have h' := h
  obtain ⟨hn, hF, a1, a4, hA, hc0, hiF, -⟩ := h'
  intro r
  induction r with
  | zero =>
    intro j f g b m C T Ch U M hj hf hg hij ps hb
    obtain ⟨f, rfl⟩ : ∃ f', f = f' + 1 := ⟨f - 1, by omega⟩
    obtain ⟨g, rfl⟩ : ∃ f', g = f' + 1 := ⟨g - 1, by omega⟩
    refine ⟨b, m, C, T, Ch, U, M, ?_, ?_, ps, hb, fun e => ⟨e, fun j' h1 h2 => by omega⟩⟩
    · show fX7_pact_91_s F Se k70 (fX7_pact_91 F Se k70 f) _ _ _ _ _ _ _ _ _ _ = _
      unfold fX7_pact_91_s
      rw [hF, if_pos (nI_le (by omega) (by omega)), lts, nI_1]
    · show fX8_pact_43_s k26 (fX8_pact_43 k26 g) _ _ _ _ _ _ = _
      unfold fX8_pact_43_s
      rw [ps.2.1 1 (by decide) (by decide) (by decide), hc0.1.1, hF, if_pos (nI_le (by omega) (by omega)), lts, nI_1]
  | succ r ih =>
    intro j f g b m C T Ch U M hj hf hg hij ps hb
    obtain ⟨f, rfl⟩ : ∃ f', f = f' + 1 := ⟨f - 1, by omega⟩
    obtain ⟨g, rfl⟩ : ∃ f', g = f' + 1 := ⟨g - 1, by omega⟩
    have hjn : j < n := by omega
    have hM : ctx F Sc Se M n a := ctx_fr h (fun _ _ => rfl) (ps.2.1 1 (by decide) (by decide) (by decide))
    have hc := hM.2.2.2.2.2.1
    have E : fX7_pact_91 F Se k70 (f + 1) (nI N) b m (nI i) (nI j) Ma C T Ch U = fX7_pact_91_s F Se k70 (fX7_pact_91 F Se k70 f) (nI N) b m (nI i) (nI j) Ma C T Ch U := rfl
    have E8 : fX8_pact_43 k26 (g + 1) (nI N) b m (nI i) (nI j) M = fX8_pact_43_s k26 (fX8_pact_43 k26 g) (nI N) b m (nI i) (nI j) M := rfl
    rw [E, E8]
    unfold fX7_pact_91_s fX8_pact_43_s
    rw [hF, hc.1.1, hF, if_neg (nI_ge (a := j) (b := n) (by omega) (by omega)), if_neg (nI_ge (a := j) (b := n) (by omega) (by omega)), isAl1 hn hF hi, isAl8 hc (show i < 10 by omega), b1s, b1s]
    have skip : ¬ (bt (F 0 5) i = false ∧ bt (F 0 5) j = false) → ∃ (b' m' : Int32) (C' T' Ch' U' M' : ST), fX7_pact_91 F Se k70 f (nI N) b m (nI i) (nI (j + 1)) Ma C T Ch U = k70 (nI N) b' m' (nI (i + 1)) Ma C' T' Ch' U' ∧ fX8_pact_43 k26 g (nI N) b m (nI i) (nI (j + 1)) M = k26 (nI N) b' m' (nI (i + 1)) M' ∧ PS F Sc M0 x0 N C' Ch' M' ∧ (b' = -1 ∨ (0 ≤ b' ∧ two F n)) ∧ (b' = -1 → b = -1 ∧ ∀ j', j ≤ j' → j' < n → ¬ (bt (F 0 5) i = false ∧ bt (F 0 5) j' = false)) := fun hno => by
      obtain ⟨b', m', C', T', Ch', U', M', z1, z2, z3, z4, z5⟩ := ih (j + 1) f g b m C T Ch U M (by omega) (by omega) (by omega) (by omega) ps hb
      refine ⟨b', m', C', T', Ch', U', M', z1, z2, z3, z4, fun e => ⟨(z5 e).1, fun j' h1 h2 => ?_⟩⟩
      by_cases q : j' = j
      · rw [q]; exact hno
      · exact (z5 e).2 j' (by omega) h2
    by_cases hd' : bt (F 0 5) i = true
    · rw [if_pos hd', i00, i00, lts, lts, nI_1]
      exact skip (fun z => absurd (hd'.symm.trans z.1) (by decide))
    have hd : bt (F 0 5) i = false := Bool.eq_false_iff.mpr hd'
    rw [if_neg hd', i10, i10, isAl1 hn hF hjn, isAl8 hc (show j < 10 by omega), b1s, b1s]
    by_cases hd2' : bt (F 0 5) j = true
    · rw [if_pos hd2', i00, i00, lts, lts, nI_1]
      exact skip (fun z => absurd (hd2'.symm.trans z.2) (by decide))
    have hd2 : bt (F 0 5) j = false := Bool.eq_false_iff.mpr hd2'
    rw [if_neg hd2', i10, i10]
    have htwo : two F n := ⟨i, j, hij, hjn, hd, hd2⟩
    obtain ⟨u, hu, eu⟩ := (hiF.1 i (by omega)).2.2
    obtain ⟨v, hv, ev⟩ := (hiF.1 j (by omega)).2.2
    obtain ⟨U1, U2, Ch', C', T', U', M1, M2, r1, r2, e1, e2, e3, e4, e5, e6, e7, -, ps'⟩ := pair_e (U := U) (T := T) h w1 w2 fl hN a0 c0 k0 hi hjn (by omega) hu eu hv ev ps
    rw [e1, b1s, e2, b1s, e3, b4s, e4, b1s, e5, b1s, e6, b2s, e7, b2s]
    simp only [lts]
    rw [nI_1]
    have e10 : 10 * nI i + nI j = nI (10 * i + j) := by rw [show (10 : Int32) = nI 10 from rfl, pk_mul, nI_add]
    have up : ∃ (b' m' : Int32) (C'' T'' Ch'' U'' M'' : ST), fX7_pact_197 F Se k70 (fX7_pact_91 F Se k70 f) (nI N) (nI i) (nI j) (r1 + r2) Ma C' T' Ch' U' = k70 (nI N) b' m' (nI (i + 1)) Ma C'' T'' Ch'' U'' ∧ fX8_pact_103 k26 (fX8_pact_43 k26 g) (nI N) (nI i) (nI j) (r1 + r2) M2 = k26 (nI N) b' m' (nI (i + 1)) M'' ∧ PS F Sc M0 x0 N C'' Ch'' M'' ∧ (b' = -1 ∨ (0 ≤ b' ∧ two F n)) ∧ (b' = -1 → b = -1 ∧ ∀ j', j ≤ j' → j' < n → ¬ (bt (F 0 5) i = false ∧ bt (F 0 5) j' = false)) := by
      unfold fX7_pact_197 fX8_pact_103
      simp only [lts]
      rw [e10, nI_1]
      obtain ⟨b', m', C'', T'', Ch'', U'', M'', z1, z2, z3, z4, z5⟩ := ih (j + 1) f g (nI (10 * i + j)) (r1 + r2) C' T' Ch' U' M2 (by omega) (by omega) (by omega) (by omega) ps' (Or.inr ⟨nI_pos' (by omega), htwo⟩)
      exact ⟨b', m', C'', T'', Ch'', U'', M'', z1, z2, z3, z4, fun e => absurd (z5 e).1 (nI_m1 (by omega))⟩
    rcases hb with eb | ⟨eb, et⟩
    · rw [if_pos eb, if_pos (show b < 0 by rw [eb]; exact m1_lt)]
      exact up
    · have nb : ¬ b = -1 := fun e => by rw [e] at eb; exact m1_nle eb
      have nb2 : ¬ b < 0 := fun e => (fa_of_lt e).2.1 eb
      rw [if_neg nb, if_neg nb2]
      by_cases hv : r1 + r2 ≤ m
      · rw [if_pos hv, if_pos hv]
        obtain ⟨b', m', C'', T'', Ch'', U'', M'', z1, z2, z3, z4, z5⟩ := ih (j + 1) f g b m C' T' Ch' U' M2 (by omega) (by omega) (by omega) (by omega) ps' (Or.inr ⟨eb, et⟩)
        exact ⟨b', m', C'', T'', Ch'', U'', M'', z1, z2, z3, z4, fun e => absurd (z5 e).1 nb⟩
      · rw [if_neg hv, if_neg hv]
        exact up
theorem pc_out {F Sc Se M0 Ma : ST} {x0 : S3} {n a N : Nat} (h : ctx F Sc Se M0 n a) (w1 : M0 0 9 = -1) (w2 : M0 0 10 = -1) (fl : M0 0 12 = 0) (hN : N ≤ 200) (a0 : agS Se x0.1) (c0 : ∀ b, b ≠ 2 → x0.2.1 b = Sc b) (k0 : x0.1 0 8 = -1 ∧ x0.1 0 9 = -1) : ∀ (r i f g : Nat) (b m : Int32) (C T Ch U M : ST), i + r = n → r < f → r < g → PS F Sc M0 x0 N C Ch M → (b = -1 ∨ (0 ≤ b ∧ two F n)) → ∃ (b' : Int32) (C' T' Ch' U' M' : ST), fX7_pact_70 F Se f (nI N) b m (nI i) Ma C T Ch U = some (b', Ma, C', T', Ch', U') ∧ fX8_pact_26 g (nI N) b m (nI i) M = (if 0 ≤ b' then some (b', M') else dc_b2 (fX8_finds (-1000000004) M') (fun r6 M_7 => some (r6, M_7))) ∧ PS F Sc M0 x0 N C' Ch' M' ∧ (b' = -1 ∨ (0 ≤ b' ∧ two F n)) ∧ (b' = -1 → b = -1 ∧ ∀ i' j', i ≤ i' → i' < j' → j' < n → ¬ (bt (F 0 5) i' = false ∧ bt (F 0 5) j' = false)) := by
  have h' := h
  obtain ⟨hn, hF, a1, a4, hA, hc0, hiF, -⟩ := h'
  intro r
  induction r with
  | zero =>
    intro i f g b m C T Ch U M hi hf hg ps hb
    obtain ⟨f, rfl⟩ : ∃ f', f = f' + 1 := ⟨f - 1, by omega⟩
    obtain ⟨g, rfl⟩ : ∃ f', g = f' + 1 := ⟨g - 1, by omega⟩
    refine ⟨b, C, T, Ch, U, M, ?_, ?_, ps, hb, fun e => ⟨e, fun i' j' h1 h2 h3 => by omega⟩⟩
    · show fX7_pact_70_s F Se (fX7_pact_70 F Se f) _ _ _ _ _ _ _ _ _ = _
      unfold fX7_pact_70_s
      rw [hF, if_pos (nI_le (by omega) (by omega))]
    · show fX8_pact_26_s (fX8_pact_26 g) _ _ _ _ _ = _
      unfold fX8_pact_26_s
      rw [ps.2.1 1 (by decide) (by decide) (by decide), hc0.1.1, hF, if_pos (nI_le (by omega) (by omega))]
  | succ r ih =>
    intro i f g b m C T Ch U M hi hf hg ps hb
    obtain ⟨f, rfl⟩ : ∃ f', f = f' + 1 := ⟨f - 1, by omega⟩
    obtain ⟨g, rfl⟩ : ∃ f', g = f' + 1 := ⟨g - 1, by omega⟩
    have E : fX7_pact_70 F Se (f + 1) (nI N) b m (nI i) Ma C T Ch U = fX7_pact_70_s F Se (fX7_pact_70 F Se f) (nI N) b m (nI i) Ma C T Ch U := rfl
    have E8 : fX8_pact_26 (g + 1) (nI N) b m (nI i) M = fX8_pact_26_s (fX8_pact_26 g) (nI N) b m (nI i) M := rfl
    rw [E, E8]
    unfold fX7_pact_70_s fX8_pact_26_s
    rw [hF, ps.2.1 1 (by decide) (by decide) (by decide), hc0.1.1, hF, if_neg (nI_ge (a := i) (b := n) (by omega) (by omega)), if_neg (nI_ge (a := i) (b := n) (by omega) (by omega)), lts, lts, nI_1]
    obtain ⟨b', m', C', T', Ch', U', M', z1, z2, z3, z4, z5⟩ := pc_in (Ma := Ma) h w1 w2 fl hN a0 c0 k0 (show i < n by omega) (fX7_pact_70 F Se f) (fX8_pact_26 g) r (i + 1) 400 400 b m C T Ch U M (by omega) (by omega) (by omega) (by omega) ps hb
    rw [z1, z2]
    obtain ⟨b2, C2, T2, Ch2, U2, M2, y1, y2, y3, y4, y5⟩ := ih (i + 1) f g b' m' C' T' Ch' U' M' (by omega) (by omega) (by omega) z3 z4
    refine ⟨b2, C2, T2, Ch2, U2, M2, y1, y2, y3, y4, fun e => ⟨(z5 (y5 e).1).1, fun i' j' h1 h2 h3 => ?_⟩⟩
    by_cases q : i' = i
    · rw [q]; exact (z5 (y5 e).1).2 j' (by omega) h3
    · exact (y5 e).2 i' j' (by omega) h2 h3
theorem P_pact_ok : P_pact RR := by
  intro x1 Ma Fo Sc Se Tr Ch Us Ta Dr G0 N0 G1 N1 G2 N2 G3 N3 Fo2 Sc2 Se2 Tr2 Fo3 Sc3 Se3 Tr3 M N hR
  obtain ⟨n, a, h⟩ := ctx_of hR.1.1 hR.1.2.1
  have h' := h
  obtain ⟨hn, hF, a1, a4, hA, hc, hiF, hiR, hiL, hiC⟩ := h'
  unfold fX7_pact fX8_pact
  rw [within_e, isIn8_e x1 1 40 (by decide) (by decide), b1s, b1s]
  by_cases hz : x1 < 1 ∨ 40 < x1
  · rw [if_pos hz, i00, i00, fd7_0, fd8_0, b2s, b2s]
    exact ⟨_, _, _, _, _, _, _, rfl, rfl, RR_f hR 0 (by decide)⟩
  rw [if_neg hz, i10, i10]
  obtain ⟨m, m1, m2, rfl⟩ := in_1k 40 (by decide) hz
  rw [show fX1_alive Fo = some (aliveG Fo) from rfl, b1s, bcAlive hn hF, b1s]
  obtain ⟨-, -, -, -, w1, w2, fl⟩ := hR.1
  obtain ⟨U, K, u1, u2, u3, u4, u5, u6, u8, u9⟩ := trial hR h Ch Us
  obtain ⟨Ch', c1, c2, c3⟩ := tal_e (x := (U, Sc, Tr)) (N := m) u3 u4 (by omega) Ch
  have c1' : fX0_tally (nI m) Ch Fo Sc Tr U = some (Ch', (itS Fo (U, Sc, Tr) m).2.1, (itS Fo (U, Sc, Tr) m).2.2, (itS Fo (U, Sc, Tr) m).1) := c1
  obtain ⟨Ch2, d1, d2⟩ := nw_e Fo Ch'
  have f := (it_ok (x := (U, Sc, Tr)) u3 u4 m).2.2
  have cw : ∀ t, sm (fun s => Ch' 3 s * Fo 8 (4 * s + t)) 4 = WW Fo (U, Sc, Tr) t m := fun t => by
    show _ = sm (fun j => wv Fo (itR Fo (U, Sc, Tr) j) t) m
    rw [← tw (fun j _ => it_rs (x := (U, Sc, Tr)) u3 u4 j)]
    exact sm_cong 4 (fun s hs => by rw [c3 s hs])
  obtain ⟨b', C', T', Ch3, U', M', z1, z2, z3, z4, z5⟩ := pc_out (Ma := Ma) (x0 := (U, Sc, Tr)) h w1 w2 fl (show m ≤ 200 by omega) u6 (fun _ _ => rfl) ⟨u8, u9⟩ n 0 400 400 (-1) 0 (itS Fo (U, Sc, Tr) m).2.1 (itS Fo (U, Sc, Tr) m).2.2 Ch2 (itS Fo (U, Sc, Tr) m).1 M (by omega) (by omega) (by omega) ⟨f.1, fun _ _ _ _ => rfl, fun t ht => by rw [d2 t ht, cw t]⟩ (Or.inl rfl)
  have z1' : fX7_pact_70 Fo Se 400 (nI m) (-1) 0 0 Ma (itS Fo (U, Sc, Tr) m).2.1 (itS Fo (U, Sc, Tr) m).2.2 Ch2 (itS Fo (U, Sc, Tr) m).1 = some (b', Ma, C', T', Ch3, U') := z1
  have z2' : fX8_pact_26 400 (nI m) (-1) 0 0 M = (if 0 ≤ b' then some (b', M') else dc_b2 (fX8_finds (-1000000004) M') (fun r6 M_7 => some (r6, M_7))) := z2
  rw [z2', u1, b1s, c1', b4s, d1, b1s, z1']
  have hal : aliveN Fo ≤ 10 := cnt_le _ 10
  by_cases ht : 2 ≤ aliveN Fo
  · rw [if_pos (show (2 : Int32) ≤ nI (aliveN Fo) from nI_le (a := 2) ht (by omega))]
    have hb : 0 ≤ b' := by
      rcases z4 with z4 | z4
      · exfalso
        obtain ⟨i, j, h1, h2, h3, h4⟩ := (two_iff hn hF).mpr ht
        exact (z5 z4).2 i j (by omega) h1 h2 ⟨h3, h4⟩
      · exact z4.1
    rw [if_pos hb]
    exact ⟨_, _, _, _, _, _, _, rfl, rfl, RR_st hR z3.1 (fun b hb => z3.2.1 b (by omega) (by omega) (by omega))⟩
  · rw [if_neg (show ¬ (2 : Int32) ≤ nI (aliveN Fo) from nI_ge (b := 2) (by omega) (by decide))]
    have hb : ¬ 0 ≤ b' := fun hb => by
      rcases z4 with z4 | z4
      · rw [z4] at hb; exact m1_nle hb
      · exact ht ((two_iff hn hF).mp z4.2)
    rw [if_neg hb, fd7_3, fd8_3, b2s, b2s]
    have hR' : RR Ma Fo Sc Se Tr Ch Us Ta Dr G0 N0 G1 N1 G2 N2 G3 N3 Fo2 Sc2 Se2 Tr2 Fo3 Sc3 Se3 Tr3 M' N := RR_st hR (fun _ _ => rfl) (fun b hb => z3.2.1 b (by omega) (by omega) (by omega))
    exact ⟨_, _, _, _, _, _, _, rfl, rfl, RR_f hR' 3 (by decide)⟩
