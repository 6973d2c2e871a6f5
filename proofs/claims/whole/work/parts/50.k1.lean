-- come, of, follows, ahead
theorem RR_nx {Ma Fo Sc Se Tr Ch Us Ta Dr G0 : ST} {N0 : LT} {G1 : ST} {N1 : LT} {G2 : ST} {N2 : LT} {G3 : ST} {N3 : LT} {Fo2 Sc2 Se2 Tr2 Fo3 Sc3 Se3 Tr3 M : ST} {N : LT} (hR : RR Ma Fo Sc Se Tr Ch Us Ta Dr G0 N0 G1 N1 G2 N2 G3 N3 Fo2 Sc2 Se2 Tr2 Fo3 Sc3 Se3 Tr3 M N) {C' S' Tr' M' : ST} {n a : Nat} (h : ctx Fo C' S' M' n a) (f : frN2 Sc Se M C' S' M') : RR Ma Fo C' S' Tr' Ch Us Ta Dr G0 N0 G1 N1 G2 N2 G3 N3 Fo2 Sc2 Se2 Tr2 Fo3 Sc3 Se3 Tr3 M' N := by
  obtain ⟨⟨hc, hi, k8, k9, hk⟩, h2, h3, h4, h5⟩ := hR
  have hM : ∀ b, b ≠ 1 → b ≠ 12 → b ≠ 26 → M' b = M b := f.2.1
  refine ⟨⟨(ctx_inv h).1, (ctx_inv h).2, f.2.2.2.1.trans k8, f.2.2.2.2.1.trans k9, ?_⟩, ?_, ?_, ?_, ?_⟩
  · rw [hM 0 (by decide) (by decide) (by decide)]; exact hk
  · rw [hM 0 (by decide) (by decide) (by decide), hM 2 (by decide) (by decide) (by decide)]; exact h2
  · rw [hM 4 (by decide) (by decide) (by decide)]; exact h3
  · rw [hM 0 (by decide) (by decide) (by decide), hM 5 (by decide) (by decide) (by decide)]; exact h4
  · rw [hM 7 (by decide) (by decide) (by decide), hM 8 (by decide) (by decide) (by decide)]; exact h5
theorem P_come_ok : P_come RR := by
  intro Ma Fo Sc Se Tr Ch Us Ta Dr G0 N0 G1 N1 G2 N2 G3 N3 Fo2 Sc2 Se2 Tr2 Fo3 Sc3 Se3 Tr3 M N hR
  obtain ⟨n, a, h⟩ := ctx_of hR.1.1 hR.1.2.1
  obtain ⟨r, C', S', Tr', M', e1, e2, e3, e4, -, -⟩ := nxto h (RR_lvl hR hR.1.2.2.1 hR.1.2.2.2.1 rfl) Tr
  refine ⟨r, C', S', Tr', M', ?_, ?_, RR_nx hR e3 e4⟩
  · unfold fX7_come
    rw [e1, b4s]
  · unfold fX8_come
    rw [e2, b2s]
theorem P_follows_ok : P_follows RR := by
  intro x1 x2 Ma Fo Sc Se Tr Ch Us Ta Dr G0 N0 G1 N1 G2 N2 G3 N3 Fo2 Sc2 Se2 Tr2 Fo3 Sc3 Se3 Tr3 M N hR
  obtain ⟨n, a, h⟩ := ctx_of hR.1.1 hR.1.2.1
  have h' := h
  obtain ⟨hn, hF, a1, a4, hA, hc, hiF, hiR, hiL, hiC⟩ := h'
  unfold fX7_follows fX8_follows fX7_follows_16 fX8_follows_16 fX7_follows_55 fX8_follows_49
  rw [fd7_0, fd8_0, fd7_4, fd8_4, b2s, b2s, b2s, b2s, isOne_e hn hF, isP_e (hc.1.1.trans hF), b1s, b1s]
  by_cases hx : x1 < 0 ∨ nI n ≤ x1
  · rw [if_pos hx, i00, i00]
    exact ⟨_, _, _, _, _, rfl, rfl, RR_f hR 0 (by decide)⟩
  rw [if_neg hx, i10, i10, isOne_e hn hF, isP_e (hc.1.1.trans hF), b1s, b1s]
  by_cases hy : x2 < 0 ∨ nI n ≤ x2
  · rw [if_pos hy, i00, i00]
    exact ⟨_, _, _, _, _, rfl, rfl, RR_f hR 0 (by decide)⟩
  rw [if_neg hy, i10, i10]
  obtain ⟨p, hp, rfl⟩ := in_n hn hx
  obtain ⟨q, hq, rfl⟩ := in_n hn hy
  rw [isAl1 hn hF hp, isAl8 hc (by omega), b1s, b1s]
  cases hd : bt (Fo 0 5) p
  · rw [if_neg (show ¬ false = true by decide), i10, i10]
    obtain ⟨g, e, g1, g2⟩ := allow4 h hp
    rw [e, b1s, isIn7_e g (by omega), b1s, may8 h (by omega) (by omega), b1s, ← g1 q hq]
    cases hb : bt g q
    · rw [if10f, i00, i00]
      exact ⟨_, _, _, _, _, rfl, rfl, RR_f hR 4 (by decide)⟩
    · rw [if10t, i10, i10]
      obtain ⟨v, C', Tr', M', f1, f2, f3⟩ := fol h hp hq ((g1 q hq).symm.trans hb) hR.1.2.2.2.2.2.2 Tr
      rw [f1, f2, b3s, b2s]
      exact ⟨_, _, _, _, _, rfl, rfl, RR_st hR f3.1 (fun b hb => f3.2 b (by omega) (by omega))⟩
  · rw [if_pos rfl, i00, i00]
    exact ⟨_, _, _, _, _, rfl, rfl, RR_f hR 4 (by decide)⟩
theorem P_of_ok : P_of RR := by
  intro x1 x2 Ma Fo Sc Se Tr Ch Us Ta Dr G0 N0 G1 N1 G2 N2 G3 N3 Fo2 Sc2 Se2 Tr2 Fo3 Sc3 Se3 Tr3 M N hR
  obtain ⟨n, a, h⟩ := ctx_of hR.1.1 hR.1.2.1
  have h' := h
  obtain ⟨hn, hF, a1, a4, hA, hc, hiF, hiR, hiL, hiC⟩ := h'
  unfold fX7_of fX8_of fX7_of_18 fX8_of_20
  rw [fd7_0, fd8_0, b2s, b2s, isOne_e hn hF, isP_e (hc.1.1.trans hF), b1s, b1s]
  by_cases hx : x1 < 0 ∨ nI n ≤ x1
  · rw [if_pos hx, i00, i00]
    exact ⟨_, _, _, _, _, rfl, rfl, RR_f hR 0 (by decide)⟩
  rw [if_neg hx, i10, i10, within_e, isIn8_e x2 0 7 (by decide) (by decide), b1s, b1s]
  by_cases hy : x2 < 0 ∨ 7 < x2
  · rw [if_pos hy, i00, i00]
    exact ⟨_, _, _, _, _, rfl, rfl, RR_f hR 0 (by decide)⟩
  rw [if_neg hy, i10, i10]
  obtain ⟨p, hp, rfl⟩ := in_n hn hx
  obtain ⟨t, ht, rfl⟩ := in_k 7 (by decide) hy
  have hp10 : p < 10 := by omega
  obtain ⟨d0, d1, d2, d3, d4, d5⟩ := hc.2.2.2.1 p hp10
  have tr : ∀ t, t < 4 → ∃ (r0 : Int32) (Maz Scz Trz Mz : ST), dc_b1 (fX1_trait (nI t) Fo) (fun r24 => dc_ck (nI p) 10 (some ((Fo r24 (Int32.toNatClampNeg (nI p))), Ma, Sc, Tr))) = some (r0, Maz, Scz, Trz) ∧ dc_b1 (fX8_has0 (nI p) (nI t) M) (fun r17 => some (r17, M)) = some (r0, Mz) ∧ RR Maz Fo Scz Se Trz Ch Us Ta Dr G0 N0 G1 N1 G2 N2 G3 N3 Fo2 Sc2 Se2 Tr2 Fo3 Sc3 Se3 Tr3 Mz N := fun t ht => by
    rw [has0_e hp10 (by omega), b1s]
    rcases (show t = 0 ∨ t = 1 ∨ t = 2 ∨ t = 3 by omega) with e | e | e | e
    · subst e
      rw [show fX1_trait (nI 0) Fo = some 2 from rfl, b1s, cks _ (vp_in_nI hp10 (by decide)), nI_clamp (by omega)]
      exact ⟨_, _, _, _, _, rfl, by rw [show 14 + 6 * p + 0 = 14 + 6 * p from rfl, d0], hR⟩
    · subst e
      rw [show fX1_trait (nI 1) Fo = some 3 from rfl, b1s, cks _ (vp_in_nI hp10 (by decide)), nI_clamp (by omega)]
      exact ⟨_, _, _, _, _, rfl, by rw [d1], hR⟩
    · subst e
      rw [show fX1_trait (nI 2) Fo = some 4 from rfl, b1s, cks _ (vp_in_nI hp10 (by decide)), nI_clamp (by omega)]
      exact ⟨_, _, _, _, _, rfl, by rw [d2], hR⟩
    · subst e
      rw [show fX1_trait (nI 3) Fo = some 5 from rfl, b1s, cks _ (vp_in_nI hp10 (by decide)), nI_clamp (by omega)]
      exact ⟨_, _, _, _, _, rfl, by rw [d3], hR⟩
  rcases (show t < 4 ∨ t = 4 ∨ t = 5 ∨ t = 6 ∨ t = 7 by omega) with e | e | e | e | e
  · have ne : ∀ m, 4 ≤ m → m ≤ 7 → ¬ nI t = nI m := fun m h1 h2 q => by
      have := nI_inj (by omega) (by omega) q
      omega
    rw [if_neg (show ¬ nI t = 4 from ne 4 (by decide) (by decide)), if_neg (show ¬ nI t = 5 from ne 5 (by decide) (by decide)), if_neg (show ¬ nI t = 6 from ne 6 (by decide) (by decide)), if_neg (show ¬ nI t = 7 from ne 7 (by decide) (by decide)), if_neg (show ¬ (6 : Int32) ≤ nI t from nI_ge (a := t) (b := 6) (by omega) (by decide))]
    exact tr t e
  · subst e
    rw [if_pos (show nI 4 = 4 from rfl), if_neg (show ¬ (6 : Int32) ≤ nI 4 by decide), has0_e hp10 (by decide), b1s, cks _ (vp_in_nI hp10 (by decide)), nI_clamp (by omega), d4]
    exact ⟨_, _, _, _, _, rfl, rfl, hR⟩
  · subst e
    rw [if_neg (show ¬ nI 5 = 4 by decide), if_pos (show nI 5 = 5 from rfl), if_neg (show ¬ (6 : Int32) ≤ nI 5 by decide), has0_e hp10 (by decide), b1s, d5, isAl1 hn hF hp, b1s]
    cases hd : bt (Fo 0 5) p
    · rw [if_neg (show ¬ false = true by decide), i10]
      exact ⟨_, _, _, _, _, rfl, rfl, hR⟩
    · rw [if_pos rfl, i00]
      exact ⟨_, _, _, _, _, rfl, rfl, hR⟩
  · subst e
    rw [if_neg (show ¬ nI 6 = 4 by decide), if_neg (show ¬ nI 6 = 5 by decide), if_pos (show nI 6 = 6 from rfl), if_pos (show (6 : Int32) ≤ nI 6 by decide), if_pos (show nI 6 = 6 from rfl), pl4 a4 hA, pl8 hc a4 hA, b1s, b1s]
    exact ⟨_, _, _, _, _, rfl, rfl, hR⟩
  · subst e
    obtain ⟨z, C', Tr', M', z1, z2, z3, -⟩ := choo h hp (RR_lvl hR hR.1.2.2.1 hR.1.2.2.2.1 rfl) Tr
    rw [if_neg (show ¬ nI 7 = 4 by decide), if_neg (show ¬ nI 7 = 5 by decide), if_neg (show ¬ nI 7 = 6 by decide), if_pos (show nI 7 = 7 from rfl), if_pos (show (6 : Int32) ≤ nI 7 by decide), if_neg (show ¬ nI 7 = 6 by decide), z1, z2, b3s, b2s]
    exact ⟨_, _, _, _, _, rfl, rfl, RR_st hR z3.1 (fun b hb => z3.2 b (by omega) (by omega))⟩
/-- the last answer -/
def lastR (F : ST) (x : S3) (y : Int32) (k N : Nat) : Int32 := if k < N then itR F x (N - 1) else y
theorem lastR_s {F : ST} {x : S3} {y : Int32} {k N : Nat} (h : k < N) : lastR F x (itR F x k) (k + 1) N = lastR F x y k N := by
  unfold lastR
  rw [if_pos h]
  by_cases q : k + 1 < N
  · rw [if_pos q]
  · rw [if_neg q, show N - 1 = k by omega]
theorem ah7_l {F Se Ch Ma M : ST} {x : S3} {n a N : Nat} (h : ctx F x.2.1 x.1 M n a) (hl : lvl x.1 M n) (hN : N ≤ 200) : ∀ (r k f : Nat) (y : Int32), k + r = N → r < f → fX7_ahead_25 F Se Ch f (nI N) y (nI k) Ma (itS F x k).2.1 (itS F x k).2.2 (itS F x k).1 = some (lastR F x y k N, Ma, (itS F x N).2.1, (itS F x N).2.2, (itS F x N).1) := by
  intro r
  induction r with
  | zero =>
    intro k f y hk hf
    obtain ⟨f, rfl⟩ : ∃ n', f = n' + 1 := ⟨f - 1, by omega⟩
    show fX7_ahead_25_s F Se Ch (fX7_ahead_25 F Se Ch f) _ _ _ _ _ _ _ = _
    unfold fX7_ahead_25_s lastR
    rw [if_pos (nI_le (by omega) (by omega)), if_neg (by omega), show k = N by omega]
  | succ r ih =>
    intro k f y hk hf
    obtain ⟨f, rfl⟩ : ∃ n', f = n' + 1 := ⟨f - 1, by omega⟩
    show fX7_ahead_25_s F Se Ch (fX7_ahead_25 F Se Ch f) _ _ _ _ _ _ _ = _
    unfold fX7_ahead_25_s
    rw [if_neg (nI_ge (by omega) (by omega)), (it_st h hl k).1, b4s, lts, nI_1, ih (k + 1) f _ (by omega) (by omega), lastR_s (y := y) (by omega)]
theorem ah8_l {F M : ST} {x : S3} {n a N : Nat} (h : ctx F x.2.1 x.1 M n a) (hl : lvl x.1 M n) (hN : N ≤ 200) : ∀ (r k f : Nat) (y : Int32), k + r = N → r < f → fX8_ahead_22 f (nI N) y (nI k) (itM M k) = dc_b1 (fX8_laysBack (itM M N)) (fun M_7 => some (lastR F x y k N, M_7)) := by
  intro r
  induction r with
  | zero =>
    intro k f y hk hf
    obtain ⟨f, rfl⟩ : ∃ n', f = n' + 1 := ⟨f - 1, by omega⟩
    show fX8_ahead_22_s (fX8_ahead_22 f) _ _ _ _ = _
    unfold fX8_ahead_22_s lastR
    rw [if_pos (nI_le (by omega) (by omega)), if_neg (by omega), show k = N by omega]
  | succ r ih =>
    intro k f y hk hf
    obtain ⟨f, rfl⟩ : ∃ n', f = n' + 1 := ⟨f - 1, by omega⟩
    show fX8_ahead_22_s (fX8_ahead_22 f) _ _ _ _ = _
    unfold fX8_ahead_22_s
    rw [if_neg (nI_ge (by omega) (by omega)), (it_st h hl k).2.1, b2s, lts, nI_1, ih (k + 1) f _ (by omega) (by omega), lastR_s (y := y) (by omega)]
/-- a trial from as it is, on both sides: what it rests on, and that laying back ends it -/
theorem trial {Ma Fo Sc Se Tr Ch Us Ta Dr G0 : ST} {N0 : LT} {G1 : ST} {N1 : LT} {G2 : ST} {N2 : LT} {G3 : ST} {N3 : LT} {Fo2 Sc2 Se2 Tr2 Fo3 Sc3 Se3 Tr3 M : ST} {N : LT} (hR : RR Ma Fo Sc Se Tr Ch Us Ta Dr G0 N0 G1 N1 G2 N2 G3 N3 Fo2 Sc2 Se2 Tr2 Fo3 Sc3 Se3 Tr3 M N) {n a : Nat} (h : ctx Fo Sc Se M n a) (Ch' Us' : ST) : ∃ (U : ST) (K : Nat → Int32), fX0_start Ch' Se Us' = some U ∧ fX8_laysBy M = some (va_up M 14 K) ∧ ctx Fo Sc U (va_up M 14 K) n a ∧ lvl U (va_up M 14 K) n ∧ (∀ i, i < 74 → K i = M 1 i) ∧ agS Se U ∧ U 0 8 = -1 ∧ U 0 9 = -1 := by
  obtain ⟨U, u1, u2, u3, u4⟩ := start_e Ch' Se Us'
  obtain ⟨K, k1, k2⟩ := lay_by M
  exact ⟨U, K, u1, k1, ctx_ag h u2 (vup_o (by decide)), RR_lvl hR u3 u4 (vup_o (by decide)), k2, u2, u3, u4⟩
theorem RR_tr {Ma Fo Sc Se Tr Ch Us Ta Dr G0 : ST} {N0 : LT} {G1 : ST} {N1 : LT} {G2 : ST} {N2 : LT} {G3 : ST} {N3 : LT} {Fo2 Sc2 Se2 Tr2 Fo3 Sc3 Se3 Tr3 M : ST} {N : LT} (hR : RR Ma Fo Sc Se Tr Ch Us Ta Dr G0 N0 G1 N1 G2 N2 G3 N3 Fo2 Sc2 Se2 Tr2 Fo3 Sc3 Se3 Tr3 M N) {K : Nat → Int32} (hK : ∀ i, i < 74 → K i = M 1 i) {C0 S0 M0 C' S' M' : ST} (hC0 : ∀ b, b ≠ 2 → C0 b = Sc b) (hM0 : ∀ b, b ≠ 1 → M0 b = va_up M 14 K b) (hM1 : ∀ i, 74 ≤ i → M0 1 i = M 1 i) (f : frN2 C0 S0 M0 C' S' M') : ∃ Mz, fX8_laysBack M' = some Mz ∧ Mz 1 = M 1 ∧ Mz 14 = K ∧ (∀ b, b ≠ 12 → b ≠ 14 → b ≠ 26 → Mz b = M b) ∧ ∀ (Tr' Ch' Us' : ST), RR Ma Fo C' Se Tr' Ch' Us' Ta Dr G0 N0 G1 N1 G2 N2 G3 N3 Fo2 Sc2 Se2 Tr2 Fo3 Sc3 Se3 Tr3 Mz N := by
  obtain ⟨Mz, z1, z2, z3, z4⟩ := lay_ok (M := M) (M' := M') hK (by rw [f.2.1 14 (by decide) (by decide) (by decide), hM0 14 (by decide), vup_s]) (fun i hi => (f.2.2.1 i hi).trans (hM1 i hi))
  have hb : ∀ b, b ≠ 12 → b ≠ 14 → b ≠ 26 → Mz b = M b := fun b h1 h2 h3 => by
    by_cases e : b = 1
    · rw [e]; exact z2
    · rw [z4 b e, f.2.1 b e h1 h3, hM0 b e, vup_o h2]
  exact ⟨Mz, z1, z2, z3, hb, fun Tr' Ch' Us' => RR_st hR (fun b hb => (f.1 b hb).trans (hC0 b hb)) (fun b hb' => hb b (by omega) (by omega) (by omega))⟩
theorem P_ahead_ok : P_ahead RR := by
  intro x1 Ma Fo Sc Se Tr Ch Us Ta Dr G0 N0 G1 N1 G2 N2 G3 N3 Fo2 Sc2 Se2 Tr2 Fo3 Sc3 Se3 Tr3 M N hR
  obtain ⟨n, a, h⟩ := ctx_of hR.1.1 hR.1.2.1
  unfold fX7_ahead fX8_ahead
  rw [isCh7_e, isCh8_e, b1s, b1s]
  by_cases hx : x1 < 1 ∨ 200 < x1
  · rw [if_pos hx, i00, i00, fd7_0, fd8_0, b2s, b2s]
    exact ⟨_, _, _, _, _, _, rfl, rfl, RR_f hR 0 (by decide)⟩
  rw [if_neg hx, i10, i10]
  obtain ⟨m, m1, m2, rfl⟩ := in_1k 200 (by decide) hx
  obtain ⟨U, K, u1, u2, u3, u4, u5, -⟩ := trial hR h Ch Us
  have e7 := ah7_l (x := (U, Sc, Tr)) (Se := Se) (Ch := Ch) (Ma := Ma) u3 u4 m2 m 0 400 (-1) (by omega) (by omega)
  have e8 := ah8_l (x := (U, Sc, Tr)) u3 u4 m2 m 0 400 (-1) (by omega) (by omega)
  obtain ⟨Mz, z1, -, -, -, z5⟩ := RR_tr hR u5 (C0 := Sc) (S0 := U) (M0 := va_up M 14 K) (fun _ _ => rfl) (fun _ _ => rfl) (fun i _ => by rw [vup_o (by decide)]) (it_ok (x := (U, Sc, Tr)) u3 u4 m).2.2
  rw [z1, b1s] at e8
  rw [u1, u2, b1s, b1s]
  exact ⟨_, _, _, _, _, _, e7, e8, z5 _ _ _⟩
