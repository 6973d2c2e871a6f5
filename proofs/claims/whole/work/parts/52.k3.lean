-- kept
theorem nw_l {F : ST} : ∀ (r k f : Nat) (Ch : ST), k + r = 4 → r < f → ∃ Ch', fX0_noteWithout_2 F f (nI k) Ch = some Ch' ∧ (∀ c, c ≠ 4 → Ch' c = Ch c) ∧ ∀ t, t < 4 → Ch' 4 t = if t < k then Ch 4 t else sm (fun s => Ch 3 s * F 8 (4 * s + t)) 4 := by
  intro r
  induction r with
  | zero =>
    intro k f Ch hk hf
    obtain ⟨f, rfl⟩ : ∃ n', f = n' + 1 := ⟨f - 1, by omega⟩
    refine ⟨Ch, ?_, fun _ _ => rfl, fun t ht => by rw [if_pos (by omega)]⟩
    show fX0_noteWithout_2_s F (fX0_noteWithout_2 F f) _ _ = _
    unfold fX0_noteWithout_2_s
    rw [if_pos (show (4 : Int32) ≤ nI k from nI_le (a := 4) (by omega) (by omega))]
  | succ r ih =>
    intro k f Ch hk hf
    obtain ⟨f, rfl⟩ : ∃ n', f = n' + 1 := ⟨f - 1, by omega⟩
    obtain ⟨Ch', c1, c2, c3⟩ := ih (k + 1) f (sti Ch 4 k (sm (fun s => Ch 3 s * F 8 (4 * s + k)) 4)) (by omega) (by omega)
    refine ⟨Ch', ?_, fun c hc => by rw [c2 c hc, sti_o hc], fun t ht => ?_⟩
    · rw [← c1]
      show fX0_noteWithout_2_s F (fX0_noteWithout_2 F f) _ _ = _
      unfold fX0_noteWithout_2_s
      rw [if_neg (show ¬ (4 : Int32) ≤ nI k from nI_ge (b := 4) (by omega) (by decide)), wf_e (by omega), b1s, cks _ (vp_in_nI (by omega) (by decide)), nI_clamp (by omega), lts, lts, nI_1]
    · rw [c3 t ht, sti_s, sti_o (by decide)]
      by_cases q : t = k
      · rw [q, if_pos (by omega), upd_s, if_neg (by omega)]
      · rw [upd_n q]
        by_cases q2 : t < k
        · rw [if_pos (by omega), if_pos q2]
        · rw [if_neg (by omega), if_neg q2]
theorem nw_e (F Ch : ST) : ∃ Ch', fX0_noteWithout Ch F = some Ch' ∧ ∀ t, t < 4 → Ch' 4 t = sm (fun s => Ch 3 s * F 8 (4 * s + t)) 4 := by
  obtain ⟨Ch', c1, -, c3⟩ := nw_l (F := F) 4 0 400 Ch (by omega) (by omega)
  exact ⟨Ch', c1, fun t ht => by rw [c3 t ht, if_neg (by omega)]⟩
theorem more_e {F Ch : ST} {p u : Nat} (hp : p < 10) (hu : u < 4) (eu : F 4 p = nI u) : fX0_moreFor (nI p) Ch F = some (sm (fun s => Ch 3 s * F 8 (4 * s + u)) 4 - Ch 4 u) := by
  unfold fX0_moreFor
  rw [cks _ (vp_in_nI hp (by decide)), nI_clamp (by omega), eu, lts, wf_e hu, b1s, cks _ (vp_in_nI hu (by decide)), nI_clamp (by omega)]
abbrev WW (F : ST) (x : S3) (t N : Nat) : Int32 := sm (fun j => wv F (itR F x j) t) N
theorem keptBy_e {F Sc Se M : ST} {x0 x2 : S3} {n a N i j u : Nat} (h : ctx F Sc Se M n a) (w1 : M 0 9 = -1) (w2 : M 0 10 = -1) (fl : M 0 12 = 0) (hN : N ≤ 200) (a0 : agS Se x0.1) (c0 : ∀ b, b ≠ 2 → x0.2.1 b = Sc b) (k0 : x0.1 0 8 = -1 ∧ x0.1 0 9 = -1) (a2 : agS Se x2.1) (c2 : ∀ b, b ≠ 2 → x2.2.1 b = Sc b) (hw : (x2.1 0 8 = nI i ∧ x2.1 0 9 = nI j) ∨ (x2.1 0 8 = nI j ∧ x2.1 0 9 = nI i)) (hi : i < n) (hj : j < n) (hij : i ≠ j) (hu : u < 4) (eu : F 4 i = nI u) : ∃ Mz, fX8_keptBy (nI i) (nI j) (nI N) M = some (WW F x2 u N - WW F x0 u N, Mz) ∧ ∀ b, b ≠ 12 → b ≠ 14 → b ≠ 26 → Mz b = M b := by
  have hn := h.1
  obtain ⟨K, k1, k2⟩ := lay_by M
  obtain ⟨M1, eM1⟩ : ∃ M1, M1 = va_up M 14 K := ⟨_, rfl⟩
  rw [← eM1] at k1
  have m1b : ∀ b, b ≠ 14 → M1 b = M b := fun b hb => by rw [eM1, vup_o hb]
  have m14 : M1 14 = K := by rw [eM1, vup_s]
  have hx0 : ctx F x0.2.1 x0.1 M1 n a := ctx_fr (ctx_ag h a0 (m1b 1 (by decide))) c0 rfl
  have hl0 : lvl x0.1 M1 n := by
    unfold lvl
    rw [m1b 0 (by decide)]
    exact ⟨fl, Or.inl ⟨k0.1, k0.2, w1, w2⟩⟩
  have f0 := (it_ok hx0 hl0 N).2.2
  have e0 := hi_e (t := u) hx0 hl0 hN hu
  obtain ⟨Mz1, z1, z2, z3, z4⟩ := lay_ok (M := M) (M' := itM M1 N) k2 (by rw [f0.2.1 14 (by decide) (by decide) (by decide), m14]) (fun t ht => by rw [f0.2.2.1 t ht, m1b 1 (by decide)])
  have zb : ∀ b, b ≠ 1 → b ≠ 12 → b ≠ 14 → b ≠ 26 → Mz1 b = M b := fun b h1 h2 h3 h4 => by rw [z4 b h1, f0.2.1 b h1 h2 h4, m1b b h3]
  obtain ⟨M11, eM11⟩ : ∃ M11, M11 = sti (sti Mz1 0 9 (nI i)) 0 10 (nI j) := ⟨_, rfl⟩
  have n1b : ∀ b, b ≠ 0 → M11 b = Mz1 b := fun b hb => by rw [eM11, sti_o hb, sti_o hb]
  have n10 : M11 0 = upd (upd (M 0) 9 (nI i)) 10 (nI j) := by rw [eM11, sti_s, sti_s, zb 0 (by decide) (by decide) (by decide) (by decide)]
  have hx2 : ctx F x2.2.1 x2.1 M11 n a := ctx_fr (ctx_ag h a2 ((n1b 1 (by decide)).trans z2)) c2 rfl
  have hl2 : lvl x2.1 M11 n := by
    unfold lvl
    rw [n10]
    refine ⟨fl, Or.inr ?_⟩
    rcases hw with ⟨q1, q2⟩ | ⟨q1, q2⟩
    · exact ⟨i, j, hi, hj, hij, q1, q2, Or.inl ⟨rfl, rfl⟩⟩
    · exact ⟨j, i, hj, hi, hij.symm, q1, q2, Or.inr ⟨rfl, rfl⟩⟩
  have f2 := (it_ok hx2 hl2 N).2.2
  have e2 := hi_e (t := u) hx2 hl2 hN hu
  obtain ⟨M18, eM18⟩ : ∃ M18, M18 = sti (sti (itM M11 N) 0 9 (-1)) 0 10 (-1) := ⟨_, rfl⟩
  have o1b : ∀ b, b ≠ 0 → M18 b = itM M11 N b := fun b hb => by rw [eM18, sti_o hb, sti_o hb]
  obtain ⟨Mz, y1, y2, y3, y4⟩ := lay_ok (M := M) (M' := M18) k2 (by rw [o1b 14 (by decide), f2.2.1 14 (by decide) (by decide) (by decide), n1b 14 (by decide), z3]) (fun t ht => by rw [o1b 1 (by decide), f2.2.2.1 t ht, n1b 1 (by decide), z2])
  refine ⟨Mz, ?_, fun b h1 h2 h3 => ?_⟩
  · unfold fX8_keptBy
    have c1 := hx0.2.2.2.2.2.1
    have c3 := hx2.2.2.2.2.2.1
    rw [k1, b1s, has0_2 (by omega), b1s, (c1.2.2.2.1 i (by omega)).2.2.1, eu, e0, b2s, z1, b1s, lts, lts, ← eM11, has0_2 (by omega), b1s, (c3.2.2.2.1 i (by omega)).2.2.1, eu, e2, b2s, lts, lts, ← eM18, y1, b1s]
  · by_cases q1 : b = 1
    · rw [q1]; exact y2
    · rw [y4 b q1]
      by_cases q0 : b = 0
      · rw [q0, eM18, sti_s, sti_s, f2.2.1 0 (by decide) (by decide) (by decide), n10]
        funext t
        by_cases e10 : t = 10
        · rw [e10, upd_s, w2]
        · rw [upd_n e10]
          by_cases e9 : t = 9
          · rw [e9, upd_s, w1]
          · rw [upd_n e9, upd_n e10, upd_n e9]
      · rw [o1b b q0, f2.2.1 b q1 h1 h3, n1b b q0, zb b q1 h1 h2 h3]
/-- what stays while pairs are tried -/
def PS (F Sc M0 : ST) (x0 : S3) (N : Nat) (C Ch M : ST) : Prop := (∀ b, b ≠ 2 → C b = Sc b) ∧ (∀ b, b ≠ 12 → b ≠ 14 → b ≠ 26 → M b = M0 b) ∧ (∀ t, t < 4 → Ch 4 t = WW F x0 t N)
theorem pair_e {F Sc Se M0 : ST} {x0 : S3} {n a N i j u v : Nat} (h : ctx F Sc Se M0 n a) (w1 : M0 0 9 = -1) (w2 : M0 0 10 = -1) (fl : M0 0 12 = 0) (hN : N ≤ 200) (a0 : agS Se x0.1) (c0 : ∀ b, b ≠ 2 → x0.2.1 b = Sc b) (k0 : x0.1 0 8 = -1 ∧ x0.1 0 9 = -1) (hi : i < n) (hj : j < n) (hij : i ≠ j) (hu : u < 4) (eu : F 4 i = nI u) (hv : v < 4) (ev : F 4 j = nI v) {C T Ch U M : ST} (ps : PS F Sc M0 x0 N C Ch M) : ∃ (U1 U2 Ch' C' T' U' M1 M2 : ST) (r1 r2 : Int32), fX0_start Ch Se U = some U1 ∧ fX4_keepWord (nI i) (nI j) U1 = some U2 ∧ fX0_tally (nI N) Ch F C T U2 = some (Ch', C', T', U') ∧ fX0_moreFor (nI i) Ch' F = some r1 ∧ fX0_moreFor (nI j) Ch' F = some r2 ∧ fX8_keptBy (nI i) (nI j) (nI N) M = some (r1, M1) ∧ fX8_keptBy (nI j) (nI i) (nI N) M1 = some (r2, M2) ∧ PS F Sc M0 x0 N C' Ch' M1 ∧ PS F Sc M0 x0 N C' Ch' M2 := by
  have hn := h.1
  obtain ⟨p1, p2, p3⟩ := ps
  obtain ⟨U1, u1, u2, u3, u4⟩ := start_e Ch Se U
  obtain ⟨U2, eU2⟩ : ∃ U2, U2 = sti (sti U1 0 8 (nI i)) 0 9 (nI j) := ⟨_, rfl⟩
  have ku : fX4_keepWord (nI i) (nI j) U1 = some U2 := by rw [eU2]; rfl
  have ag2 : agS Se U2 := by rw [eU2]; exact u2
  have w8 : U2 0 8 = nI i := by rw [eU2]; rfl
  have w9 : U2 0 9 = nI j := by rw [eU2]; rfl
  have hM : ctx F Sc Se M n a := ctx_fr h (fun _ _ => rfl) (p2 1 (by decide) (by decide) (by decide))
  have m0 : M 0 = M0 0 := p2 0 (by decide) (by decide) (by decide)
  obtain ⟨M1, k1, k2⟩ := keptBy_e (x0 := x0) (x2 := (U2, C, T)) hM (by rw [m0]; exact w1) (by rw [m0]; exact w2) (by rw [m0]; exact fl) hN a0 c0 k0 ag2 p1 (Or.inl ⟨w8, w9⟩) hi hj hij hu eu
  have hM1 : ctx F Sc Se M1 n a := ctx_fr hM (fun _ _ => rfl) (k2 1 (by decide) (by decide) (by decide))
  have m1 : M1 0 = M0 0 := (k2 0 (by decide) (by decide) (by decide)).trans m0
  obtain ⟨M2, k3, k4⟩ := keptBy_e (x0 := x0) (x2 := (U2, C, T)) hM1 (by rw [m1]; exact w1) (by rw [m1]; exact w2) (by rw [m1]; exact fl) hN a0 c0 k0 ag2 p1 (Or.inr ⟨w8, w9⟩) hj hi hij.symm hv ev
  -- the class's own run, beside a row with the words
  have hx : ctx F C U2 (sti (sti M 0 9 (nI i)) 0 10 (nI j)) n a := ctx_fr (ctx_ag hM ag2 (by rw [sti_o (by decide), sti_o (by decide)])) p1 rfl
  have hl : lvl U2 (sti (sti M 0 9 (nI i)) 0 10 (nI j)) n := ⟨by rw [sti_s, sti_s, m0]; exact fl, Or.inr ⟨i, j, hi, hj, hij, w8, w9, Or.inl ⟨rfl, rfl⟩⟩⟩
  obtain ⟨Ch', t1, t2, t3⟩ := tal_e (x := (U2, C, T)) hx hl hN Ch
  have f := (it_ok (x := (U2, C, T)) hx hl N).2.2
  have cw : ∀ t, sm (fun s => Ch' 3 s * F 8 (4 * s + t)) 4 = WW F (U2, C, T) t N := fun t => by
    show _ = sm (fun j => wv F (itR F (U2, C, T) j) t) N
    rw [← tw (fun j _ => it_rs (x := (U2, C, T)) hx hl j)]
    exact sm_cong 4 (fun s hs => by rw [t3 s hs])
  have ps' : ∀ Mq : ST, (∀ b, b ≠ 12 → b ≠ 14 → b ≠ 26 → Mq b = M b) → PS F Sc M0 x0 N (itS F (U2, C, T) N).2.1 Ch' Mq := fun Mq hq => ⟨fun b hb => (f.1 b hb).trans (p1 b hb), fun b h1 h2 h3 => (hq b h1 h2 h3).trans (p2 b h1 h2 h3), fun t ht => by rw [t2 4 (by decide)]; exact p3 t ht⟩
  refine ⟨U1, U2, Ch', _, _, _, M1, M2, _, _, u1, ku, t1, ?_, ?_, k1, k3, ps' M1 k2, ps' M2 (fun b h1 h2 h3 => (k4 b h1 h2 h3).trans (k2 b h1 h2 h3))⟩
  · rw [more_e (by omega) hu eu, cw u, t2 4 (by decide), p3 u hu]
  · rw [more_e (by omega) hv ev, cw v, t2 4 (by decide), p3 v hv]
theorem areTwo_e {Ma F : ST} {n : Nat} (hn : n ≤ 10) (hF : F 0 0 = nI n) (x y : Int32) : fX7_areTwo x y Ma F = some (if (x < 0 ∨ nI n ≤ x) ∨ (y < 0 ∨ nI n ≤ y) ∨ x = y then 0 else 1) := by
  unfold fX7_areTwo
  rw [isOne_e hn hF, isOne_e hn hF, b1s, b1s]
  by_cases h1 : x < 0 ∨ nI n ≤ x
  · rw [if_pos h1, i00, if_pos (Or.inl h1)]
  · rw [if_neg h1, i10]
    by_cases h2 : y < 0 ∨ nI n ≤ y
    · rw [if_pos h2, i00, if_pos (Or.inr (Or.inl h2))]
    · rw [if_neg h2, i10]
      by_cases h3 : x = y
      · rw [if_pos h3, if_pos (Or.inr (Or.inr h3))]
      · rw [if_neg h3, if_neg (fun h => h.elim h1 (fun h => h.elim h2 h3))]
theorem P_kept_ok : P_kept RR := by
  intro x1 x2 x3 Ma Fo Sc Se Tr Ch Us Ta Dr G0 N0 G1 N1 G2 N2 G3 N3 Fo2 Sc2 Se2 Tr2 Fo3 Sc3 Se3 Tr3 M N hR
  obtain ⟨n, a, h⟩ := ctx_of hR.1.1 hR.1.2.1
  have h' := h
  obtain ⟨hn, hF, a1, a4, hA, hc, hiF, hiR, hiL, hiC⟩ := h'
  unfold fX7_kept fX8_kept fX7_kept_16 fX8_kept_28 fX7_kept_51 fX8_kept_61
  rw [fd7_0, fd8_0, fd7_4, fd8_4, b2s, b2s, b2s, b2s, areTwo_e hn hF, isP_e (hc.1.1.trans hF), b1s, b1s, isP_e (hc.1.1.trans hF), b1s]
  by_cases hx : x1 < 0 ∨ nI n ≤ x1
  · rw [if_pos hx, if_pos (Or.inl hx), i00, i00]
    exact ⟨_, _, _, _, _, _, _, rfl, rfl, RR_f hR 0 (by decide)⟩
  rw [if_neg hx, i10]
  by_cases hy : x2 < 0 ∨ nI n ≤ x2
  · rw [if_pos hy, if_pos (Or.inr (Or.inl hy)), i00, i00]
    exact ⟨_, _, _, _, _, _, _, rfl, rfl, RR_f hR 0 (by decide)⟩
  rw [if_neg hy, i10]
  by_cases hxy : x1 = x2
  · rw [if_pos hxy, if_pos (Or.inr (Or.inr hxy)), i00]
    exact ⟨_, _, _, _, _, _, _, rfl, rfl, RR_f hR 0 (by decide)⟩
  rw [if_neg hxy, if_neg (show ¬ ((x1 < 0 ∨ nI n ≤ x1) ∨ (x2 < 0 ∨ nI n ≤ x2) ∨ x1 = x2) from fun h => h.elim hx (fun h => h.elim hy hxy)), i10, isCh7_e, isCh8_e, b1s, b1s]
  by_cases hz : x3 < 1 ∨ 200 < x3
  · rw [if_pos hz, i00, i00]
    exact ⟨_, _, _, _, _, _, _, rfl, rfl, RR_f hR 0 (by decide)⟩
  rw [if_neg hz, i10, i10]
  obtain ⟨p, hp, rfl⟩ := in_n hn hx
  obtain ⟨q, hq, rfl⟩ := in_n hn hy
  obtain ⟨m, m1, m2, rfl⟩ := in_1k 200 (by decide) hz
  rw [isAl1 hn hF hp, isAl8 hc (show p < 10 by omega), b1s, b1s]
  cases hd : bt (Fo 0 5) p
  rotate_left
  · rw [if_pos rfl, i00, i00]
    exact ⟨_, _, _, _, _, _, _, rfl, rfl, RR_f hR 4 (by decide)⟩
  rw [if_neg (show ¬ false = true by decide), i10, i10, isAl1 hn hF hq, isAl8 hc (show q < 10 by omega), b1s, b1s]
  cases hd2 : bt (Fo 0 5) q
  rotate_left
  · rw [if_pos rfl, i00, i00]
    exact ⟨_, _, _, _, _, _, _, rfl, rfl, RR_f hR 4 (by decide)⟩
  rw [if_neg (show ¬ false = true by decide), i10, i10]
  obtain ⟨-, -, -, -, w1, w2, fl⟩ := hR.1
  obtain ⟨u, hu, eu⟩ := (hiF.1 p (by omega)).2.2
  obtain ⟨v, hv, ev⟩ := (hiF.1 q (by omega)).2.2
  obtain ⟨U, K, u1, u2, u3, u4, u5, u6, u8, u9⟩ := trial hR h Ch Us
  obtain ⟨Ch', c1, c2, c3⟩ := tal_e (x := (U, Sc, Tr)) u3 u4 m2 Ch
  have c1' : fX0_tally (nI m) Ch Fo Sc Tr U = some (Ch', (itS Fo (U, Sc, Tr) m).2.1, (itS Fo (U, Sc, Tr) m).2.2, (itS Fo (U, Sc, Tr) m).1) := c1
  obtain ⟨Ch2, d1, d2⟩ := nw_e Fo Ch'
  have f := (it_ok (x := (U, Sc, Tr)) u3 u4 m).2.2
  have cw : ∀ t, sm (fun s => Ch' 3 s * Fo 8 (4 * s + t)) 4 = WW Fo (U, Sc, Tr) t m := fun t => by
    show _ = sm (fun j => wv Fo (itR Fo (U, Sc, Tr) j) t) m
    rw [← tw (fun j _ => it_rs (x := (U, Sc, Tr)) u3 u4 j)]
    exact sm_cong 4 (fun s hs => by rw [c3 s hs])
  obtain ⟨U1, U2, Ch3, C3, T3, U3, M1, M2, r1, r2, e1, e2, e3, e4, -, e6, -, e8, -⟩ := pair_e (x0 := (U, Sc, Tr)) (C := (itS Fo (U, Sc, Tr) m).2.1) (T := (itS Fo (U, Sc, Tr) m).2.2) (Ch := Ch2) (U := (itS Fo (U, Sc, Tr) m).1) (M := M) h w1 w2 fl m2 u6 (fun _ _ => rfl) ⟨u8, u9⟩ hp hq (fun e => hxy (by rw [e])) hu eu hv ev ⟨f.1, fun _ _ _ _ => rfl, fun t ht => by rw [d2 t ht, cw t]⟩
  rw [u1, b1s, c1', b4s, d1, b1s, e1, b1s, e2, b1s, e3, b4s, e4, b1s, e6, b2s]
  exact ⟨_, _, _, _, _, _, _, rfl, rfl, RR_st hR e8.1 (fun b hb => e8.2.1 b (by omega) (by omega) (by omega))⟩
