-- simple calls
theorem P_tear_ok : P_tear RR := by
  intro Ma Fo Sc Se Tr Ch Us Ta Dr G0 N0 G1 N1 G2 N2 G3 N3 Fo2 Sc2 Se2 Tr2 Fo3 Sc3 Se3 Tr3 M N hR
  obtain ⟨h1, ⟨hq, hk⟩, h3⟩ := hR
  refine ⟨if Ma 0 7 = 0 then 0 else 1, sti Ma 0 7 0, sti M 0 2 0, ?_, ?_, h1, ⟨rfl, Or.inl rfl⟩, h3⟩
  · unfold fX7_tear
    by_cases h : Ma 0 7 = 0 <;> simp [h, lts]
  · unfold fX8_tear
    rw [lts, lts, hq]
    by_cases h : Ma 0 7 = 0 <;> simp [h]
theorem P_wipe_ok : P_wipe RR := by
  intro Ma Fo Sc Se Tr Ch Us Ta Dr G0 N0 G1 N1 G2 N2 G3 N3 Fo2 Sc2 Se2 Tr2 Fo3 Sc3 Se3 Tr3 M N hR
  obtain ⟨h1, h2, h3, ⟨hq, hk⟩, h5⟩ := hR
  refine ⟨Ta 0 2, sti Ta 0 2 0, sti M 0 5 0, rfl, ?_, h1, h2, h3, ⟨rfl, 0, by decide, rfl, fun k hk => absurd hk (Nat.not_lt_zero k)⟩, h5⟩
  unfold fX8_wipe
  rw [lts, lts, hq]
theorem P_untell_ok : P_untell RR := by
  intro Ma Fo Sc Se Tr Ch Us Ta Dr G0 N0 G1 N1 G2 N2 G3 N3 Fo2 Sc2 Se2 Tr2 Fo3 Sc3 Se3 Tr3 M N hR
  obtain ⟨⟨hc, ⟨n, hn, hF, hiF, hiR, hiL, hiC⟩, hk⟩, h2⟩ := hR
  obtain ⟨L, hL, hC, hT⟩ := hiC
  have hm : M 1 190 = nI L := hc.2.2.2.2.2.2.1.trans hC
  refine ⟨if L = 0 then 0 else 1, sti Sc 0 2 0, sti M 1 190 0, ?_, ?_, ⟨core_untell hc, ⟨n, hn, hF, hiF, hiR, hiL, ⟨0, by decide, rfl, fun k hk => absurd hk (Nat.not_lt_zero k), fun h => absurd h (Nat.lt_irrefl 0)⟩⟩, hk⟩, h2⟩
  · unfold fX7_untell fX3_isThere
    rw [hC]
    by_cases h : L = 0
    · subst h
      rfl
    · rw [if_neg (nI_nle (by omega) (by omega)), b1s, if_neg (by decide), if_neg h]
      rfl
  · unfold fX8_untell
    rw [show (190 : Int32) = nI 190 from rfl, bec_e (by decide), b2s, hm]
    by_cases h : L = 0
    · subst h
      rfl
    · rw [if_neg (nI_ne0 (by omega) (by omega)), if_neg h]
theorem P_likes_ok : P_likes RR := by
  intro x1 x2 x3 Ma Fo Sc Se Tr Ch Us Ta Dr G0 N0 G1 N1 G2 N2 G3 N3 Fo2 Sc2 Se2 Tr2 Fo3 Sc3 Se3 Tr3 M N hR
  obtain ⟨n, hn, hF, hM⟩ := RR_n hR
  have i1 : fX8_isIn x3.toInt64 (-9) 9 = some (if x3 < -9 ∨ 9 < x3 then 0 else 1) := isIn8_e x3 (-9) 9 (by decide) (by decide)
  unfold fX7_likes fX7_areTwo fX8_likes fX7_likes_20 fX8_likes_35
  rw [isOne_e hn hF, isP_e hM, b1s, b1s, isP_e hM, isOne_e hn hF, within_e, i1, fd7_0, fd8_0]
  by_cases c1 : x1 < 0 ∨ nI n ≤ x1
  · exact ⟨-1000000001, _, _, _, by simp only [if_pos c1, b1s, b2s, if_true, i10], by simp only [if_pos c1, b1s, b2s, if_true, i10], RR_f hR 0 (by decide)⟩
  by_cases c2 : x2 < 0 ∨ nI n ≤ x2
  · exact ⟨-1000000001, _, _, _, by simp only [if_neg c1, if_pos c2, b1s, b2s, if_true, i10], by simp only [if_neg c1, if_pos c2, b1s, b2s, if_true, i10], RR_f hR 0 (by decide)⟩
  by_cases c3 : x1 = x2
  · exact ⟨-1000000001, _, _, _, by simp only [if_neg c1, if_neg c2, if_pos c3, b1s, b2s, if_true, i10], by simp only [if_neg c1, if_neg c2, if_pos c3, b1s, b2s, if_true, i10], RR_f hR 0 (by decide)⟩
  by_cases c4 : x3 < -9 ∨ 9 < x3
  · exact ⟨-1000000001, _, _, _, by simp only [if_neg c1, if_neg c2, if_neg c3, if_pos c4, b1s, b2s, if_true, i10], by simp only [if_neg c1, if_neg c2, if_neg c3, if_pos c4, b1s, b2s, if_true, i10], RR_f hR 0 (by decide)⟩
  obtain ⟨p, hp, rfl⟩ := in_n hn c1
  obtain ⟨q, hq, rfl⟩ := in_n hn c2
  have hpq : p ≠ q := fun e => c3 (by rw [e])
  have e1 : nI p * 10 + nI q = nI (10 * p + q) := by rw [show (10 : Int32) = nI 10 from rfl, pk_mul, nI_add, Nat.mul_comm]
  have e2 : (74 + 10 * nI p) + nI q = nI (74 + (10 * p + q)) := by rw [show (10 : Int32) = nI 10 from rfl, show (74 : Int32) = nI 74 from rfl, pk_mul, nI_add, nI_add, Nat.add_assoc]
  refine ⟨Fo 7 (10 * p + q), Ma, sti Fo 7 (10 * p + q) x3, sti M 1 (74 + (10 * p + q)) x3, ?_, ?_, ?_⟩
  · simp only [if_neg c1, if_neg c2, if_neg c3, if_neg c4, b1s, i10, if_true, lts, e1, nI_clamp (show 10 * p + q < 2 ^ 31 by omega)]
    rw [cks _ (vp_in_nI (by omega) (by decide)), cks _ (vp_in_nI (by omega) (by decide))]
  · simp only [if_neg c1, if_neg c2, if_neg c3, if_neg c4, b1s, i10, if_true, e2]
    rw [bec_e (by omega), b2s]
    obtain ⟨⟨hc, -⟩, -⟩ := hR
    rw [hc.2.2.2.2.1 (10 * p + q) (by omega)]
  · obtain ⟨⟨hc, ⟨n', hn', hF', ⟨i1, i2, i3, i4⟩, hiR, hiL, hiC⟩, hk⟩, h2⟩ := hR
    have hnn : n' = n := (nI_eq (by omega) (by omega)).mp (hF'.symm.trans hF)
    subst hnn
    refine ⟨⟨core_like hc (by omega) x3, ⟨n', hn, hF, ⟨i1, i2, i3, fun a b ha hb hab => ?_⟩, hiR, hiL, hiC⟩, hk⟩, h2⟩
    show upd (Fo 7) (10 * p + q) x3 (10 * a + b) = 0
    rw [upd_n (by omega)]
    exact i4 a b ha hb hab
