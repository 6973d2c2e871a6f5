-- sit, line
theorem pl_case (S : ST) {a : Nat} (ha : a ≤ 4) (x : Int32) : (plS S a x = -1 ∧ ∀ j, j < a → S 5 j ≠ x) ∨ ∃ j, j < a ∧ S 5 j = x ∧ plS S a x = nI j := by
  rcases plc_spec (S 5) x a 0 (by omega) with ⟨h1, h2⟩ | ⟨j, h1, h2, h3, h4⟩
  · exact Or.inl ⟨h1, fun j hj => h2 j (Nat.zero_le _) (by omega)⟩
  · exact Or.inr ⟨j, by omega, h3, h4⟩
theorem one_m1 {x : Int32} {n : Nat} (hn : n ≤ 10) : x = -1 ∨ (x ≠ -1 ∧ (x < 0 ∨ nI n ≤ x)) ∨ ∃ q, q < n ∧ x = nI q := by
  by_cases h : x = -1
  · exact Or.inl h
  · by_cases h2 : x < 0 ∨ nI n ≤ x
    · exact Or.inr (Or.inl ⟨h, h2⟩)
    · exact Or.inr (Or.inr (in_n hn h2))
theorem nI_m1 {q : Nat} (hq : q < 2 ^ 31) : ¬ nI q = -1 := fun e => absurd (show nI q < 0 from by rw [e]; decide) (nI_pos hq)
theorem P_sit_ok : P_sit RR := by
  intro x1 Ma Fo Sc Se Tr Ch Us Ta Dr G0 N0 G1 N1 G2 N2 G3 N3 Fo2 Sc2 Se2 Tr2 Fo3 Sc3 Se3 Tr3 M N hR
  obtain ⟨n, hn, hF, hM⟩ := RR_n hR
  have hc := hR.1.1
  obtain ⟨n', hn', hF', hiF, ⟨⟨a, a1, a2, hA⟩, hiR⟩, -⟩ := hR.1.2.1
  -- one who may sit
  have fin : (x1 = -1 ∨ ∃ q : Nat, q < n ∧ bt (Fo 0 5) q = false ∧ x1 = nI q) → ∃ (r0 : Int32) (Maz Sez Mz : ST), fX7_sit_60 Fo x1 Ma Se = some (r0, Maz, Sez) ∧ fX8_sit_48 x1 M = some (r0, Mz) ∧ RR Maz Fo Sc Sez Tr Ch Us Ta Dr G0 N0 G1 N1 G2 N2 G3 N3 Fo2 Sc2 Se2 Tr2 Fo3 Sc3 Se3 Tr3 Mz N := by
    intro hx
    refine ⟨Se 0 6, Ma, sti (sti Se 0 6 x1) 0 7 0, sti (sti M 1 2 0) 1 1 x1, rfl, ?_, ?_⟩
    · unfold fX8_sit_48
      rw [lts, show (1 : Int32) = nI 1 from rfl, bec_e (by decide), b2s, ← hc.1.2.1]
      rfl
    · obtain ⟨⟨hc, ⟨n2, hn2, hF2, hiF, hiR, ⟨l1, l2, l3, l4, l5⟩, hiC⟩, hk⟩, h2⟩ := hR
      have hnn : n2 = n := (nI_eq (by omega) (by omega)).mp (hF2.symm.trans hF)
      subst hnn
      refine ⟨⟨core_m (core_reign (core_sits hc x1) 0) (fun i _ => ?_), ⟨n2, hn2, hF, hiF, hiR, ⟨l1, l2, l3, hx, l5⟩, hiC⟩, hk⟩, h2⟩
      show upd (upd (M 1) 2 0) 1 x1 i = upd (upd (M 1) 1 x1) 2 0 i
      by_cases e1 : i = 1
      · rw [e1, upd_s, upd_n (by decide), upd_s]
      · rw [upd_n e1]
        by_cases e2 : i = 2
        · rw [e2, upd_s, upd_s]
        · rw [upd_n e2, upd_n e2, upd_n e1]
  unfold fX7_sit fX8_sit
  rw [isOne_e hn hF, isP_e hM, fd7_0, fd8_0]
  rcases one_m1 (x := x1) hn with h | ⟨h1, h2⟩ | ⟨q, hq, rfl⟩
  · rw [if_pos h, if_pos h]
    unfold fX7_sit_20 fX8_sit_20
    rw [if_pos h, if_pos h]
    exact fin (Or.inl h)
  · refine ⟨-1000000001, fMa 0 Ma, Se, fM 0 M, ?_, ?_, RR_f hR 0 (by decide)⟩
    · rw [if_neg h1, b1s, if_pos h2, if_pos rfl, b2s]
    · rw [if_neg h1, b1s, if_pos h2, if_pos rfl, b2s]
  · have c1 : ¬ (nI q < 0 ∨ nI n ≤ nI q) := fun h => h.elim (nI_pos (by omega)) (nI_ge hq (by omega))
    have m1 := nI_m1 (q := q) (by omega)
    rw [if_neg m1, if_neg m1, b1s, b1s, if_neg c1, i10, i10]
    unfold fX7_sit_20 fX8_sit_20 fX7_sit_53 fX8_sit_41
    rw [if_neg m1, if_neg m1, isAl1 hn hF hq, isAl8 hc (by omega), b1s, b1s, fd7_4, fd8_4, pl4 a2 hA, pl8 hc a2 hA, b1s, b1s]
    cases hb : bt (Fo 0 5) q with
    | true => exact ⟨-1000000005, fMa 4 Ma, Se, fM 4 M, by simp only [if_true, b2s], by simp only [if_true, b2s], RR_f hR 4 (by decide)⟩
    | false =>
      simp only [Bool.false_eq_true, if_false, i10]
      rcases pl_case Se a2 (nI q) with ⟨p1, -⟩ | ⟨j, j1, -, j3⟩
      · rw [p1, if_pos (by decide), if_pos (by decide)]
        exact fin (Or.inr ⟨q, hq, hb, rfl⟩)
      · rw [j3, if_neg (nI_pos (by omega)), if_neg (nI_pos (by omega))]
        exact ⟨-1000000005, fMa 4 Ma, Se, fM 4 M, by rw [b2s], by rw [b2s], RR_f hR 4 (by decide)⟩
theorem P_line_ok : P_line RR := by
  intro x1 x2 Ma Fo Sc Se Tr Ch Us Ta Dr G0 N0 G1 N1 G2 N2 G3 N3 Fo2 Sc2 Se2 Tr2 Fo3 Sc3 Se3 Tr3 M N hR
  obtain ⟨n, hn, hF, hM⟩ := RR_n hR
  have hc := hR.1.1
  obtain ⟨n', hn', hF', hiF, ⟨⟨a, a1, a2, hA⟩, hiR⟩, -⟩ := hR.1.2.1
  have hA8 : M 1 4 = nI a := (hc.2.1 0 (by decide)).trans hA
  have j1 : fX8_isIn x1.toInt64 0 ((M 1 4) - 1).toInt64 = some (if x1 < 0 ∨ nI a ≤ x1 then 0 else 1) := by
    rw [isIn8_e x1 0 (M 1 4 - 1) (by decide) rfl, hA8]
    simp only [sub1_lt (show a < 2 ^ 30 by omega)]
  unfold fX7_line fX8_line fX7_line_21 fX8_line_31
  rw [isPlace_e a2 hA, j1, isOne_e hn hF, isP_e hM, fd7_0, fd8_0]
  by_cases c1 : x1 < 0 ∨ nI a ≤ x1
  · exact ⟨-1000000001, fMa 0 Ma, Se, fM 0 M, by simp only [if_pos c1, b1s, b2s, if_true], by simp only [if_pos c1, b1s, b2s, if_true], RR_f hR 0 (by decide)⟩
  obtain ⟨k, hk, rfl⟩ : ∃ k : Nat, k < a ∧ x1 = nI k := by
    rcases pk_ix x1 (n := a) (by omega) with h1 | h1 | h1
    · exact absurd (Or.inl h1) c1
    · exact absurd (Or.inr h1) c1
    · exact h1
  have fin : (x2 = -1 ∨ ∃ q : Nat, q < n ∧ bt (Fo 0 5) q = false ∧ x2 = nI q ∧ ∀ j, j < a → Se 5 j ≠ nI q) → ∃ (r0 : Int32) (Maz Sez Mz : ST), fX7_line_48 Fo (nI k) x2 Ma Se = some (r0, Maz, Sez) ∧ fX8_line_86 (nI k) x2 M = some (r0, Mz) ∧ RR Maz Fo Sc Sez Tr Ch Us Ta Dr G0 N0 G1 N1 G2 N2 G3 N3 Fo2 Sc2 Se2 Tr2 Fo3 Sc3 Se3 Tr3 Mz N := by
    intro hx
    refine ⟨Se 5 k, Ma, sti Se 5 k x2, sti M 1 (10 + k) x2, ?_, ?_, ?_⟩
    · unfold fX7_line_48
      rw [cks _ (vp_in_nI (by omega) (by decide)), lts, cks _ (vp_in_nI (by omega) (by decide)), lts, nI_clamp (by omega)]
    · unfold fX8_line_86
      rw [show (10 : Int32) = nI 10 from rfl, nI_add, bec_e (by omega), b2s, hc.2.2.1 k (by omega)]
    · obtain ⟨⟨hc, ⟨n2, hn2, hF2, hiF, hiR, ⟨l1, l2, l3, l4, l5⟩, hiC⟩, hkk⟩, h2⟩ := hR
      have hnn : n2 = n := (nI_eq (by omega) (by omega)).mp (hF2.symm.trans hF)
      subst hnn
      refine ⟨⟨core_line hc (by omega) x2, ⟨n2, hn2, hF, hiF, hiR, ⟨fun i hi => ?_, fun i hi hi2 => ?_, fun i l hi hl hil he => ?_, l4, l5⟩, hiC⟩, hkk⟩, h2⟩
      · show upd (Se 5) k x2 i = -1 ∨ ∃ q : Nat, q < n2 ∧ bt (Fo 0 5) q = false ∧ upd (Se 5) k x2 i = nI q
        by_cases e : i = k
        · rw [e, upd_s]
          rcases hx with h | ⟨q, q1, q2, q3, -⟩
          · exact Or.inl h
          · exact Or.inr ⟨q, q1, q2, q3⟩
        · rw [upd_n e]; exact l1 i hi
      · show upd (Se 5) k x2 i = -1
        have hi3 : Se 4 0 ≤ nI i := hi2
        have hne : i ≠ k := fun e => by
          rw [hA, e] at hi3
          exact nI_ge hk (by omega) hi3
        rw [upd_n hne]; exact l2 i hi hi3
      · have he : upd (Se 5) k x2 i = upd (Se 5) k x2 l := he
        show upd (Se 5) k x2 i = -1
        by_cases e : i = k
        · by_cases e2 : l = k
          · omega
          · rw [e, upd_s, upd_n e2] at he
            rw [e, upd_s]
            rcases hx with h | ⟨q, q1, q2, q3, q4⟩
            · exact h
            · by_cases hla : l < a
              · exact absurd (he.symm.trans q3) (q4 l hla)
              · rw [he]; exact l2 l hl (by rw [hA]; exact nI_le (by omega) (by omega))
        · rw [upd_n e] at he ⊢
          by_cases e2 : l = k
          · rw [e2, upd_s] at he
            rcases hx with h | ⟨q, q1, q2, q3, q4⟩
            · rw [he]; exact h
            · by_cases hla : i < a
              · exact absurd (he.trans q3) (q4 i hla)
              · exact l2 i hi (by rw [hA]; exact nI_le (by omega) (by omega))
          · rw [upd_n e2] at he
            exact l3 i l hi hl hil he
  simp only [if_neg c1, b1s, i10]
  rcases one_m1 (x := x2) hn with h | ⟨h1, h2⟩ | ⟨q, hq, rfl⟩
  · rw [if_pos h, if_pos h]
    unfold fX7_line_28 fX8_line_38
    rw [if_pos h, if_pos h]
    exact fin (Or.inl h)
  · exact ⟨-1000000001, fMa 0 Ma, Se, fM 0 M, by rw [if_neg h1, if_pos h2, if_pos rfl, b2s], by rw [if_neg h1, if_pos h2, if_pos rfl, b2s], RR_f hR 0 (by decide)⟩
  · have c2 : ¬ (nI q < 0 ∨ nI n ≤ nI q) := fun h => h.elim (nI_pos (by omega)) (nI_ge hq (by omega))
    have m1 := nI_m1 (q := q) (by omega)
    rw [if_neg m1, if_neg m1, if_neg c2, i10, i10]
    unfold fX7_line_28 fX8_line_38 fX8_line_79 fX7_mayStandInLine fX7_mayStandInLine_34
    rw [if_neg m1, if_neg m1, isAl1 hn hF hq, isAl8 hc (by omega), fd7_4, fd8_4, pl4 a2 hA, pl8 hc a2 hA, b1s, b1s, b1s, b1s, b2s, b2s]
    have hM1 : M 1 1 = Se 0 6 := hc.1.2.1
    have hM6 : M 1 6 = Se 4 2 := hc.2.1 2 (by decide)
    rw [hM1, hM6]
    have bad : ∃ (r0 : Int32) (Maz Sez Mz : ST), (some (-1000000005, fMa 4 Ma, Se) : Option (Int32 × ST × ST)) = some (r0, Maz, Sez) ∧ (some (-1000000005, fM 4 M) : Option (Int32 × ST)) = some (r0, Mz) ∧ RR Maz Fo Sc Sez Tr Ch Us Ta Dr G0 N0 G1 N1 G2 N2 G3 N3 Fo2 Sc2 Se2 Tr2 Fo3 Sc3 Se3 Tr3 Mz N := ⟨-1000000005, fMa 4 Ma, Se, fM 4 M, rfl, rfl, RR_f hR 4 (by decide)⟩
    cases hb : bt (Fo 0 5) q with
    | true =>
      simp only [if_true, ite_self, b1s]
      exact bad
    | false =>
      simp only [Bool.false_eq_true, if_false, i10]
      rcases pl_case Se a2 (nI q) with ⟨p1, p2⟩ | ⟨j, jj1, -, j3⟩
      · rw [p1]
        simp only [show ¬ ((0 : Int32) ≤ -1) from by decide, if_false, if_true, i10]
        by_cases s1 : nI q = Se 0 6
        · rw [if_pos s1, if_pos s1.symm]
          by_cases s2 : Se 4 2 = 0
          · rw [if_pos s2, if_pos s2, b1s, if_pos rfl]
            exact bad
          · rw [if_neg s2, if_neg s2, b1s, i10]
            exact fin (Or.inr ⟨q, hq, hb, rfl, p2⟩)
        · rw [if_neg s1, if_neg (fun e => s1 e.symm), b1s, i10]
          exact fin (Or.inr ⟨q, hq, hb, rfl, p2⟩)
      · rw [j3]
        simp only [show (0 : Int32) ≤ nI j from nI_pos' (by omega), if_true, ite_self, b1s]
        exact bad
