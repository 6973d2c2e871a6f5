-- worth, set, as, person, status, now
theorem in_k (k : Nat) (hk : k < 2 ^ 30) {x : Int32} (h : ¬ (x < 0 ∨ nI k < x)) : ∃ p : Nat, p ≤ k ∧ x = nI p := by
  rcases pk_ix x (n := k + 1) (by omega) with h1 | h1 | ⟨j, hj, e⟩
  · exact absurd (Or.inl h1) h
  · refine absurd (Or.inr ?_) h
    rw [fa_le] at h1
    rw [fa_lt]
    have e1 : (nI (k + 1)).toInt = (k + 1 : Nat) := nI_toInt (by omega)
    have e2 : (nI k).toInt = (k : Int) := nI_toInt (by omega)
    omega
  · exact ⟨j, by omega, e⟩
theorem P_worth_ok : P_worth RR := by
  intro x1 x2 x3 Ma Fo Sc Se Tr Ch Us Ta Dr G0 N0 G1 N1 G2 N2 G3 N3 Fo2 Sc2 Se2 Tr2 Fo3 Sc3 Se3 Tr3 M N hR
  have j1 : fX8_isIn x1.toInt64 0 3 = some (if x1 < 0 ∨ 3 < x1 then 0 else 1) := isIn8_e x1 0 3 (by decide) (by decide)
  have j2 : fX8_isIn x2.toInt64 0 3 = some (if x2 < 0 ∨ 3 < x2 then 0 else 1) := isIn8_e x2 0 3 (by decide) (by decide)
  have j3 : fX8_isIn x3.toInt64 (-99) 99 = some (if x3 < -99 ∨ 99 < x3 then 0 else 1) := isIn8_e x3 (-99) 99 (by decide) (by decide)
  unfold fX7_worth fX8_worth fX7_worth_25 fX8_worth_55
  rw [isSort_e, isSort_e, within_e, j1, j2, j3, fd7_0, fd8_0]
  by_cases c1 : x1 < 0 ∨ 3 < x1
  · exact ⟨-1000000001, _, _, _, by simp only [if_pos c1, b1s, b2s, if_true, i10], by simp only [if_pos c1, b1s, b2s, if_true, i10], RR_f hR 0 (by decide)⟩
  by_cases c2 : x2 < 0 ∨ 3 < x2
  · exact ⟨-1000000001, _, _, _, by simp only [if_neg c1, if_pos c2, b1s, b2s, if_true, i10], by simp only [if_neg c1, if_pos c2, b1s, b2s, if_true, i10], RR_f hR 0 (by decide)⟩
  by_cases c3 : x3 < -99 ∨ 99 < x3
  · exact ⟨-1000000001, _, _, _, by simp only [if_neg c1, if_neg c2, if_pos c3, b1s, b2s, if_true, i10], by simp only [if_neg c1, if_neg c2, if_pos c3, b1s, b2s, if_true, i10], RR_f hR 0 (by decide)⟩
  obtain ⟨p, hp, rfl⟩ := in_k 3 (by decide) c1
  obtain ⟨q, hq, rfl⟩ := in_k 3 (by decide) c2
  have e1 : nI p * 4 + nI q = nI (4 * p + q) := by rw [show (4 : Int32) = nI 4 from rfl, pk_mul, nI_add, Nat.mul_comm]
  have e2 : (174 + 4 * nI p) + nI q = nI (174 + (4 * p + q)) := by rw [show (4 : Int32) = nI 4 from rfl, show (174 : Int32) = nI 174 from rfl, pk_mul, nI_add, nI_add, Nat.add_assoc]
  refine ⟨Fo 8 (4 * p + q), Ma, sti Fo 8 (4 * p + q) x3, sti M 1 (174 + (4 * p + q)) x3, ?_, ?_, ?_⟩
  · simp only [if_neg c1, if_neg c2, if_neg c3, b1s, i10, lts, e1, nI_clamp (show 4 * p + q < 2 ^ 31 by omega)]
    rw [cks _ (vp_in_nI (by omega) (by decide)), cks _ (vp_in_nI (by omega) (by decide))]
  · simp only [if_neg c1, if_neg c2, if_neg c3, b1s, i10, e2]
    rw [bec_e (by omega), b2s]
    obtain ⟨⟨hc, -⟩, -⟩ := hR
    rw [hc.2.2.2.2.2.1 (4 * p + q) (by omega)]
  · obtain ⟨⟨hc, hi, hk⟩, h2⟩ := hR
    exact ⟨⟨core_val hc (by omega) x3, hi, hk⟩, h2⟩
theorem P_status_ok : P_status RR := by
  intro x1 Ma Fo Sc Se Tr Ch Us Ta Dr G0 N0 G1 N1 G2 N2 G3 N3 Fo2 Sc2 Se2 Tr2 Fo3 Sc3 Se3 Tr3 M N hR
  have j1 : fX8_isIn x1.toInt64 (-1) 6 = some (if x1 < -1 ∨ 6 < x1 then 0 else 1) := isIn8_e x1 (-1) 6 (by decide) (by decide)
  unfold fX7_status fX8_status
  rw [within_e, j1, fd7_0, fd8_0]
  by_cases c1 : x1 < -1 ∨ 6 < x1
  · exact ⟨-1000000001, _, _, by simp only [if_pos c1, b1s, b2s, if_true, i10], by simp only [if_pos c1, b1s, b2s, if_true, i10], RR_f hR 0 (by decide)⟩
  have hr := hR.2.2.1
  by_cases c2 : x1 < 0
  · have hx : x1 = -1 := by
      rw [fa_eq]
      have h0 : (0 : Int32).toInt = 0 := by decide
      have h1 : (-1 : Int32).toInt = -1 := by decide
      rw [fa_lt] at c2
      have c3 : ¬ x1 < -1 := fun h => c1 (Or.inl h)
      rw [fa_lt] at c3
      omega
    subst hx
    refine ⟨M 4 0, Ma, M, ?_, ?_, hR⟩
    · simp only [if_neg c1, b1s, i10, if_pos c2]
      have e : fX7_status_32 400 0 0 Ma = some (((((((0 + Ma 7 0) + Ma 7 1) + Ma 7 2) + Ma 7 3) + Ma 7 4) + Ma 7 5) + Ma 7 6, Ma) := rfl
      rw [e, hr.2, Int32.zero_add]
    · simp only [if_neg c1, b1s, i10]
      rfl
  · obtain ⟨j, hj, rfl⟩ := in_k 6 (by decide) (x := x1) (fun h => h.elim c2 (fun h => c1 (Or.inr h)))
    refine ⟨Ma 7 j, Ma, M, ?_, ?_, hR⟩
    · simp only [if_neg c1, b1s, i10, if_neg c2]
      rw [cks _ (vp_in_nI (by omega) (by decide)), nI_clamp (by omega)]
    · simp only [if_neg c1, b1s, i10]
      rw [nI_1, cks _ (vp_in_nI (by omega) (by decide)), nI_clamp (by omega), hr.1 j (by omega)]
