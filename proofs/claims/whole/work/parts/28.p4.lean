-- as, person, now
theorem under_e : ∀ k, k < 7 → ∀ j, j < 7 → fX7_isUnder (nI k) (nI j) = some (if j = 0 ∨ j = k ∨ (j = 1 ∧ k = 2) then 1 else 0) := by decide +kernel
theorem P_as_ok : P_as RR := by
  intro x1 x2 Ma Fo Sc Se Tr Ch Us Ta Dr G0 N0 G1 N1 G2 N2 G3 N3 Fo2 Sc2 Se2 Tr2 Fo3 Sc3 Se3 Tr3 M N hR
  obtain ⟨n, hn, hF, hM⟩ := RR_n hR
  have j1 : fX8_isIn x2.toInt64 0 6 = some (if x2 < 0 ∨ 6 < x2 then 0 else 1) := isIn8_e x2 0 6 (by decide) (by decide)
  unfold fX7_as fX8_as fX7_as_18 fX8_as_20 fX8_as_53 fX8_as_62
  rw [isOne_e hn hF, isP_e hM, within_e, j1, fd7_0, fd8_0, fd7_2, fd8_2]
  by_cases c1 : x1 < 0 ∨ nI n ≤ x1
  · exact ⟨-1000000001, _, _, by simp only [if_pos c1, b1s, b2s, if_true, i10], by simp only [if_pos c1, b1s, b2s, if_true, i10], RR_f hR 0 (by decide)⟩
  obtain ⟨p, hp, rfl⟩ := in_n hn c1
  by_cases c2 : x2 < 0 ∨ 6 < x2
  · exact ⟨-1000000001, _, _, by simp only [if_neg c1, if_pos c2, b1s, b2s, if_true, i10], by simp only [if_neg c1, if_pos c2, b1s, b2s, if_true, i10], RR_f hR 0 (by decide)⟩
  obtain ⟨j, hj, rfl⟩ := in_k 6 (by decide) c2
  have hc := hR.1.1
  obtain ⟨n', hn', hF', hiF, -⟩ := hR.1.2.1
  obtain ⟨k, hk, ek⟩ := (hiF.1 p (by omega)).1
  have hd := hc.2.2.2.1 p (by omega)
  simp only [if_neg c1, if_neg c2, b1s, i10]
  rw [cks _ (vp_in_nI (show p < 10 by omega) (by decide)), cks _ (vp_in_nI (show p < 10 by omega) (by decide)), nI_clamp (by omega), ek, under_e k (by omega) j (by omega), has0_0 (by omega), has0_4 (by omega), b1s, b1s, b1s, hd.1, ek, hd.2.2.2.2.1]
  have q1 : (nI j = 0) ↔ j = 0 := by rw [show (0 : Int32) = nI 0 from rfl, nI_eq (by omega) (by omega)]
  have q2 : (nI j = nI k) ↔ j = k := nI_eq (by omega) (by omega)
  have q3 : (nI j = 1) ↔ j = 1 := by rw [show (1 : Int32) = nI 1 from rfl, nI_eq (by omega) (by omega)]
  have q4 : (nI k = 2) ↔ k = 2 := by rw [show (2 : Int32) = nI 2 from rfl, nI_eq (by omega) (by omega)]
  by_cases h : j = 0 ∨ j = k ∨ (j = 1 ∧ k = 2)
  · refine ⟨Se 6 p, Ma, M, by rw [if_pos h, i10], ?_, hR⟩
    simp only [q1, q2, q3, q4]
    by_cases a1 : j = 0
    · rw [if_pos a1]
    by_cases a2 : j = k
    · rw [if_neg a1, if_pos a2]
    · have a3 : j = 1 ∧ k = 2 := by omega
      rw [if_neg a1, if_neg a2, if_pos a3.1, if_pos a3.2]
  · refine ⟨-1000000003, fMa 2 Ma, fM 2 M, by rw [if_neg h, if_pos rfl, b2s], ?_, RR_f hR 2 (by decide)⟩
    simp only [q1, q2, q3, q4, b2s]
    rw [if_neg (by omega), if_neg (by omega)]
    by_cases a3 : j = 1
    · rw [if_pos a3, if_neg (by omega)]
    · rw [if_neg a3]
theorem sti_same {M : ST} {k i : Nat} {v : Int32} (h : M k i = v) : sti M k i v = M := by
  funext a
  unfold sti va_up
  by_cases e : a = k
  · rw [if_pos e, e]
    funext b
    unfold upd
    by_cases e2 : b = i
    · rw [if_pos e2, e2, h]
    · rw [if_neg e2]
  · rw [if_neg e]
theorem sti_at {M : ST} {k i j : Nat} {v : Int32} : (sti M k i v) k j = upd (M k) i v j := by
  unfold sti va_up
  rw [if_pos rfl]
theorem person_loop {M : ST} {p : Nat} (hp : p < 10) (hz : ∀ q, q < 10 → M 1 (74 + (10 * p + q)) = 0 ∧ M 1 (74 + (10 * q + p)) = 0) : ∀ (r q n : Nat), q + r = 10 → r < n → fX8_person_142 n (nI p) (nI q) M = some (nI p, sti M 1 0 (M 1 0 + 1)) := by
  intro r
  induction r with
  | zero =>
    intro q n hq hn
    obtain ⟨n, rfl⟩ : ∃ n', n = n' + 1 := ⟨n - 1, by omega⟩
    show fX8_person_142_s (fX8_person_142 n) (nI p) (nI q) M = _
    unfold fX8_person_142_s
    rw [if_pos (show (10 : Int32) ≤ nI q from nI_le (a := 10) (by omega) (by omega)), lts]
  | succ r ih =>
    intro q n hq hn
    obtain ⟨n, rfl⟩ : ∃ n', n = n' + 1 := ⟨n - 1, by omega⟩
    show fX8_person_142_s (fX8_person_142 n) (nI p) (nI q) M = _
    unfold fX8_person_142_s
    have e1 : (74 + 10 * nI p) + nI q = nI (74 + (10 * p + q)) := by rw [show (10 : Int32) = nI 10 from rfl, show (74 : Int32) = nI 74 from rfl, pk_mul, nI_add, nI_add, Nat.add_assoc]
    have e2 : (74 + 10 * nI q) + nI p = nI (74 + (10 * q + p)) := by rw [show (10 : Int32) = nI 10 from rfl, show (74 : Int32) = nI 74 from rfl, pk_mul, nI_add, nI_add, Nat.add_assoc]
    rw [if_neg (show ¬ (10 : Int32) ≤ nI q from nI_ge (b := 10) (by omega) (by decide)), e1, e2, cks _ (vp_in_nI (by omega) (by decide)), lts, cks _ (vp_in_nI (by omega) (by decide)), lts, lts, nI_clamp (by omega), nI_clamp (by omega), sti_same (hz q (by omega)).1, sti_same (hz q (by omega)).2, nI_1]
    exact ih (q + 1) n (by omega) (by omega)
theorem P_person_ok : P_person RR := by
  intro x1 x2 x3 Ma Fo Sc Se Tr Ch Us Ta Dr G0 N0 G1 N1 G2 N2 G3 N3 Fo2 Sc2 Se2 Tr2 Fo3 Sc3 Se3 Tr3 M N hR
  obtain ⟨n, hn, hF, hM⟩ := RR_n hR
  have j1 : fX8_isIn x1.toInt64 0 6 = some (if x1 < 0 ∨ 6 < x1 then 0 else 1) := isIn8_e x1 0 6 (by decide) (by decide)
  have j2 : fX8_isIn x2.toInt64 20 99 = some (if x2 < 20 ∨ 99 < x2 then 0 else 1) := isIn8_e x2 20 99 (by decide) (by decide)
  have j3 : fX8_isIn x3.toInt64 0 3 = some (if x3 < 0 ∨ 3 < x3 then 0 else 1) := isIn8_e x3 0 3 (by decide) (by decide)
  unfold fX7_person fX8_person fX7_person_28 fX8_person_38
  rw [within_e, within_e, isSort_e, j1, j2, j3, fd7_0, fd8_0, fd7_1, fd8_1]
  by_cases c1 : x1 < 0 ∨ 6 < x1
  · exact ⟨-1000000001, _, _, _, by simp only [if_pos c1, b1s, b2s, if_true, i10], by simp only [if_pos c1, b1s, b2s, if_true, i10], RR_f hR 0 (by decide)⟩
  by_cases c2 : x2 < 20 ∨ 99 < x2
  · exact ⟨-1000000001, _, _, _, by simp only [if_neg c1, if_pos c2, b1s, b2s, if_true, i10], by simp only [if_neg c1, if_pos c2, b1s, b2s, if_true, i10], RR_f hR 0 (by decide)⟩
  by_cases c3 : x3 < 0 ∨ 3 < x3
  · exact ⟨-1000000001, _, _, _, by simp only [if_neg c1, if_neg c2, if_pos c3, b1s, b2s, if_true, i10], by simp only [if_neg c1, if_neg c2, if_pos c3, b1s, b2s, if_true, i10], RR_f hR 0 (by decide)⟩
  simp only [if_neg c1, if_neg c2, if_neg c3, b1s, i10, lts, hF, hM]
  by_cases c4 : n = 10
  · subst c4
    exact ⟨-1000000002, fMa 1 Ma, Fo, fM 1 M, rfl, rfl, RR_f hR 1 (by decide)⟩
  have hlt : nI n < 10 := nI_lt (a := n) (b := 10) (by omega) (by decide)
  have hne : ¬ nI n = 10 := fun e => c4 ((nI_eq (a := n) (b := 10) (by omega) (by decide)).mp e)
  obtain ⟨⟨hc, ⟨n', hn', hF', ⟨i1, i2, i3, i4⟩, hiR, ⟨l1, l2, l3, l4, l5⟩, hiC⟩, hk⟩, h2⟩ := hR
  have hnn : n' = n := (nI_eq (by omega) (by omega)).mp (hF'.symm.trans hF)
  subst hnn
  have e6 : 14 + 6 * nI n' = nI (14 + 6 * n') := by rw [show (6 : Int32) = nI 6 from rfl, show (14 : Int32) = nI 14 from rfl, pk_mul, nI_add]
  have g1 : nI (14 + 6 * n') + 1 = nI (14 + 6 * n' + 1) := nI_1 _
  have g2 : nI (14 + 6 * n') + 2 = nI (14 + 6 * n' + 2) := by rw [show (2 : Int32) = nI 2 from rfl, nI_add]
  have g3 : nI (14 + 6 * n') + 3 = nI (14 + 6 * n' + 3) := by rw [show (3 : Int32) = nI 3 from rfl, nI_add]
  have g4 : nI (14 + 6 * n') + 4 = nI (14 + 6 * n' + 4) := by rw [show (4 : Int32) = nI 4 from rfl, nI_add]
  have g5 : nI (14 + 6 * n') + 5 = nI (14 + 6 * n' + 5) := by rw [show (5 : Int32) = nI 5 from rfl, nI_add]
  have hd := hc.2.2.2.1 n' (by omega)
  have hb5 : bt (Fo 0 5) n' = false := i2 n' (Nat.le_refl _) (by omega)
  have m3 : M 1 (14 + 6 * n' + 3) = 0 := hd.2.2.2.1.trans (i3 n' (Nat.le_refl _) (by omega))
  have m4 : M 1 (14 + 6 * n' + 4) = 0 := hd.2.2.2.2.1.trans (l5 n' (Nat.le_refl _) (by omega))
  have m5 : M 1 (14 + 6 * n' + 5) = 0 := by rw [hd.2.2.2.2.2, hb5]; rfl
  obtain ⟨M3, hM3⟩ : ∃ M3, M3 = sti (sti (sti M 1 (14 + 6 * n') x1) 1 (14 + 6 * n' + 1) x2) 1 (14 + 6 * n' + 2) x3 := ⟨_, rfl⟩
  have hrd : ∀ i, i ≠ 14 + 6 * n' → i ≠ 14 + 6 * n' + 1 → i ≠ 14 + 6 * n' + 2 → M3 1 i = M 1 i := by
    intro i a1 a2 a3
    rw [hM3, sti_at, upd_n a3, sti_at, upd_n a2, sti_at, upd_n a1]
  refine ⟨nI n', Ma, sti (sti (sti (sti Fo 2 n' x1) 3 n' x2) 4 n' x3) 0 0 (nI n' + 1), sti M3 1 0 (nI n' + 1), ?_, ?_, ?_⟩
  · rw [if_pos hlt]
    unfold fX1_join
    rw [lts, hF, if_pos hlt, cks _ (vp_in_nI (by omega) (by decide)), lts, cks _ (vp_in_nI (by omega) (by decide)), lts, cks _ (vp_in_nI (by omega) (by decide)), lts, lts, nI_clamp (by omega), b2s]
  · rw [if_neg hne]
    simp only [e6, g1, g2, g3, g4, g5]
    rw [cks _ (vp_in_nI (by omega) (by decide)), cks _ (vp_in_nI (by omega) (by decide)), cks _ (vp_in_nI (by omega) (by decide)), cks _ (vp_in_nI (by omega) (by decide)), cks _ (vp_in_nI (by omega) (by decide)), cks _ (vp_in_nI (by omega) (by decide))]
    simp only [nI_clamp (show 14 + 6 * n' < 2 ^ 31 by omega), nI_clamp (show 14 + 6 * n' + 1 < 2 ^ 31 by omega), nI_clamp (show 14 + 6 * n' + 2 < 2 ^ 31 by omega), nI_clamp (show 14 + 6 * n' + 3 < 2 ^ 31 by omega), nI_clamp (show 14 + 6 * n' + 4 < 2 ^ 31 by omega), nI_clamp (show 14 + 6 * n' + 5 < 2 ^ 31 by omega)]
    rw [← hM3, sti_same (M := M3) (by rw [hrd _ (by omega) (by omega) (by omega)]; exact m3), sti_same (M := M3) (by rw [hrd _ (by omega) (by omega) (by omega)]; exact m4), sti_same (M := M3) (by rw [hrd _ (by omega) (by omega) (by omega)]; exact m5)]
    have hl := person_loop (M := M3) (p := n') (by omega) (fun q hq => by
      rw [hrd _ (by omega) (by omega) (by omega), hrd _ (by omega) (by omega) (by omega), hc.2.2.2.2.1 _ (by omega), hc.2.2.2.2.1 _ (by omega)]
      exact ⟨i4 n' q (by omega) hq (Or.inl (Nat.le_refl _)), i4 q n' hq (by omega) (Or.inr (Or.inl (Nat.le_refl _)))⟩) 10 0 400 (by omega) (by omega)
    rw [hrd 0 (by omega) (by omega) (by omega), hM] at hl
    exact hl
  · have k1 := core_people (core_sort (core_age (core_kind hc (show n' < 10 by omega) x1) (show n' < 10 by omega) x2) (show n' < 10 by omega) x3) (nI n' + 1)
    have km : (sti M3 1 0 (nI n' + 1)) 1 = upd (upd (upd (upd (M 1) (14 + 6 * n') x1) (14 + 6 * n' + 1) x2) (14 + 6 * n' + 2) x3) 0 (nI n' + 1) := by
      rw [hM3]; rfl
    refine ⟨⟨?_, ⟨n' + 1, by omega, ?_, ⟨fun a ha => ?_, fun a ha hb => i2 a (by omega) hb, fun a ha hb => i3 a (by omega) hb, fun a b ha hb hab => i4 a b ha hb (by omega)⟩, hiR, ⟨fun k hk => ?_, l2, l3, ?_, fun a ha hb => l5 a (by omega) hb⟩, hiC⟩, ?_⟩, ?_⟩
    · rw [km]; exact k1
    · show nI n' + 1 = nI (n' + 1)
      exact nI_1 n'
    · show (∃ k : Nat, k ≤ 6 ∧ upd (Fo 2) n' x1 a = nI k) ∧ (∃ k : Nat, k ≤ 99 ∧ upd (Fo 3) n' x2 a = nI k) ∧ ∃ k : Nat, k < 4 ∧ upd (Fo 4) n' x3 a = nI k
      by_cases e : a = n'
      · rw [e, upd_s, upd_s, upd_s]
        refine ⟨in_k 6 (by decide) c1, in_k 99 (by decide) (fun q => c2 (q.elim (fun z => Or.inl ?_) Or.inr)), ?_⟩
        · rw [fa_lt] at z ⊢
          have h0 : (0 : Int32).toInt = 0 := by decide
          have h1 : (20 : Int32).toInt = 20 := by decide
          omega
        · obtain ⟨k, hk, e⟩ := in_k 3 (by decide) c3
          exact ⟨k, by omega, e⟩
      · rw [upd_n e, upd_n e, upd_n e]; exact i1 a ha
    · rcases l1 k hk with h | ⟨q, q1, q2, q3⟩
      · exact Or.inl h
      · exact Or.inr ⟨q, by omega, q2, q3⟩
    · rcases l4 with h | ⟨q, q1, q2, q3⟩
      · exact Or.inl h
      · exact Or.inr ⟨q, by omega, q2, q3⟩
    · rw [hM3]; exact hk
    · rw [hM3]; exact h2
