-- image, undo, now, sit, line
theorem core_m {F C S : ST} {m m' : Nat → Int32} (h : core F C S m) (e : ∀ i, i < 271 → m' i = m i) : core F C S m' := by
  obtain ⟨⟨a1, a2, a3, a4⟩, b, c, d, e1, f, g, h⟩ := h
  refine ⟨⟨(e _ (by decide)).trans a1, (e _ (by decide)).trans a2, (e _ (by decide)).trans a3, (e _ (by decide)).trans a4⟩, fun j hj => (e _ (by omega)).trans (b j hj), fun k hk => (e _ (by omega)).trans (c k hk), fun p hp => ?_, fun j hj => (e _ (by omega)).trans (e1 j hj), fun j hj => (e _ (by omega)).trans (f j hj), (e _ (by decide)).trans g, fun k hk hk2 => (e _ (by omega)).trans (h k hk hk2)⟩
  rw [e _ (by omega), e _ (by omega), e _ (by omega), e _ (by omega), e _ (by omega), e _ (by omega)]
  exact d p hp
theorem vup_same {M : ST} (k : Nat) : va_up M k (M k) = M := by
  funext a
  unfold va_up
  by_cases e : a = k
  · rw [if_pos e, e]
  · rw [if_neg e]
theorem P_image_ok : P_image RR := by
  intro Ma Fo Sc Se Tr Ch Us Ta Dr G0 N0 G1 N1 G2 N2 G3 N3 Fo2 Sc2 Se2 Tr2 Fo3 Sc3 Se3 Tr3 M N hR
  obtain ⟨⟨hc, hi, hk⟩, h2, h3⟩ := hR
  obtain ⟨F', f1, f2⟩ := takeF Fo2 Fo
  obtain ⟨C', c1, c2, -⟩ := takeC Sc2 Sc
  obtain ⟨S', s1, s2, -⟩ := takeS Se2 Se
  obtain ⟨K, k1, k2⟩ := img8 (M := M) 271 0 400 (M 2) (by omega) (by omega) (fun i hi => by omega)
  rw [vup_same] at k1
  refine ⟨1, sti Ma 0 7 1, F', C', S', sti (va_up M 2 K) 0 2 1, ?_, k1, ⟨hc, hi, hk⟩, ⟨rfl, Or.inr ⟨rfl, ?_, inv_ag f2 c2 s2 hi⟩⟩, h3⟩
  · unfold fX7_image fX2_takeFrom
    rw [f1, c1, s1, b1s, b1s, b1s, b3s, lts]
  · exact core_m (core_ag f2 c2 s2 hc) k2
theorem und8 {M : ST} : ∀ (r k n : Nat) (K : Nat → Int32), k + r = 271 → r < n → (∀ i, i < k → K i = M 2 i) → ∃ K', fX8_undo_16 n (nI k) (va_up M 1 K) = some (K' 0, va_up M 1 K') ∧ ∀ i, i < 271 → K' i = M 2 i := by
  intro r
  induction r with
  | zero =>
    intro k n K hk hn hK
    obtain ⟨n, rfl⟩ : ∃ n', n = n' + 1 := ⟨n - 1, by omega⟩
    refine ⟨K, ?_, fun i hi => hK i (by omega)⟩
    show fX8_undo_16_s (fX8_undo_16 n) (nI k) (va_up M 1 K) = _
    unfold fX8_undo_16_s
    rw [if_pos (show (271 : Int32) ≤ nI k from nI_le (a := 271) (by omega) (by omega))]
    rfl
  | succ r ih =>
    intro k n K hk hn hK
    obtain ⟨n, rfl⟩ : ∃ n', n = n' + 1 := ⟨n - 1, by omega⟩
    obtain ⟨K', h1, h2⟩ := ih (k + 1) n (upd K k (M 2 k)) (by omega) (by omega) (fun i hi => by
      by_cases e : i = k
      · rw [e, upd_s]
      · rw [upd_n e]; exact hK i (by omega))
    refine ⟨K', ?_, h2⟩
    rw [← h1]
    show fX8_undo_16_s (fX8_undo_16 n) (nI k) (va_up M 1 K) = _
    unfold fX8_undo_16_s
    rw [if_neg (show ¬ (271 : Int32) ≤ nI k from nI_ge (b := 271) (by omega) (by decide)), cks _ (vp_in_nI (by omega) (by decide)), cks _ (vp_in_nI (by omega) (by decide)), lts, lts, nI_clamp (by omega), nI_1]
    congr 1
    funext a
    unfold sti va_up
    by_cases e : a = 1
    · rw [if_pos e, if_pos e]; rfl
    · rw [if_neg e, if_neg e, if_neg e]
theorem P_undo_ok : P_undo RR := by
  intro Ma Fo Sc Se Tr Ch Us Ta Dr G0 N0 G1 N1 G2 N2 G3 N3 Fo2 Sc2 Se2 Tr2 Fo3 Sc3 Se3 Tr3 M N hR
  have hR0 := hR
  obtain ⟨⟨hc, hi, k1, k2, k3, k4, k5⟩, ⟨hq, hk⟩, h3⟩ := hR
  unfold fX7_undo fX8_undo
  rw [hq, fd7_3, fd8_3]
  by_cases c0 : Ma 0 7 = 0
  · refine ⟨-1000000004, fMa 3 Ma, Fo, Sc, Se, fM 3 M, ?_, ?_, RR_f hR0 3 (by decide)⟩
    · rw [if_pos c0, b2s]
    · rw [if_pos c0, b2s]
  · rcases hk with h | ⟨h1, h2, hi2⟩
    · exact absurd h c0
    · obtain ⟨F', f1, f2⟩ := takeF Fo Fo2
      obtain ⟨C', c1, c2, -⟩ := takeC Sc Sc2
      obtain ⟨S', s1, s2, s3, s4⟩ := takeS Se Se2
      obtain ⟨K, e1, e2⟩ := und8 (M := M) 271 0 400 (M 1) (by omega) (by omega) (fun i hi => by omega)
      rw [vup_same] at e1
      have ek : K 0 = F' 0 0 := by rw [e2 0 (by decide), f2.1]; exact h2.1.1
      refine ⟨F' 0 0, Ma, F', C', S', va_up M 1 K, ?_, ?_, ⟨core_m (core_ag f2 c2 s2 h2) e2, inv_ag f2 c2 s2 hi2, s3, s4, k3, k4, k5⟩, ⟨hq, Or.inr ⟨h1, h2, hi2⟩⟩, h3⟩
      · rw [if_neg c0]
        unfold fX2_takeFrom
        rw [f1, c1, s1, b1s, b1s, b1s, b3s]
      · rw [if_neg c0, ← ek]
        exact e1
theorem isPlace_e {Ma Se : ST} {a : Nat} (ha : a ≤ 4) (hA : Se 4 0 = nI a) (x : Int32) : fX7_isPlace x Ma Se = some (if x < 0 ∨ nI a ≤ x then 0 else 1) := by
  unfold fX7_isPlace
  rw [hA, within_e, b1s, bli]
  simp only [sub1_lt (show a < 2 ^ 30 by omega)]
theorem P_now_ok : P_now RR := by
  intro x1 Ma Fo Sc Se Tr Ch Us Ta Dr G0 N0 G1 N1 G2 N2 G3 N3 Fo2 Sc2 Se2 Tr2 Fo3 Sc3 Se3 Tr3 M N hR
  have hc := hR.1.1
  obtain ⟨n, hn, hF, hiF, ⟨⟨a, a1, a2, hA⟩, -⟩, -⟩ := hR.1.2.1
  have hA8 : M 1 4 = nI a := (hc.2.1 0 (by decide)).trans hA
  have e1 : (1 : Int32) + M 1 4 = nI (1 + a) := by rw [hA8, show (1 : Int32) = nI 1 from rfl, nI_add]
  have j1 : fX8_isIn x1.toInt64 0 (1 + M 1 4).toInt64 = some (if x1 < 0 ∨ nI (1 + a) < x1 then 0 else 1) := by rw [e1]; exact isIn8_e x1 0 (nI (1 + a)) (by decide) rfl
  unfold fX7_now fX8_now fX7_now_46
  rw [j1, fd7_0, fd8_0, isPlace_e a2 hA]
  by_cases c1 : x1 < 0 ∨ nI (1 + a) < x1
  · have n0 : ¬ x1 = 0 := fun e => by
      subst e
      rcases c1 with h | h
      · exact absurd h (by decide)
      · exact absurd h (by rw [fa_lt, nI_toInt (by omega)]; have : (0 : Int32).toInt = 0 := by decide
                           omega)
    have n1 : ¬ x1 = 1 := fun e => by
      subst e
      rcases c1 with h | h
      · exact absurd h (by decide)
      · exact absurd h (by rw [fa_lt, nI_toInt (by omega)]; have : (1 : Int32).toInt = 1 := by decide
                           omega)
    refine ⟨-1000000001, fMa 0 Ma, fM 0 M, ?_, by simp only [if_pos c1, b1s, b2s, if_true], RR_f hR 0 (by decide)⟩
    rw [if_neg n0, if_neg n1]
    by_cases c2 : x1 < 2
    · rw [if_pos c2, b2s]
    · have c3 : x1 - 2 < 0 ∨ nI a ≤ x1 - 2 := by
        rcases c1 with h | h
        · refine absurd ?_ c2
          rw [fa_lt] at h ⊢
          have z0 : (0 : Int32).toInt = 0 := by decide
          have z2 : (2 : Int32).toInt = 2 := by decide
          omega
        · obtain ⟨w, hw, rfl⟩ := nI_of (x := x1) (fun q => c2 (by
            rw [fa_lt] at q ⊢
            have z0 : (0 : Int32).toInt = 0 := by decide
            have z2 : (2 : Int32).toInt = 2 := by decide
            omega))
          rw [nI_ltI (by omega) (by omega)] at h
          right
          rw [show (2 : Int32) = nI 2 from rfl, pk_sub (by omega)]
          exact nI_le (by omega) (by omega)
      rw [if_neg c2, b1s, if_pos c3, if_pos rfl, b2s]
  · obtain ⟨w, hw, rfl⟩ := in_k (1 + a) (by omega) c1
    simp only [if_neg c1, b1s, i10]
    by_cases h0 : w = 0
    · subst h0
      refine ⟨Se 0 6, Ma, M, by rw [if_pos (show nI 0 = (0 : Int32) from rfl)], ?_, hR⟩
      rw [if_neg (by decide), ← hc.1.2.1]
      rfl
    by_cases h1 : w = 1
    · subst h1
      refine ⟨Se 0 7, Ma, M, by rw [if_neg (show ¬ nI 1 = (0 : Int32) by decide), if_pos (show nI 1 = (1 : Int32) from rfl)], ?_, hR⟩
      rw [if_neg (by decide), ← hc.1.2.2.1]
      rfl
    have n0 : ¬ nI w = 0 := fun e => h0 ((nI_eq (b := 0) (by omega) (by decide)).mp e)
    have n1 : ¬ nI w = 1 := fun e => h1 ((nI_eq (b := 1) (by omega) (by decide)).mp e)
    have n2 : ¬ nI w < 2 := nI_nlt (b := 2) (by omega) (by omega)
    have p2 : (2 : Int32) ≤ nI w := nI_le (a := 2) (by omega) (by omega)
    have s1 : nI w - 2 = nI (w - 2) := by rw [show (2 : Int32) = nI 2 from rfl, pk_sub (by omega)]
    have s2 : (10 + nI w) - 2 = nI (10 + (w - 2)) := by rw [show (2 : Int32) = nI 2 from rfl, show (10 : Int32) = nI 10 from rfl, nI_add, pk_sub (by omega)]; congr 1; omega
    have s3 : ¬ (nI (w - 2) < 0 ∨ nI a ≤ nI (w - 2)) := fun h => h.elim (nI_pos (by omega)) (nI_ge (by omega) (by omega))
    refine ⟨Se 5 (w - 2), Ma, M, ?_, ?_, hR⟩
    · rw [if_neg n0, if_neg n1, if_neg n2, s1, if_neg s3, i10, cks _ (vp_in_nI (by omega) (by decide)), nI_clamp (by omega)]
    · rw [if_pos p2, s2, cks _ (vp_in_nI (by omega) (by decide)), nI_clamp (by omega), hc.2.2.1 (w - 2) (by omega)]
