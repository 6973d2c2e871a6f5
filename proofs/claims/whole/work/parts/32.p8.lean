-- rule
theorem isRule_e (j : Nat) (hj : j < 6) (v : Int32) : fX8_isRule (nI j) v = some (if v < tabL j ∨ tabM j < v then 0 else 1) := by
  have hb : ∀ (c : Prop) [Decidable c], dc_b1 (some (if c then (0 : Int32) else 1)) (fun r => dc_bl r (some r)) = some (if c then (0 : Int32) else 1) := fun c _ => by rw [b1s, bli]
  match j, hj with
  | 0, _ => exact (congrArg (fun z => dc_b1 z (fun r => dc_bl r (some r))) (isIn8_e v 1 4 (by decide) (by decide))).trans (hb _)
  | 1, _ => exact (congrArg (fun z => dc_b1 z (fun r => dc_bl r (some r))) (isIn8_e v 1 40 (by decide) (by decide))).trans (hb _)
  | 2, _ => exact (congrArg (fun z => dc_b1 z (fun r => dc_bl r (some r))) (isIn8_e v 0 1 (by decide) (by decide))).trans (hb _)
  | 3, _ => exact (congrArg (fun z => dc_b1 z (fun r => dc_bl r (some r))) (isIn8_e v 0 1 (by decide) (by decide))).trans (hb _)
  | 4, _ => exact (congrArg (fun z => dc_b1 z (fun r => dc_bl r (some r))) (isIn8_e v 0 2 (by decide) (by decide))).trans (hb _)
  | 5, _ => exact (congrArg (fun z => dc_b1 z (fun r => dc_bl r (some r))) (isIn8_e v 0 20 (by decide) (by decide))).trans (hb _)
theorem isRule_o {x : Int32} (h : x < 0 ∨ 5 < x) (v : Int32) : fX8_isRule x v = some 0 := by
  have n : ∀ k : Nat, k < 6 → ¬ x = nI k := fun k hk e => by
    subst e
    rcases h with h | h
    · exact nI_pos (by omega) h
    · exact absurd h (nI_nlt (a := 5) (b := k) (by omega) (by decide))
  unfold fX8_isRule
  rw [if_neg (show ¬ x = 0 from n 0 (by decide)), if_neg (show ¬ x = 1 from n 1 (by decide)), if_neg (show ¬ x = 2 from n 2 (by decide)), if_neg (show ¬ x = 3 from n 3 (by decide)), if_neg (show ¬ x = 4 from n 4 (by decide)), if_neg (show ¬ x = 5 from n 5 (by decide))]
def cut (k : Nat) (f : Nat → Int32) : Nat → Int32 := fun i => if 10 + k ≤ i ∧ i < 14 then -1 else f i
theorem cut8 : ∀ (r k n : Nat) (M : ST), k + r = 4 → r < n → fX8_cutsLine_7 n (nI k) M = some (va_up M 1 (cut k (M 1))) := by
  intro r
  induction r with
  | zero =>
    intro k n M hk hn
    obtain ⟨n, rfl⟩ : ∃ n', n = n' + 1 := ⟨n - 1, by omega⟩
    show fX8_cutsLine_7_s (fX8_cutsLine_7 n) (nI k) M = _
    unfold fX8_cutsLine_7_s
    rw [if_pos (show (4 : Int32) ≤ nI k from nI_le (a := 4) (by omega) (by omega))]
    have e : cut k (M 1) = M 1 := by
      funext i
      unfold cut
      rw [if_neg (by omega)]
    rw [e, vup_same]
  | succ r ih =>
    intro k n M hk hn
    obtain ⟨n, rfl⟩ : ∃ n', n = n' + 1 := ⟨n - 1, by omega⟩
    show fX8_cutsLine_7_s (fX8_cutsLine_7 n) (nI k) M = _
    unfold fX8_cutsLine_7_s
    have e : (10 : Int32) + nI k = nI (10 + k) := by rw [show (10 : Int32) = nI 10 from rfl, nI_add]
    rw [if_neg (show ¬ (4 : Int32) ≤ nI k from nI_ge (b := 4) (by omega) (by decide)), e, cks _ (vp_in_nI (by omega) (by decide)), lts, lts, nI_clamp (by omega), nI_1, ih (k + 1) n _ (by omega) (by omega)]
    congr 1
    funext a
    unfold sti va_up
    by_cases e1 : a = 1
    · simp only [if_pos e1, if_true]
      funext i
      unfold cut upd
      by_cases h1 : 10 + (k + 1) ≤ i ∧ i < 14
      · rw [if_pos h1, if_pos (by omega)]
      · rw [if_neg h1]
        by_cases h2 : i = 10 + k
        · rw [if_pos h2, if_pos (by omega)]
        · rw [if_neg h2, if_neg (by omega)]
    · simp only [if_neg e1]
theorem fill_e {v : Nat} (h1 : 1 ≤ v) (h2 : v ≤ 4) (f : Nat → Int32) : ∃ g, fJ7_fill_fda19 (nI v) 4 (-1) f = some g ∧ ∀ k, k < 4 → g k = if v ≤ k then -1 else f k := by
  rcases (show v = 1 ∨ v = 2 ∨ v = 3 ∨ v = 4 by omega) with rfl | rfl | rfl | rfl
  · refine ⟨upd (upd (upd f 1 (-1)) 2 (-1)) 3 (-1), rfl, fun k hk => ?_⟩
    match k, hk with
    | 0, _ => rfl
    | 1, _ => rfl
    | 2, _ => rfl
    | 3, _ => rfl
  · refine ⟨upd (upd f 2 (-1)) 3 (-1), rfl, fun k hk => ?_⟩
    match k, hk with
    | 0, _ => rfl
    | 1, _ => rfl
    | 2, _ => rfl
    | 3, _ => rfl
  · refine ⟨upd f 3 (-1), rfl, fun k hk => ?_⟩
    match k, hk with
    | 0, _ => rfl
    | 1, _ => rfl
    | 2, _ => rfl
    | 3, _ => rfl
  · refine ⟨f, rfl, fun k hk => ?_⟩
    rw [if_neg (by omega)]
theorem core_cut {F C S : ST} {m g : Nat → Int32} {v : Nat} (h : core F C S m) (hg : ∀ k, k < 4 → g k = if v ≤ k then -1 else S 5 k) : core F C (va_up S 5 g) (cut v m) := by
  obtain ⟨⟨a1, a2, a3, a4⟩, b, c, d, e, f, g1, h⟩ := h
  have o : ∀ i, (i < 10 ∨ 14 ≤ i) → cut v m i = m i := fun i hi => by unfold cut; rw [if_neg (by omega)]
  refine ⟨⟨(o _ (by decide)).trans a1, (o _ (by decide)).trans a2, (o _ (by decide)).trans a3, (o _ (by decide)).trans a4⟩, fun j hj => (o _ (by omega)).trans (b j hj), fun k hk => ?_, fun p hp => ?_, fun j hj => (o _ (by omega)).trans (e j hj), fun j hj => (o _ (by omega)).trans (f j hj), (o _ (by decide)).trans g1, fun k hk hk2 => (o _ (by omega)).trans (h k hk hk2)⟩
  · show cut v m (10 + k) = g k
    rw [hg k hk]
    unfold cut
    by_cases hv : v ≤ k
    · rw [if_pos (by omega), if_pos hv]
    · rw [if_neg (by omega), if_neg hv]; exact c k hk
  · rw [o _ (by omega), o _ (by omega), o _ (by omega), o _ (by omega), o _ (by omega), o _ (by omega)]
    exact d p hp
theorem rng_e (j : Nat) (hj : j < 6) {v : Int32} (h : ¬ (v < tabL j ∨ tabM j < v)) : (j = 0 → ∃ a : Nat, 1 ≤ a ∧ a ≤ 4 ∧ v = nI a) ∧ (j = 1 → ∃ a : Nat, 1 ≤ a ∧ a ≤ 40 ∧ v = nI a) ∧ (j = 2 ∨ j = 3 → v = 0 ∨ v = 1) ∧ (j = 4 → v = 0 ∨ v = 1 ∨ v = 2) ∧ (j = 5 → ∃ a : Nat, a ≤ 20 ∧ v = nI a) := by
  have low : ∀ (l u : Nat), u < 2 ^ 30 → ¬ (v < nI l ∨ nI u < v) → l ≤ u → ∃ a : Nat, l ≤ a ∧ a ≤ u ∧ v = nI a := by
    intro l u hu hv hlu
    obtain ⟨a, ha, e⟩ := in_k u hu (x := v) (fun q => hv (q.elim (fun z => Or.inl (by
      rw [fa_lt] at z ⊢
      rw [nI_toInt (by omega)]
      have h0 : (0 : Int32).toInt = 0 := by decide
      omega)) Or.inr))
    refine ⟨a, ?_, ha, e⟩
    rcases Nat.lt_or_ge a l with z | z
    · exact absurd (Or.inl (by rw [e]; exact nI_lt z (by omega))) hv
    · exact z
  match j, hj with
  | 0, _ => exact ⟨fun _ => low 1 4 (by decide) h (by decide), fun h => absurd h (by decide), fun h => absurd h (by decide), fun h => absurd h (by decide), fun h => absurd h (by decide)⟩
  | 1, _ => exact ⟨fun h => absurd h (by decide), fun _ => low 1 40 (by decide) h (by decide), fun h => absurd h (by decide), fun h => absurd h (by decide), fun h => absurd h (by decide)⟩
  | 2, _ =>
    refine ⟨fun h => absurd h (by decide), fun h => absurd h (by decide), fun _ => ?_, fun h => absurd h (by decide), fun h => absurd h (by decide)⟩
    obtain ⟨a, -, a2, e⟩ := low 0 1 (by decide) h (by decide)
    rcases (show a = 0 ∨ a = 1 by omega) with rfl | rfl
    · exact Or.inl e
    · exact Or.inr e
  | 3, _ =>
    refine ⟨fun h => absurd h (by decide), fun h => absurd h (by decide), fun _ => ?_, fun h => absurd h (by decide), fun h => absurd h (by decide)⟩
    obtain ⟨a, -, a2, e⟩ := low 0 1 (by decide) h (by decide)
    rcases (show a = 0 ∨ a = 1 by omega) with rfl | rfl
    · exact Or.inl e
    · exact Or.inr e
  | 4, _ =>
    refine ⟨fun h => absurd h (by decide), fun h => absurd h (by decide), fun h => absurd h (by decide), fun _ => ?_, fun h => absurd h (by decide)⟩
    obtain ⟨a, -, a2, e⟩ := low 0 2 (by decide) h (by decide)
    rcases (show a = 0 ∨ a = 1 ∨ a = 2 by omega) with rfl | rfl | rfl
    · exact Or.inl e
    · exact Or.inr (Or.inl e)
    · exact Or.inr (Or.inr e)
  | 5, _ =>
    refine ⟨fun h => absurd h (by decide), fun h => absurd h (by decide), fun h => absurd h (by decide), fun h => absurd h (by decide), fun _ => ?_⟩
    obtain ⟨a, -, a2, e⟩ := low 0 20 (by decide) h (by decide)
    exact ⟨a, a2, e⟩
/-- AHEAD becomes v: the seat, the row, what is kept -/
theorem ahead_set {F C S : ST} {m : Nat → Int32} (hc : core F C S m) (hi : inv F C S) {v : Nat} (h1 : 1 ≤ v) (h2 : v ≤ 4) : ∃ S', fX4_giveRule 0 (nI v) S = some S' ∧ core F C S' (cut v (upd m 4 (nI v))) ∧ inv F C S' ∧ S' 0 = S 0 := by
  obtain ⟨g, g1, g2⟩ := fill_e h1 h2 (S 5)
  refine ⟨va_up (sti S 4 0 (nI v)) 5 g, ?_, core_cut (core_rule hc (j := 0) (by decide) (nI v)) g2, ?_, rfl⟩
  · unfold fX4_giveRule
    rw [show (0 : Int32) = nI 0 from rfl, cks _ (vp_in_nI (by decide) (by decide)), lts, nI_clamp (by decide), if_pos rfl]
    show dc_b1 (fJ7_fill_fda19 (nI v) 4 (-1) (S 5)) _ = _
    rw [g1, b1s, lts]
  · obtain ⟨n, hn, hF, hiF, ⟨-, r1, r2, r3, r4, r5⟩, ⟨l1, l2, l3, l4, l5⟩, hiC⟩ := hi
    have gv : ∀ k, k < 4 → g k = -1 ∨ g k = S 5 k := fun k hk => by
      rw [g2 k hk]
      by_cases e : v ≤ k
      · rw [if_pos e]; exact Or.inl rfl
      · rw [if_neg e]; exact Or.inr rfl
    refine ⟨n, hn, hF, hiF, ⟨⟨v, h1, h2, rfl⟩, r1, r2, r3, r4, r5⟩, ⟨fun k hk => ?_, fun k hk hk2 => ?_, fun k l hk hl hkl he => ?_, l4, l5⟩, hiC⟩
    · show g k = -1 ∨ ∃ q : Nat, q < n ∧ bt (F 0 5) q = false ∧ g k = nI q
      rcases gv k hk with e | e
      · exact Or.inl e
      · rw [e]; exact l1 k hk
    · show g k = -1
      have hk3 : nI v ≤ nI k := hk2
      rw [nI_leI (by omega) (by omega)] at hk3
      rw [g2 k hk, if_pos hk3]
    · have he : g k = g l := he
      show g k = -1
      rcases gv k hk with e | e
      · exact e
      · rcases gv l hl with e2 | e2
        · rw [he]; exact e2
        · rw [e]; exact l3 k l hk hl hkl (by rw [← e, ← e2]; exact he)
theorem cut_same {F C S : ST} {m : Nat → Int32} (hc : core F C S m) (hi : inv F C S) {a : Nat} (ha : a ≤ 4) (hA : S 4 0 = nI a) (i : Nat) : cut a m i = m i := by
  unfold cut
  by_cases h : 10 + a ≤ i ∧ i < 14
  · rw [if_pos h]
    obtain ⟨n, -, -, -, -, ⟨-, l2, -⟩, -⟩ := hi
    have e := hc.2.2.1 (i - 10) (by omega)
    rw [show 10 + (i - 10) = i by omega] at e
    rw [e, l2 (i - 10) (by omega) (by rw [hA]; exact nI_le (by omega) (by omega))]
  · rw [if_neg h]
theorem P_rule_ok : P_rule RR := by
  intro x1 x2 Ma Fo Sc Se Tr Ch Us Ta Dr G0 N0 G1 N1 G2 N2 G3 N3 Fo2 Sc2 Se2 Tr2 Fo3 Sc3 Se3 Tr3 M N hR
  unfold fX7_rule fX8_rule fX7_rule_26
  rw [within_e, fd7_0, fd8_0]
  by_cases c1 : x1 < 0 ∨ 5 < x1
  · exact ⟨-1000000001, fMa 0 Ma, Se, fM 0 M, by simp only [if_pos c1, b1s, b2s, if_true], by rw [isRule_o c1, b1s, if_pos rfl, b2s], RR_f hR 0 (by decide)⟩
  obtain ⟨j, hj, rfl⟩ := in_k 5 (by decide) c1
  rw [isRule_e j (by omega), b1s, b1s, if_neg c1, i10, cks _ (vp_in_nI (by omega) (by decide)), cks _ (vp_in_nI (by omega) (by decide)), cks _ (vp_in_nI (by omega) (by decide)), nI_clamp (by omega), within_e, b1s, lts]
  by_cases c2 : x2 < tabL j ∨ tabM j < x2
  · exact ⟨-1000000001, fMa 0 Ma, Se, fM 0 M, by rw [if_pos c2, if_pos rfl, b2s], by rw [if_pos c2, if_pos rfl, b2s], RR_f hR 0 (by decide)⟩
  rw [if_neg c2, i10, i10, show (4 : Int32) = nI 4 from rfl, nI_add, bec_e (by omega), b2s]
  obtain ⟨⟨hc, hi, hk⟩, h2⟩ := hR
  have rg := rng_e j (by omega) c2
  have hm : M 1 (4 + j) = Se 4 j := hc.2.1 j (by omega)
  by_cases h0 : j = 0
  · subst h0
    obtain ⟨v, v1, v2, rfl⟩ := rg.1 rfl
    obtain ⟨S', s1, s2, s3, s4⟩ := ahead_set hc hi v1 v2
    refine ⟨Se 4 0, Ma, S', va_up (sti M 1 4 (nI v)) 1 (cut v (upd (M 1) 4 (nI v))), ?_, ?_, ⟨s2, s3, by rw [s4]; exact hk.1, by rw [s4]; exact hk.2.1, hk.2.2⟩, h2⟩
    · rw [show nI 0 = (0 : Int32) from rfl, s1, b1s]
    · unfold fX8_cutsLine
      rw [lts, show (sti M 1 (4 + 0) (nI v)) 1 4 = nI v from rfl, cut8 (4 - v) v 400 _ (by omega) (by omega), b1s, hm]
      rfl
  · have hnz : ¬ nI j = 0 := nI_ne0 (by omega) (by omega)
    have hg : fX4_giveRule (nI j) x2 Se = some (sti Se 4 j x2) := by
      unfold fX4_giveRule
      rw [cks _ (vp_in_nI (by omega) (by decide)), lts, nI_clamp (by omega), if_neg hnz]
    obtain ⟨n, hn, hF, hiF, ⟨⟨a, a1, a2, hA⟩, r1, r2, r3, r4, r5⟩, hL, hiC⟩ := hi
    have hi0 : inv Fo Sc Se := ⟨n, hn, hF, hiF, ⟨⟨a, a1, a2, hA⟩, r1, r2, r3, r4, r5⟩, hL, hiC⟩
    have hS4 : ∀ i, i ≠ j → (sti Se 4 j x2) 4 i = Se 4 i := fun i hij => upd_n hij
    have hSj : (sti Se 4 j x2) 4 j = x2 := upd_s
    have hA' : (sti Se 4 j x2) 4 0 = nI a := (hS4 0 (by omega)).trans hA
    have hi2 : inv Fo Sc (sti Se 4 j x2) := by
      refine ⟨n, hn, hF, hiF, ⟨⟨a, a1, a2, hA'⟩, ?_, ?_, ?_, ?_, ?_⟩, ⟨hL.1, fun k hk hk2 => hL.2.1 k hk (by rw [hA]; rw [hA'] at hk2; exact hk2), hL.2.2⟩, hiC⟩
      · by_cases e : j = 1
        · subst e; rw [hSj]; exact rg.2.1 rfl
        · rw [hS4 1 (fun h => e h.symm)]; exact r1
      · by_cases e : j = 2
        · subst e; rw [hSj]; exact rg.2.2.1 (Or.inl rfl)
        · rw [hS4 2 (fun h => e h.symm)]; exact r2
      · by_cases e : j = 3
        · subst e; rw [hSj]; exact rg.2.2.1 (Or.inr rfl)
        · rw [hS4 3 (fun h => e h.symm)]; exact r3
      · by_cases e : j = 4
        · subst e; rw [hSj]; exact rg.2.2.2.1 rfl
        · rw [hS4 4 (fun h => e h.symm)]; exact r4
      · by_cases e : j = 5
        · subst e; rw [hSj]; exact rg.2.2.2.2 rfl
        · rw [hS4 5 (fun h => e h.symm)]; exact r5
    have hc2 : core Fo Sc (sti Se 4 j x2) (upd (M 1) (4 + j) x2) := core_rule hc (by omega) x2
    have hM4 : (sti M 1 (4 + j) x2) 1 4 = nI a := by
      rw [sti_at, upd_n (by omega)]
      exact (hc.2.1 0 (by decide)).trans hA
    refine ⟨Se 4 j, Ma, sti Se 4 j x2, va_up (sti M 1 (4 + j) x2) 1 (cut a (upd (M 1) (4 + j) x2)), ?_, ?_, ⟨core_m hc2 (fun i _ => cut_same hc2 hi2 a2 hA' i), hi2, hk⟩, h2⟩
    · rw [hg, b1s]
    · unfold fX8_cutsLine
      rw [lts, hM4, cut8 (4 - a) a 400 _ (by omega) (by omega), b1s, hm]
      rfl
