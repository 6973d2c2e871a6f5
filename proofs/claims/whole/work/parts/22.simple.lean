-- the start, findings, and the simple calls
theorem inv0 : inv i1 i3 i4 := by
  refine ⟨0, by decide, by decide +kernel, ⟨fun p hp => ⟨⟨0, by decide, rfl⟩, ⟨0, by decide, rfl⟩, ⟨0, by decide, rfl⟩⟩, fun p _ _ => b_0 p, fun p _ _ => rfl, fun p q _ _ _ => rfl⟩, ⟨⟨2, by decide, by decide, by decide +kernel⟩, ⟨7, by decide, by decide, by decide +kernel⟩, Or.inl (by decide +kernel), Or.inl (by decide +kernel), Or.inl (by decide +kernel), ⟨2, by decide, by decide +kernel⟩⟩, ⟨fun k hk => Or.inl ((by decide +kernel : ∀ k, k < 4 → i4 5 k = -1) k hk), fun k hk _ => (by decide +kernel : ∀ k, k < 4 → i4 5 k = -1) k hk, fun k l hk _ _ _ => (by decide +kernel : ∀ k, k < 4 → i4 5 k = -1) k hk, Or.inl (by decide +kernel), fun p _ _ => rfl⟩, ⟨0, by decide, by decide +kernel, fun k hk => absurd hk (Nat.not_lt_zero k), fun h => absurd h (Nat.lt_irrefl 0)⟩⟩
theorem core0 : core i1 i3 i4 (i8 1) := by
  refine ⟨by decide +kernel, by decide +kernel, by decide +kernel, by decide +kernel, by decide +kernel, by decide +kernel, by decide +kernel, fun k _ h => absurd h ?_⟩
  show ¬ nI k < 0
  rename_i hk
  exact nI_pos (by omega)
theorem rSh0 (t : Nat) (ht : t < 4) : rSh i5 (fun _ => 0) (i8 7 t) (i8 8 t) (fun _ => 0) t := by
  refine ⟨Or.inl ⟨rfl, (by decide +kernel : ∀ t, t < 4 → i8 7 t = -1) t ht⟩, ⟨0, by decide, rfl⟩, (by decide +kernel : ∀ t, t < 4 → i8 8 t = i5 0 1) t ht, fun i _ => rfl⟩
theorem RR0_ok : RR0 RR := by
  refine ⟨⟨core0, inv0, by decide +kernel, by decide +kernel, by decide +kernel, by decide +kernel, by decide +kernel⟩, ⟨by decide +kernel, Or.inl (by decide +kernel)⟩, ⟨by decide +kernel, by decide +kernel⟩, ⟨by decide +kernel, 0, by decide, by decide +kernel, fun k hk => absurd hk (Nat.not_lt_zero k)⟩, rSh0 0 (by decide), rSh0 1 (by decide), rSh0 2 (by decide), rSh0 3 (by decide)⟩
-- findings
abbrev fMa (j : Nat) (Ma : ST) : ST := sti Ma 7 j (Ma 7 j + 1)
abbrev fM (j : Nat) (M : ST) : ST := sti (sti M 4 0 (M 4 0 + 1)) 4 (j + 1) (M 4 (j + 1) + 1)
theorem upd_s {f : Nat → Int32} {k : Nat} {x : Int32} : upd f k x k = x := if_pos rfl
theorem upd_n {f : Nat → Int32} {k j : Nat} {x : Int32} (h : j ≠ k) : upd f k x j = f j := if_neg h
theorem rFind_up {f g : Nat → Int32} (h : rFind f g) {j : Nat} (hj : j < 7) : rFind (upd f j (f j + 1)) (upd (upd g 0 (g 0 + 1)) (j + 1) (g (j + 1) + 1)) := by
  obtain ⟨h1, h2⟩ := h
  refine ⟨fun i hi => ?_, ?_⟩
  · by_cases e : i = j
    · subst e
      rw [upd_s, upd_s, h1 i hi]
    · rw [upd_n (by omega), upd_n (by omega), upd_n e, h1 i hi]
  · rw [upd_n (by omega), upd_s, h2]
    match j, hj with
    | 0, _ => simp only [upd]; simp; ac_rfl
    | 1, _ => simp only [upd]; simp; ac_rfl
    | 2, _ => simp only [upd]; simp; ac_rfl
    | 3, _ => simp only [upd]; simp; ac_rfl
    | 4, _ => simp only [upd]; simp; ac_rfl
    | 5, _ => simp only [upd]; simp; ac_rfl
    | 6, _ => simp only [upd]; simp; ac_rfl
theorem fd7_0 (Ma : ST) : fX7_finding (-1000000001) Ma = some (-1000000001, fMa 0 Ma) := rfl
theorem fd7_1 (Ma : ST) : fX7_finding (-1000000002) Ma = some (-1000000002, fMa 1 Ma) := rfl
theorem fd7_2 (Ma : ST) : fX7_finding (-1000000003) Ma = some (-1000000003, fMa 2 Ma) := rfl
theorem fd7_3 (Ma : ST) : fX7_finding (-1000000004) Ma = some (-1000000004, fMa 3 Ma) := rfl
theorem fd7_4 (Ma : ST) : fX7_finding (-1000000005) Ma = some (-1000000005, fMa 4 Ma) := rfl
theorem fd7_5 (Ma : ST) : fX7_finding (-1000000006) Ma = some (-1000000006, fMa 5 Ma) := rfl
theorem fd7_6 (Ma : ST) : fX7_finding (-1000000007) Ma = some (-1000000007, fMa 6 Ma) := rfl
theorem fd8_0 (M : ST) : fX8_finds (-1000000001) M = some (-1000000001, fM 0 M) := rfl
theorem fd8_1 (M : ST) : fX8_finds (-1000000002) M = some (-1000000002, fM 1 M) := rfl
theorem fd8_2 (M : ST) : fX8_finds (-1000000003) M = some (-1000000003, fM 2 M) := rfl
theorem fd8_3 (M : ST) : fX8_finds (-1000000004) M = some (-1000000004, fM 3 M) := rfl
theorem fd8_4 (M : ST) : fX8_finds (-1000000005) M = some (-1000000005, fM 4 M) := rfl
theorem fd8_5 (M : ST) : fX8_finds (-1000000006) M = some (-1000000006, fM 5 M) := rfl
theorem fd8_6 (M : ST) : fX8_finds (-1000000007) M = some (-1000000007, fM 6 M) := rfl
section PS
variable {Ma Fo Sc Se Tr Ch Us Ta Dr G0 : ST} {N0 : LT} {G1 : ST} {N1 : LT} {G2 : ST} {N2 : LT} {G3 : ST} {N3 : LT} {Fo2 Sc2 Se2 Tr2 Fo3 Sc3 Se3 Tr3 M : ST} {N : LT}
theorem RR_f (hR : RR Ma Fo Sc Se Tr Ch Us Ta Dr G0 N0 G1 N1 G2 N2 G3 N3 Fo2 Sc2 Se2 Tr2 Fo3 Sc3 Se3 Tr3 M N) (j : Nat) (hj : j < 7) : RR (fMa j Ma) Fo Sc Se Tr Ch Us Ta Dr G0 N0 G1 N1 G2 N2 G3 N3 Fo2 Sc2 Se2 Tr2 Fo3 Sc3 Se3 Tr3 (fM j M) N := by
  obtain ⟨h1, h2, h3, h4⟩ := hR
  exact ⟨h1, h2, rFind_up h3 hj, h4⟩
theorem RR_n (hR : RR Ma Fo Sc Se Tr Ch Us Ta Dr G0 N0 G1 N1 G2 N2 G3 N3 Fo2 Sc2 Se2 Tr2 Fo3 Sc3 Se3 Tr3 M N) : ∃ n : Nat, n ≤ 10 ∧ Fo 0 0 = nI n ∧ M 1 0 = nI n := by
  obtain ⟨⟨hc, ⟨n, hn, hF, -⟩, -⟩, -⟩ := hR
  exact ⟨n, hn, hF, hc.1.1.trans hF⟩
end PS
theorem sub1_lt {n : Nat} (hn : n < 2 ^ 30) (x : Int32) : (nI n - 1 < x) ↔ (nI n ≤ x) := by
  rw [fa_lt, fa_le, show (1 : Int32) = nI 1 from rfl, pk_sub_toInt hn (by decide), nI_toInt (by omega)]
  omega
theorem isOne_e {Ma Fo : ST} {n : Nat} (hn : n ≤ 10) (hF : Fo 0 0 = nI n) (x : Int32) : fX7_isOne x Ma Fo = some (if x < 0 ∨ nI n ≤ x then 0 else 1) := by
  unfold fX7_isOne
  rw [hF, within_e, b1s, bli]
  simp only [sub1_lt (show n < 2 ^ 30 by omega)]
theorem isP_e {M : ST} {n : Nat} (hM : M 1 0 = nI n) (x : Int32) : fX8_isPerson x M = some (if x < 0 ∨ nI n ≤ x then 0 else 1) := by
  unfold fX8_isPerson
  rw [hM]
  by_cases h1 : x < 0
  · simp [h1]
  · by_cases h2 : nI n ≤ x <;> simp [h1, h2]
theorem in_n {n : Nat} (hn : n ≤ 10) {x : Int32} (h : ¬ (x < 0 ∨ nI n ≤ x)) : ∃ p : Nat, p < n ∧ x = nI p := by
  rcases pk_ix x (n := n) (by omega) with h1 | h1 | h1
  · exact absurd (Or.inl h1) h
  · exact absurd (Or.inr h1) h
  · exact h1
theorem isSort_e (x : Int32) : fX7_isSort x = some (if x < 0 ∨ 3 < x then 0 else 1) := by
  unfold fX7_isSort
  rw [within_e, b1s, bli]
theorem bec_e {M : ST} {i : Nat} (h : i < 271) (v : Int32) : fX8_becomes (nI i) v M = some (M 1 i, sti M 1 i v) := by
  unfold fX8_becomes
  rw [cks _ (vp_in_nI h (by decide)), lts, cks _ (vp_in_nI h (by decide)), lts, nI_clamp (by omega)]
/-- the core, when a place of the row and a place of the folk go together -/
theorem P_seed_ok : P_seed RR := by
  intro x1 Ma Fo Sc Se Tr Ch Us Ta Dr G0 N0 G1 N1 G2 N2 G3 N3 Fo2 Sc2 Se2 Tr2 Fo3 Sc3 Se3 Tr3 M N hR
  refine ⟨Fo 0 8, sti Fo 0 8 x1, sti M 1 3 x1, rfl, ?_, ?_⟩
  · unfold fX8_seed
    rw [show (3 : Int32) = nI 3 from rfl, bec_e (by decide), b2s]
    obtain ⟨⟨hc, -⟩, -⟩ := hR
    rw [hc.1.2.2.2]
  · obtain ⟨⟨hc, hi, hk⟩, h2⟩ := hR
    refine ⟨⟨?_, ?_, hk⟩, h2⟩
    · obtain ⟨⟨a1, a2, a3, a4⟩, b, c, d, e, f, g, h⟩ := hc
      refine ⟨⟨a1, a2, a3, rfl⟩, fun j hj => ?_, fun k hk => ?_, fun p hp => ?_, fun j hj => ?_, fun j hj => ?_, g, fun k hk hk2 => ?_⟩
      · show upd (M 1) 3 x1 (4 + j) = _
        rw [upd_n (by omega)]; exact b j hj
      · show upd (M 1) 3 x1 (10 + k) = _
        rw [upd_n (by omega)]; exact c k hk
      · show upd (M 1) 3 x1 (14 + 6 * p) = _ ∧ upd (M 1) 3 x1 (14 + 6 * p + 1) = _ ∧ upd (M 1) 3 x1 (14 + 6 * p + 2) = _ ∧ upd (M 1) 3 x1 (14 + 6 * p + 3) = _ ∧ upd (M 1) 3 x1 (14 + 6 * p + 4) = _ ∧ upd (M 1) 3 x1 (14 + 6 * p + 5) = _
        rw [upd_n (by omega), upd_n (by omega), upd_n (by omega), upd_n (by omega), upd_n (by omega), upd_n (by omega)]
        exact d p hp
      · show upd (M 1) 3 x1 (74 + j) = _
        rw [upd_n (by omega)]; exact e j hj
      · show upd (M 1) 3 x1 (174 + j) = _
        rw [upd_n (by omega)]; exact f j hj
      · show upd (M 1) 3 x1 (191 + k) = _
        rw [upd_n (by omega)]; exact h k hk hk2
    · exact hi
theorem i00 {α : Type} (a b : α) : (if (0 : Int32) = 0 then a else b) = a := if_pos rfl
theorem i10 {α : Type} (a b : α) : (if (1 : Int32) = 0 then a else b) = b := if_neg (by decide)
