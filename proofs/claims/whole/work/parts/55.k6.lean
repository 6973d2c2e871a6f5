-- FOR EVER
def cdS (S : ST) (k : Nat) (y : Int32) : Int32 := ((y * 11) + S 5 k) + 1
def cdV (S : ST) : Int32 := cdS S 3 (cdS S 2 (cdS S 1 (cdS S 0 (S 0 6 + 1))))
theorem code4 (S : ST) : fX4_code S = some (cdV S) := by
  have s : ∀ (j f : Nat) (y : Int32), j < 4 → fX4_code_9 S (f + 1) y (nI j) = fX4_code_9 S f (cdS S j y) (nI (j + 1)) := fun j f y hj => by
    show fX4_code_9_s S (fX4_code_9 S f) _ _ = _
    unfold fX4_code_9_s
    rw [if_neg (show ¬ (4 : Int32) ≤ nI j from nI_ge (b := 4) hj (by decide)), cks _ (vp_in_nI (by omega) (by decide)), nI_clamp (by omega), lts, lts, nI_1]
    rfl
  have e : ∀ (f : Nat) (y : Int32), fX4_code_9 S (f + 1) y (nI 4) = some y := fun f y => by
    show fX4_code_9_s S (fX4_code_9 S f) _ _ = _
    unfold fX4_code_9_s
    rw [if_pos (by decide)]
  unfold fX4_code
  rw [lts]
  exact (s 0 399 _ (by decide)).trans ((s 1 398 _ (by decide)).trans ((s 2 397 _ (by decide)).trans ((s 3 396 _ (by decide)).trans (e 395 _))))
theorem code8 {F C S M : ST} (hc : core F C S (M 1)) : fX8_asOne M = some (cdV S) := by
  have s : ∀ (j f : Nat) (y : Int32), j < 4 → fX8_asOne_11 M (f + 1) y (nI j) = fX8_asOne_11 M f (cdS S j y) (nI (j + 1)) := fun j f y hj => by
    show fX8_asOne_11_s M (fX8_asOne_11 M f) _ _ = _
    unfold fX8_asOne_11_s
    rw [if_neg (show ¬ (4 : Int32) ≤ nI j from nI_ge (b := 4) hj (by decide)), show 10 + nI j = nI (10 + j) by rw [show (10 : Int32) = nI 10 from rfl, nI_add], cks _ (vp_in_nI (by omega) (by decide)), nI_clamp (by omega), lts, lts, nI_1, hc.2.2.1 j hj, Int32.mul_comm 11 y]
    rfl
  have e : ∀ (f : Nat) (y : Int32), fX8_asOne_11 M (f + 1) y (nI 4) = some y := fun f y => by
    show fX8_asOne_11_s M (fX8_asOne_11 M f) _ _ = _
    unfold fX8_asOne_11_s
    rw [if_pos (by decide)]
  unfold fX8_asOne
  rw [lts, hc.1.2.1]
  exact (s 0 399 _ (by decide)).trans ((s 1 398 _ (by decide)).trans ((s 2 397 _ (by decide)).trans ((s 3 396 _ (by decide)).trans (e 395 _))))
theorem gr7_in {F Se : ST} {cd : Nat → Int32} {k : Nat} (hk : k ≤ 300) (k19 : Int32 → ST → ST → ST → ST → Option (Int32 × ST × ST × ST × ST)) (k21 : Int32 → ST → Option (Int32 × ST)) {Ch C T U M : ST} (hC : ∀ j, j ≤ k → Ch 5 j = cd j) (hM : ∀ j, j ≤ k → M 15 j = cd j) (h16 : M 0 16 = -1) : ∀ (r j f g : Nat), j + r = k → r < f → r + 1 < g → (∃ i, i < k ∧ fX0_goRound_55 F Se k19 f (nI k) (nI j) Ch C T U = some (1, sti (sti Ch 0 6 (nI i)) 0 7 (nI k), C, T, U) ∧ fX8_findEver_57 k21 g (nI k) (nI j) M = k21 (nI (k + 1)) (sti (sti M 0 16 (nI i)) 0 17 (nI k))) ∨ (fX0_goRound_55 F Se k19 f (nI k) (nI j) Ch C T U = k19 (nI (k + 1)) Ch C T U ∧ fX8_findEver_57 k21 g (nI k) (nI j) M = k21 (nI (k + 1)) (sti M 0 17 (nI k))) := by
  intro r
  induction r with
  | zero =>
    intro j f g hj hf hg
    obtain ⟨f, rfl⟩ : ∃ f', f = f' + 1 := ⟨f - 1, by omega⟩
    obtain ⟨g, rfl⟩ : ∃ f', g = f' + 1 := ⟨g - 1, by omega⟩
    refine Or.inr ⟨?_, ?_⟩
    · show fX0_goRound_55_s F Se k19 (fX0_goRound_55 F Se k19 f) _ _ _ _ _ _ = _
      unfold fX0_goRound_55_s
      rw [if_pos (nI_le (by omega) (by omega)), lts, nI_1]
    · show fX8_findEver_57_s k21 (fX8_findEver_57 k21 g) _ _ _ = _
      unfold fX8_findEver_57_s
      rw [if_pos (nI_le (by omega) (by omega)), lts, lts, nI_1]
  | succ r ih =>
    intro j f g hj hf hg
    obtain ⟨f, rfl⟩ : ∃ f', f = f' + 1 := ⟨f - 1, by omega⟩
    obtain ⟨g, rfl⟩ : ∃ f', g = f' + 1 := ⟨g - 1, by omega⟩
    have E : fX0_goRound_55 F Se k19 (f + 1) (nI k) (nI j) Ch C T U = fX0_goRound_55_s F Se k19 (fX0_goRound_55 F Se k19 f) (nI k) (nI j) Ch C T U := rfl
    have E8 : fX8_findEver_57 k21 (g + 1) (nI k) (nI j) M = fX8_findEver_57_s k21 (fX8_findEver_57 k21 g) (nI k) (nI j) M := rfl
    rw [E, E8]
    unfold fX0_goRound_55_s fX8_findEver_57_s
    rw [if_neg (nI_ge (a := j) (b := k) (by omega) (by omega)), if_neg (nI_ge (a := j) (b := k) (by omega) (by omega)), h16, if_neg m1_nle, cks _ (vp_in_nI (show j < 301 by omega) (by decide)), cks _ (vp_in_nI (show k < 301 by omega) (by decide)), cks _ (vp_in_nI (show j < 301 by omega) (by decide)), cks _ (vp_in_nI (show k < 301 by omega) (by decide)), nI_clamp (show j < 2 ^ 31 by omega), nI_clamp (show k < 2 ^ 31 by omega), hC j (by omega), hC k (by omega), hM j (by omega), hM k (by omega)]
    simp only [lts]
    rw [nI_1]
    by_cases q : cd j = cd k
    · rw [if_pos q, if_pos q]
      refine Or.inl ⟨j, by omega, rfl, ?_⟩
      obtain ⟨g, rfl⟩ : ∃ f', g = f' + 1 := ⟨g - 1, by omega⟩
      show fX8_findEver_57_s k21 (fX8_findEver_57 k21 g) _ _ _ = _
      unfold fX8_findEver_57_s
      rw [show (sti M 0 16 (nI j)) 0 16 = nI j by rw [sti_s, upd_s]]
      simp only [lts]
      rw [nI_1]
      by_cases q2 : nI k ≤ nI (j + 1)
      · rw [if_pos q2]
      · rw [if_neg q2, if_pos (nI_pos' (by omega))]
    · rw [if_neg q, if_neg q, sti_same h16]
      exact ih (j + 1) f g (by omega) (by omega) (by omega)
/-- what the search has when it ends -/
def evE (rs : Nat → Int32) (z : Int32) (Ch M : ST) : Prop := (z = 0 ∧ M 0 16 = -1) ∨ (z = 1 ∧ ∃ i k, i < k ∧ k ≤ 300 ∧ Ch 0 6 = nI i ∧ Ch 0 7 = nI k ∧ M 0 16 = nI i ∧ M 0 17 = nI k ∧ ∀ j, 1 ≤ j → j ≤ k → Ch 6 j = rs (j - 1) ∧ M 16 j = rs (j - 1))
theorem gr_l {F Se M0 : ST} {x : S3} {n a : Nat} : ∀ (r k f g : Nat) (Ch Mk : ST), k + r = 300 → r + 1 < f → r + 1 < g → ctx F (itS F x k).2.1 (itS F x k).1 Mk n a → lvl (itS F x k).1 Mk n → (∀ j, j ≤ k → Ch 5 j = cdV (itS F x j).1) → (∀ j, j ≤ k → Mk 15 j = cdV (itS F x j).1) → Mk 0 16 = -1 → (∀ j, 1 ≤ j → j ≤ k → Ch 6 j = itR F x (j - 1) ∧ Mk 16 j = itR F x (j - 1)) → (∀ b, b ≠ 0 → b ≠ 1 → b ≠ 12 → b ≠ 15 → b ≠ 16 → b ≠ 26 → Mk b = M0 b) → (∀ i, i < 16 → Mk 0 i = M0 0 i) → (∀ i, 74 ≤ i → Mk 1 i = M0 1 i) → (∀ b, b ≠ 2 → (itS F x k).2.1 b = x.2.1 b) → ∃ (z : Int32) (Ch' C' T' U' M' : ST), fX0_goRound_19 F Se f (nI (k + 1)) Ch (itS F x k).2.1 (itS F x k).2.2 (itS F x k).1 = some (z, Ch', C', T', U') ∧ fX8_findEver_21 g (nI (k + 1)) Mk = fX8_findEver_110 M' ∧ evE (itR F x) z Ch' M' ∧ (∀ j, 1 ≤ j → itR F x (j - 1) = -1 ∨ True) ∧ (∀ b, b ≠ 0 → b ≠ 1 → b ≠ 12 → b ≠ 15 → b ≠ 16 → b ≠ 26 → M' b = M0 b) ∧ (∀ i, i < 16 → M' 0 i = M0 0 i) ∧ (∀ i, 74 ≤ i → M' 1 i = M0 1 i) ∧ (∀ b, b ≠ 2 → C' b = x.2.1 b) := by
  intro r
  induction r with
  | zero =>
    intro k f g Ch Mk hk hf hg hx hl h5 h15 h16 h6 q1 q2 q3 q4
    obtain ⟨f, rfl⟩ : ∃ f', f = f' + 1 := ⟨f - 1, by omega⟩
    obtain ⟨g, rfl⟩ : ∃ f', g = f' + 1 := ⟨g - 1, by omega⟩
    have h300 : (300 : Int32) < nI (k + 1) := nI_lt (a := 300) (by omega) (by omega)
    refine ⟨0, Ch, (itS F x k).2.1, (itS F x k).2.2, (itS F x k).1, Mk, ?_, ?_, Or.inl ⟨rfl, h16⟩, fun _ _ => Or.inr trivial, q1, q2, q3, q4⟩
    · show fX0_goRound_19_s F Se (fX0_goRound_19 F Se f) _ _ _ _ _ = _
      unfold fX0_goRound_19_s
      rw [if_pos h300]
    · show fX8_findEver_21_s (fX8_findEver_21 g) _ _ = _
      unfold fX8_findEver_21_s
      rw [if_pos h300]
  | succ r ih =>
    intro k f g Ch Mk hk hf hg hx hl h5 h15 h16 h6 q1 q2 q3 q4
    obtain ⟨f, rfl⟩ : ∃ f', f = f' + 1 := ⟨f - 1, by omega⟩
    obtain ⟨g, rfl⟩ : ∃ f', g = f' + 1 := ⟨g - 1, by omega⟩
    have h300 : ¬ (300 : Int32) < nI (k + 1) := nI_nlt (b := k + 1) (a := 300) (by omega) (by decide)
    have E : fX0_goRound_19 F Se (f + 1) (nI (k + 1)) Ch (itS F x k).2.1 (itS F x k).2.2 (itS F x k).1 = fX0_goRound_19_s F Se (fX0_goRound_19 F Se f) (nI (k + 1)) Ch (itS F x k).2.1 (itS F x k).2.2 (itS F x k).1 := rfl
    have E8 : fX8_findEver_21 (g + 1) (nI (k + 1)) Mk = fX8_findEver_21_s (fX8_findEver_21 g) (nI (k + 1)) Mk := rfl
    obtain ⟨s1, s2, s3, s4, -, -⟩ := it_one hx hl
    have s1' : fX4_next 1 (itS F x k).1 F (itS F x k).2.1 (itS F x k).2.2 = some (itR F x k, (itS F x (k + 1)).1, (itS F x (k + 1)).2.1, (itS F x (k + 1)).2.2) := s1
    have s2' : fX8_comes Mk = some (itR F x k, (nM Mk).2) := s2
    obtain ⟨Mn, eMn⟩ : ∃ Mn, Mn = (nM Mk).2 := ⟨_, rfl⟩
    rw [← eMn] at s2' s3 s4
    have s3' : ctx F (itS F x (k + 1)).2.1 (itS F x (k + 1)).1 Mn n a := s3
    obtain ⟨M16, e16⟩ : ∃ M16, M16 = sti Mn 16 (k + 1) (itR F x k) := ⟨_, rfl⟩
    obtain ⟨M20, e20⟩ : ∃ M20, M20 = sti M16 15 (k + 1) (cdV (itS F x (k + 1)).1) := ⟨_, rfl⟩
    have m16b : ∀ b, b ≠ 16 → M16 b = Mn b := fun b hb => by rw [e16, sti_o hb]
    have m20b : ∀ b, b ≠ 15 → M20 b = M16 b := fun b hb => by rw [e20, sti_o hb]
    have m20 : ∀ b, b ≠ 15 → b ≠ 16 → M20 b = Mn b := fun b h1 h2 => (m20b b h1).trans (m16b b h2)
    have hcode := code8 (M := M16) (show core F (itS F x (k + 1)).2.1 (itS F x (k + 1)).1 (M16 1) by rw [m16b 1 (by decide)]; exact s3'.2.2.2.2.2.1)
    rw [E, E8]
    unfold fX0_goRound_19_s fX8_findEver_21_s
    rw [if_neg h300, if_neg h300, s1', b4s, h16, if_neg m1_nle, s2', b2s, cks _ (vp_in_nI (show k + 1 < 301 by omega) (by decide)), cks _ (vp_in_nI (show k + 1 < 301 by omega) (by decide)), nI_clamp (show k + 1 < 2 ^ 31 by omega), lts, lts, code4, b1s, ← e16, hcode, b1s, cks _ (vp_in_nI (show k + 1 < 301 by omega) (by decide)), cks _ (vp_in_nI (show k + 1 < 301 by omega) (by decide)), lts, lts, ← e20]
    obtain ⟨Ch2, eCh2⟩ : ∃ Ch2, Ch2 = sti (sti Ch 6 (k + 1) (itR F x k)) 5 (k + 1) (cdV (itS F x (k + 1)).1) := ⟨_, rfl⟩
    rw [← eCh2]
    have c5 : ∀ j, j ≤ k + 1 → Ch2 5 j = cdV (itS F x j).1 := fun j hj => by
      rw [eCh2, sti_s, sti_o (by decide)]
      by_cases q : j = k + 1
      · rw [q, upd_s]
      · rw [upd_n q]; exact h5 j (by omega)
    have c15 : ∀ j, j ≤ k + 1 → M20 15 j = cdV (itS F x j).1 := fun j hj => by
      rw [e20, sti_s, m16b 15 (by decide), s4.2.1 15 (by decide) (by decide) (by decide)]
      by_cases q : j = k + 1
      · rw [q, upd_s]
      · rw [upd_n q]; exact h15 j (by omega)
    have n0 : M20 0 = Mk 0 := by rw [m20 0 (by decide) (by decide), s4.2.1 0 (by decide) (by decide) (by decide)]
    have c16 : M20 0 16 = -1 := by rw [n0]; exact h16
    have c6 : ∀ j, 1 ≤ j → j ≤ k + 1 → Ch2 6 j = itR F x (j - 1) ∧ M20 16 j = itR F x (j - 1) := fun j j1 j2 => by
      rw [eCh2, sti_o (by decide), sti_s, m20b 16 (by decide), e16, sti_s, s4.2.1 16 (by decide) (by decide) (by decide)]
      by_cases q : j = k + 1
      · rw [q, upd_s, upd_s]; exact ⟨rfl, rfl⟩
      · rw [upd_n q, upd_n q]; exact h6 j j1 (by omega)
    have b1 : ∀ b, b ≠ 0 → b ≠ 1 → b ≠ 12 → b ≠ 15 → b ≠ 16 → b ≠ 26 → M20 b = M0 b := fun b h0 h1 h2 h3 h4 h5 => by rw [m20 b h3 h4, s4.2.1 b h1 h2 h5]; exact q1 b h0 h1 h2 h3 h4 h5
    have b2 : ∀ i, i < 16 → M20 0 i = M0 0 i := fun i hi => by rw [n0]; exact q2 i hi
    have b3 : ∀ i, 74 ≤ i → M20 1 i = M0 1 i := fun i hi => by rw [m20 1 (by decide) (by decide), s4.2.2.1 i hi]; exact q3 i hi
    have b4 : ∀ b, b ≠ 2 → (itS F x (k + 1)).2.1 b = x.2.1 b := fun b hb => (s4.1 b hb).trans (q4 b hb)
    rcases gr7_in (F := F) (Se := Se) (C := (itS F x (k + 1)).2.1) (T := (itS F x (k + 1)).2.2) (U := (itS F x (k + 1)).1) (cd := fun j => cdV (itS F x j).1) (k := k + 1) (by omega) (fX0_goRound_19 F Se f) (fX8_findEver_21 g) c5 c15 c16 (k + 1) 0 400 400 (by omega) (by omega) (by omega) with ⟨i, hi, z1, z2⟩ | ⟨z1, z2⟩
    · have z1' : fX0_goRound_55 F Se (fX0_goRound_19 F Se f) 400 (nI (k + 1)) 0 Ch2 (itS F x (k + 1)).2.1 (itS F x (k + 1)).2.2 (itS F x (k + 1)).1 = _ := z1
      have z2' : fX8_findEver_57 (fX8_findEver_21 g) 400 (nI (k + 1)) 0 M20 = _ := z2
      rw [z1', z2']
      refine ⟨1, _, _, _, _, sti (sti M20 0 16 (nI i)) 0 17 (nI (k + 1)), rfl, ?_, Or.inr ⟨rfl, i, k + 1, hi, by omega, rfl, rfl, rfl, rfl, fun j j1 j2 => ?_⟩, fun _ _ => Or.inr trivial, fun b h0 h1 h2 h3 h4 h5 => by rw [sti_o h0, sti_o h0]; exact b1 b h0 h1 h2 h3 h4 h5, fun t ht => by rw [sti_s, upd_n (by omega), sti_s, upd_n (by omega)]; exact b2 t ht, fun t ht => by rw [sti_o (by decide), sti_o (by decide)]; exact b3 t ht, b4⟩
      · obtain ⟨g, rfl⟩ : ∃ f', g = f' + 1 := ⟨g - 1, by omega⟩
        show fX8_findEver_21_s (fX8_findEver_21 g) _ _ = _
        unfold fX8_findEver_21_s
        rw [show (sti (sti M20 0 16 (nI i)) 0 17 (nI (k + 1))) 0 16 = nI i from rfl, if_pos (show 0 ≤ nI i from nI_pos' (by omega))]
        by_cases q : 300 < nI (k + 1 + 1)
        · rw [if_pos q]
        · rw [if_neg q]
      · rw [sti_o (by decide), sti_o (by decide), sti_o (by decide), sti_o (by decide)]
        exact c6 j j1 j2
    · have z1' : fX0_goRound_55 F Se (fX0_goRound_19 F Se f) 400 (nI (k + 1)) 0 Ch2 (itS F x (k + 1)).2.1 (itS F x (k + 1)).2.2 (itS F x (k + 1)).1 = _ := z1
      have z2' : fX8_findEver_57 (fX8_findEver_21 g) 400 (nI (k + 1)) 0 M20 = _ := z2
      rw [z1', z2']
      refine ih (k + 1) f g Ch2 (sti M20 0 17 (nI (k + 1))) (by omega) (by omega) (by omega) (ctx_fr s3' (fun _ _ => rfl) (by rw [sti_o (by decide), m20 1 (by decide) (by decide)])) ?_ c5 (fun j hj => by rw [sti_o (by decide)]; exact c15 j hj) c16 (fun j j1 j2 => by rw [sti_o (show 16 ≠ 0 by decide)]; exact c6 j j1 j2) (fun b h0 h1 h2 h3 h4 h5 => by rw [sti_o h0]; exact b1 b h0 h1 h2 h3 h4 h5) (fun t ht => by rw [sti_s, upd_n (by omega)]; exact b2 t ht) (fun t ht => by rw [sti_o (by decide)]; exact b3 t ht) b4
      have l4 : lvl (itS F x (k + 1)).1 Mn n := lvl_fr hl s4
      unfold lvl at l4 ⊢
      rw [sti_s, upd_n (by decide), upd_n (by decide), upd_n (by decide), m20 0 (by decide) (by decide)]
      exact l4
theorem RR_st2 {Ma Fo Sc Se Tr Ch Us Ta Dr G0 : ST} {N0 : LT} {G1 : ST} {N1 : LT} {G2 : ST} {N2 : LT} {G3 : ST} {N3 : LT} {Fo2 Sc2 Se2 Tr2 Fo3 Sc3 Se3 Tr3 M : ST} {N : LT} (hR : RR Ma Fo Sc Se Tr Ch Us Ta Dr G0 N0 G1 N1 G2 N2 G3 N3 Fo2 Sc2 Se2 Tr2 Fo3 Sc3 Se3 Tr3 M N) {Sc' Tr' Ch' Us' Fo3' Sc3' Se3' Tr3' M' : ST} (hC : ∀ b, b ≠ 2 → Sc' b = Sc b) (hM : ∀ b, b = 1 ∨ b = 2 ∨ b = 4 ∨ b = 5 ∨ b = 7 ∨ b = 8 → M' b = M b) (h0 : ∀ i, i < 16 → M' 0 i = M 0 i) : RR Ma Fo Sc' Se Tr' Ch' Us' Ta Dr G0 N0 G1 N1 G2 N2 G3 N3 Fo2 Sc2 Se2 Tr2 Fo3' Sc3' Se3' Tr3' M' N := by
  obtain ⟨⟨hc, hi, hk⟩, h2, h3, h4, h5⟩ := hR
  obtain ⟨n, a, h⟩ := ctx_of hc hi
  have h' := ctx_inv (ctx_fr h hC (hM 1 (by decide)))
  refine ⟨⟨h'.1, h'.2, ?_⟩, ?_, ?_, ?_, ?_⟩
  · rw [h0 9 (by decide), h0 10 (by decide), h0 12 (by decide)]; exact hk
  · rw [h0 2 (by decide), hM 2 (by decide)]; exact h2
  · rw [hM 4 (by decide)]; exact h3
  · rw [h0 5 (by decide), hM 5 (by decide)]; exact h4
  · rw [hM 7 (by decide), hM 8 (by decide)]; exact h5
theorem ever_e {Ma Fo Sc Se Tr Ch Us Ta Dr G0 : ST} {N0 : LT} {G1 : ST} {N1 : LT} {G2 : ST} {N2 : LT} {G3 : ST} {N3 : LT} {Fo2 Sc2 Se2 Tr2 Fo3 Sc3 Se3 Tr3 M : ST} {N : LT} (hR : RR Ma Fo Sc Se Tr Ch Us Ta Dr G0 N0 G1 N1 G2 N2 G3 N3 Fo2 Sc2 Se2 Tr2 Fo3 Sc3 Se3 Tr3 M N) : ∃ (z : Int32) (Ch' C' T' U' M' : ST) (rs : Nat → Int32), fX0_goRound Ch Fo Sc Se Tr Us = some (z, Ch', C', T', U') ∧ fX8_findEver M = some (z, M') ∧ evE rs z Ch' M' ∧ (∀ j, rs j = -1 ∨ ∃ s, s < 10 ∧ rs j = nI s) ∧ ∀ (Tr' Ch'' Us' : ST), RR Ma Fo C' Se Tr' Ch'' Us' Ta Dr G0 N0 G1 N1 G2 N2 G3 N3 Fo2 Sc2 Se2 Tr2 Fo3 Sc3 Se3 Tr3 M' N := by
  obtain ⟨n, a, h⟩ := ctx_of hR.1.1 hR.1.2.1
  have hn := h.1
  obtain ⟨U, K, u1, u2, u3, u4, u5, u6, u8, u9⟩ := trial hR h Ch Us
  obtain ⟨M6, e6⟩ : ∃ M6, M6 = sti (sti (va_up M 14 K) 15 0 (cdV U)) 0 16 (-1) := ⟨_, rfl⟩
  have m6b : ∀ b, b ≠ 0 → b ≠ 15 → M6 b = va_up M 14 K b := fun b h0 h1 => by rw [e6, sti_o h0, sti_o h1]
  have m60 : ∀ i, i < 16 → M6 0 i = M 0 i := fun i hi => by rw [e6, sti_s, upd_n (by omega), sti_o (by decide), vup_o (by decide)]
  have hx : ctx Fo Sc U M6 n a := ctx_fr u3 (fun _ _ => rfl) (m6b 1 (by decide) (by decide))
  have hl : lvl U M6 n := by
    obtain ⟨⟨-, -, -, -, w1, w2, fl⟩, -⟩ := hR
    exact ⟨(m60 12 (by decide)).trans fl, Or.inl ⟨u8, u9, (m60 9 (by decide)).trans w1, (m60 10 (by decide)).trans w2⟩⟩
  obtain ⟨z, Ch', C', T', U', M', z1, z2, z3, -, z5, z6, z7, z8⟩ := gr_l (F := Fo) (Se := Se) (M0 := M6) (x := (U, Sc, Tr)) 300 0 400 400 (sti Ch 5 0 (cdV U)) M6 (by omega) (by omega) (by omega) hx hl (fun j hj => by rw [show j = 0 by omega]; rfl) (fun j hj => by rw [show j = 0 by omega, e6]; rfl) (by rw [e6]; rfl) (fun j j1 j2 => by omega) (fun _ _ _ _ _ _ _ => rfl) (fun _ _ => rfl) (fun _ _ => rfl) (fun _ _ => rfl)
  obtain ⟨Mz, y1, y2, y3, y4⟩ := lay_ok (M := M) (M' := M') u5 (by rw [z5 14 (by decide) (by decide) (by decide) (by decide) (by decide) (by decide), m6b 14 (by decide) (by decide), vup_s]) (fun i hi => by rw [z7 i hi, m6b 1 (by decide) (by decide), vup_o (by decide)])
  refine ⟨z, Ch', C', T', U', Mz, itR Fo (U, Sc, Tr), ?_, ?_, ?_, fun j => ?_, fun Tr' Ch'' Us' => RR_st2 hR z8 (fun b hb => ?_) (fun i hi => ?_)⟩
  · unfold fX0_goRound
    rw [u1, b1s, code4, b1s, lts]
    exact z1
  · unfold fX8_findEver
    have z2' : fX8_findEver_21 400 1 M6 = fX8_findEver_110 M' := z2
    rw [u2, b1s, code8 u3.2.2.2.2.2.1, b1s, lts, lts, ← e6, z2']
    unfold fX8_findEver_110
    rw [y1, b1s, y4 0 (by decide)]
    rcases z3 with ⟨q, q2⟩ | ⟨q, i, k, hi, hk, -, -, q2, -⟩
    · rw [q2, if_pos m1_lt, q]
    · rw [q2, if_neg (nI_pos (by omega)), q]
  · unfold evE at z3 ⊢
    rw [y4 0 (by decide), y4 16 (by decide)]
    exact z3
  · rcases (it_st (x := (U, Sc, Tr)) u3 u4 j).2.2.1 with e | ⟨s, hs, e⟩
    · exact Or.inl e
    · exact Or.inr ⟨s, by omega, e⟩
  · by_cases e : b = 1
    · rw [e]; exact y2
    · rw [y4 b e, z5 b (by omega) e (by omega) (by omega) (by omega) (by omega), m6b b (by omega) (by omega), vup_o (by omega)]
  · rw [y4 0 (by decide), z6 i hi, m60 i hi]
theorem or_z (y : Int32) : y ||| 0 = y := b_ext (fun i hi => by rw [b_or, b_0, Bool.or_false])
theorem who_l {Ch M : ST} {rs : Nat → Int32} {k : Nat} (hk : k ≤ 300) (h7 : Ch 0 7 = nI k) (h17 : M 0 17 = nI k) (h6 : ∀ j, 1 ≤ j → j ≤ k → Ch 6 j = rs (j - 1) ∧ M 16 j = rs (j - 1)) (hr : ∀ j, rs j = -1 ∨ ∃ s, s < 10 ∧ rs j = nI s) : ∀ (r j f g : Nat) (y : Int32), j + r = k + 1 → 1 ≤ j → r < f → r < g → ∃ z, fX0_whoGoesRound_9 Ch f y (nI j) = some z ∧ fX8_ever_23 g y (nI j) M = some (z, M) := by
  intro r
  induction r with
  | zero =>
    intro j f g y hj j1 hf hg
    obtain ⟨f, rfl⟩ : ∃ f', f = f' + 1 := ⟨f - 1, by omega⟩
    obtain ⟨g, rfl⟩ : ∃ f', g = f' + 1 := ⟨g - 1, by omega⟩
    refine ⟨y, ?_, ?_⟩
    · show fX0_whoGoesRound_9_s Ch (fX0_whoGoesRound_9 Ch f) _ _ = _
      unfold fX0_whoGoesRound_9_s
      rw [h7, if_pos (nI_lt (by omega) (by omega))]
    · show fX8_ever_23_s (fX8_ever_23 g) _ _ _ = _
      unfold fX8_ever_23_s
      rw [h17, if_pos (nI_lt (by omega) (by omega))]
  | succ r ih =>
    intro j f g y hj j1 hf hg
    obtain ⟨f, rfl⟩ : ∃ f', f = f' + 1 := ⟨f - 1, by omega⟩
    obtain ⟨g, rfl⟩ : ∃ f', g = f' + 1 := ⟨g - 1, by omega⟩
    have E : fX0_whoGoesRound_9 Ch (f + 1) y (nI j) = fX0_whoGoesRound_9_s Ch (fX0_whoGoesRound_9 Ch f) y (nI j) := rfl
    have E8 : fX8_ever_23 (g + 1) y (nI j) M = fX8_ever_23_s (fX8_ever_23 g) y (nI j) M := rfl
    rw [E, E8]
    unfold fX0_whoGoesRound_9_s fX8_ever_23_s
    rw [h7, h17, if_neg (nI_nlt (a := k) (b := j) (by omega) (by omega)), if_neg (nI_nlt (a := k) (b := j) (by omega) (by omega)), nI_clamp (show j < 2 ^ 31 by omega), (h6 j j1 (by omega)).1, (h6 j j1 (by omega)).2]
    simp only [lts, cks _ (vp_in_nI (show j < 301 by omega) (show 301 < 2 ^ 31 by decide))]
    rw [nI_1]
    rcases hr (j - 1) with e | ⟨s, hs, e⟩
    · rw [e, if_pos rfl, if_neg m1_nle, or_z]
      exact ih (j + 1) f g y (by omega) (by omega) (by omega) (by omega)
    · rw [e, if_neg (nI_m1 (by omega)), if_pos (nI_pos' (by omega))]
      exact ih (j + 1) f g _ (by omega) (by omega) (by omega) (by omega)
theorem P_ever_ok : P_ever RR := by
  intro Ma Fo Sc Se Tr Ch Us Ta Dr G0 N0 G1 N1 G2 N2 G3 N3 Fo2 Sc2 Se2 Tr2 Fo3 Sc3 Se3 Tr3 M N hR
  obtain ⟨z, Ch', C', T', U', M', rs, e1, e2, e3, e4, e5⟩ := ever_e hR
  unfold fX7_ever fX8_ever
  have b5 : ∀ {α γ δ ε ζ β : Type} (a : α) (b : γ) (c : δ) (d : ε) (e : ζ) (k : α → γ → δ → ε → ζ → Option β), dc_b5 (some (a, b, c, d, e)) k = k a b c d e := fun _ _ _ _ _ _ => rfl
  rw [e1, e2, b5, b2s]
  rcases e3 with ⟨q, -⟩ | ⟨q, i, k, hi, hk, c6, c7, m16, m17, hj⟩
  · rw [q, i00, i00, fd7_3, fd8_3, b2s, b2s]
    exact ⟨_, _, _, _, _, _, _, rfl, rfl, RR_f (e5 _ _ _) 3 (by decide)⟩
  · rw [q, i10, i10]
    obtain ⟨w, w1, w2⟩ := who_l hk c7 m17 hj e4 (k - i) (i + 1) 400 400 0 (by omega) (by omega) (by omega) (by omega)
    unfold fX0_whoGoesRound
    rw [c6, m16, lts, lts, nI_1, w1, w2, b1s]
    exact ⟨_, _, _, _, _, _, _, rfl, rfl, e5 _ _ _⟩
theorem P_turns_ok : P_turns RR := by
  intro x1 Ma Fo Sc Se Tr Ch Us Ta Dr G0 N0 G1 N1 G2 N2 G3 N3 Fo2 Sc2 Se2 Tr2 Fo3 Sc3 Se3 Tr3 M N hR
  unfold fX7_turns fX8_turns
  rw [within_e, isIn8_e x1 0 1 (by decide) (by decide), b1s, b1s]
  by_cases hx : x1 < 0 ∨ 1 < x1
  · rw [if_pos hx, i00, i00, fd7_0, fd8_0, b2s, b2s]
    exact ⟨_, _, _, _, _, _, _, rfl, rfl, RR_f hR 0 (by decide)⟩
  rw [if_neg hx, i10, i10]
  obtain ⟨z, Ch', C', T', U', M', rs, e1, e2, e3, e4, e5⟩ := ever_e hR
  have b5 : ∀ {α γ δ ε ζ β : Type} (a : α) (b : γ) (c : δ) (d : ε) (e : ζ) (k : α → γ → δ → ε → ζ → Option β), dc_b5 (some (a, b, c, d, e)) k = k a b c d e := fun _ _ _ _ _ _ => rfl
  rw [e1, e2, b5, b2s]
  rcases e3 with ⟨q, -⟩ | ⟨q, i, k, hi, hk, c6, c7, m16, m17, hj⟩
  · rw [q, i00, i00, fd7_3, fd8_3, b2s, b2s]
    exact ⟨_, _, _, _, _, _, _, rfl, rfl, RR_f (e5 _ _ _) 3 (by decide)⟩
  · rw [q, i10, i10, c6, c7, m16, m17]
    by_cases z : x1 = 0
    · rw [if_pos z, if_pos z]
      exact ⟨_, _, _, _, _, _, _, rfl, rfl, e5 _ _ _⟩
    · rw [if_neg z, if_neg z]
      exact ⟨_, _, _, _, _, _, _, rfl, rfl, e5 _ _ _⟩
