-- the line moves up
theorem mv_l {S : ST} {a : Nat} (a1 : 1 ≤ a) (a4 : a ≤ 4) (x : Int32) : ∀ (r k f : Nat) (Sk : ST), k + r = a - 1 → r < f → (∀ c, c ≠ 5 → Sk c = S c) → (∀ j, j < 4 → Sk 5 j = if j < k then S 5 (j + 1) else S 5 j) → ∃ S', fX4_moveUp_18 f x (nI (a - 1)) (nI k) Sk = some (x, S') ∧ (∀ c, c ≠ 5 → S' c = S c) ∧ (∀ j, j < 4 → S' 5 j = if j < a - 1 then S 5 (j + 1) else if j = a - 1 then -1 else S 5 j) := by
  intro r
  induction r with
  | zero =>
    intro k f Sk hk hf h1 h2
    obtain ⟨f, rfl⟩ : ∃ f', f = f' + 1 := ⟨f - 1, by omega⟩
    have ek : k = a - 1 := by omega
    subst ek
    refine ⟨sti Sk 5 (a - 1) (-1), ?_, fun c hc => by rw [sti_o hc]; exact h1 c hc, fun j hj => ?_⟩
    · show fX4_moveUp_18_s (fX4_moveUp_18 f) _ _ _ _ = _
      unfold fX4_moveUp_18_s
      rw [if_pos (nI_le (by omega) (by omega)), cks _ (vp_in_nI (by omega) (by decide)), nI_clamp (by omega), lts]
    · rw [sti_s]
      by_cases e : j = a - 1
      · rw [e, upd_s, if_neg (by omega), if_pos rfl]
      · rw [upd_n e, h2 j hj, if_neg e]
  | succ r ih =>
    intro k f Sk hk hf h1 h2
    obtain ⟨f, rfl⟩ : ∃ f', f = f' + 1 := ⟨f - 1, by omega⟩
    obtain ⟨S', e1, e2, e3⟩ := ih (k + 1) f (sti Sk 5 k (Sk 5 (k + 1))) (by omega) (by omega) (fun c hc => by rw [sti_o hc]; exact h1 c hc) (fun j hj => by
      rw [sti_s]
      by_cases e : j = k
      · rw [e, upd_s, h2 (k + 1) (by omega), if_neg (by omega), if_pos (by omega)]
      · rw [upd_n e, h2 j hj]
        by_cases q : j < k
        · rw [if_pos q, if_pos (by omega)]
        · rw [if_neg q, if_neg (by omega)])
    refine ⟨S', ?_, e2, e3⟩
    rw [← e1]
    show fX4_moveUp_18_s (fX4_moveUp_18 f) _ _ _ _ = _
    unfold fX4_moveUp_18_s
    rw [if_neg (nI_ge (by omega) (by omega)), nI_1, cks _ (vp_in_nI (by omega) (by decide)), cks _ (vp_in_nI (by omega) (by decide)), nI_clamp (by omega), nI_clamp (by omega), lts, lts]
theorem mvU {F S : ST} {n a : Nat} (a1 : 1 ≤ a) (a4 : a ≤ 4) (hA : S 4 0 = nI a) (hL : iL F S n) : ∃ S', fX4_moveUp S = some (S 5 0, S') ∧ (∀ c, c ≠ 5 → S' c = S c) ∧ (∀ j, j < 4 → S' 5 j = if j < 3 then S 5 (j + 1) else -1) := by
  obtain ⟨S', e1, e2, e3⟩ := mv_l (S := S) a1 a4 (S 5 0) (a - 1) 0 400 S (by omega) (by omega) (fun _ _ => rfl) (fun j hj => by rw [if_neg (by omega)])
  have out : ∀ j, a ≤ j → j < 4 → S 5 j = -1 := fun j h1 h2 => hL.2.1 j h2 (by rw [hA]; exact nI_le h1 (by omega))
  refine ⟨S', ?_, e2, fun j hj => ?_⟩
  · unfold fX4_moveUp
    rw [lts, lts, hA, show nI a - 1 = nI (a - 1) from pk_sub (a := a) (b := 1) a1]
    exact e1
  · rw [e3 j hj]
    by_cases q : j < a - 1
    · rw [if_pos q, if_pos (by omega)]
    · rw [if_neg q]
      by_cases q3 : j < 3
      · rw [if_pos q3, out (j + 1) (by omega) (by omega)]
        by_cases e : j = a - 1
        · rw [if_pos e]
        · rw [if_neg e, out j (by omega) hj]
      · rw [if_neg q3]
        by_cases e : j = a - 1
        · rw [if_pos e]
        · rw [if_neg e, out j (by omega) hj]
def sh1 (j : Nat) (M : ST) : ST := sti M 1 (10 + j) (M 1 (10 + j + 1))
def shM (M : ST) : ST := sti (sh1 2 (sh1 1 (sh1 0 M))) 1 13 (-1)
theorem shM_o {M : ST} {b : Nat} (h : b ≠ 1) : shM M b = M b := by
  unfold shM sh1
  rw [sti_o h, sti_o h, sti_o h, sti_o h]
theorem shM_1 (M : ST) (i : Nat) : shM M 1 i = if 10 ≤ i ∧ i < 13 then M 1 (i + 1) else if i = 13 then -1 else M 1 i := by
  show upd (upd (upd (upd (M 1) 10 (M 1 11)) 11 (M 1 12)) 12 (M 1 13)) 13 (-1) i = _
  unfold upd
  by_cases e3 : i = 13
  · subst e3; rfl
  by_cases e2 : i = 12
  · subst e2; rfl
  by_cases e1 : i = 11
  · subst e1; rfl
  by_cases e0 : i = 10
  · subst e0; rfl
  rw [if_neg e3, if_neg e2, if_neg e1, if_neg e0, if_neg (by omega), if_neg e3]
theorem core_shift {F C S S' : ST} {m m' : Nat → Int32} (h : core F C S m) (hS : ∀ c, c ≠ 5 → S' c = S c) (h5 : ∀ j, j < 4 → S' 5 j = if j < 3 then S 5 (j + 1) else -1) (hm : ∀ i, m' i = if 10 ≤ i ∧ i < 13 then m (i + 1) else if i = 13 then -1 else m i) : core F C S' m' := by
  obtain ⟨⟨a1, a2, a3, a4⟩, b, c, d, e, f, g, k⟩ := h
  have hs0 : S' 0 = S 0 := hS 0 (by decide)
  have hs4 : S' 4 = S 4 := hS 4 (by decide)
  have hs6 : S' 6 = S 6 := hS 6 (by decide)
  have ho : ∀ i, i < 10 ∨ 13 < i → m' i = m i := fun i hi => by rw [hm i, if_neg (by omega), if_neg (by omega)]
  refine ⟨⟨?_, ?_, ?_, ?_⟩, fun j hj => ?_, fun j hj => ?_, fun p hp => ?_, fun j hj => ?_, fun j hj => ?_, ?_, fun j hj hj2 => ?_⟩
  · rw [ho 0 (by omega)]; exact a1
  · rw [ho 1 (by omega), hs0]; exact a2
  · rw [ho 2 (by omega), hs0]; exact a3
  · rw [ho 3 (by omega)]; exact a4
  · rw [ho (4 + j) (by omega), hs4]; exact b j hj
  · rw [hm (10 + j), h5 j hj]
    by_cases q : j < 3
    · rw [if_pos (by omega), if_pos q, ← c (j + 1) (by omega)]; rfl
    · rw [if_neg (by omega), if_pos (by omega), if_neg q]
  · rw [ho (14 + 6 * p) (by omega), ho (14 + 6 * p + 1) (by omega), ho (14 + 6 * p + 2) (by omega), ho (14 + 6 * p + 3) (by omega), ho (14 + 6 * p + 4) (by omega), ho (14 + 6 * p + 5) (by omega), hs6]
    exact d p hp
  · rw [ho (74 + j) (by omega)]; exact e j hj
  · rw [ho (174 + j) (by omega)]; exact f j hj
  · rw [ho 190 (by omega)]; exact g
  · rw [ho (191 + j) (by omega)]; exact k j hj hj2
theorem iR_c {S S' : ST} (h : iR S) (e : S' 4 = S 4) : iR S' := by
  unfold iR at h ⊢
  rw [e]; exact h
theorem iL_shift {F S S' : ST} {n a : Nat} (a4 : a ≤ 4) (hA : S 4 0 = nI a) (h : iL F S n) (hS : ∀ c, c ≠ 5 → S' c = S c) (h5 : ∀ j, j < 4 → S' 5 j = if j < 3 then S 5 (j + 1) else -1) : iL F (sti S' 0 6 (S 5 0)) n := by
  obtain ⟨l1, l2, l3, l4, l5⟩ := h
  have e5 : (sti S' 0 6 (S 5 0)) 5 = S' 5 := sti_o (by decide)
  have e4 : (sti S' 0 6 (S 5 0)) 4 = S 4 := (sti_o (by decide)).trans (hS 4 (by decide))
  have e6 : (sti S' 0 6 (S 5 0)) 6 = S 6 := (sti_o (by decide)).trans (hS 6 (by decide))
  have e06 : (sti S' 0 6 (S 5 0)) 0 6 = S 5 0 := by rw [sti_s, upd_s]
  refine ⟨fun k hk => ?_, fun k hk hk2 => ?_, fun k l hk hl hkl e => ?_, ?_, ?_⟩
  · rw [e5, h5 k hk]
    by_cases q : k < 3
    · rw [if_pos q]; exact l1 (k + 1) (by omega)
    · rw [if_neg q]; exact Or.inl rfl
  · rw [e4, hA] at hk2
    rw [e5, h5 k hk]
    by_cases q : k < 3
    · rw [if_pos q]
      refine l2 (k + 1) (by omega) ?_
      rw [hA]
      have := (nI_leI (by omega) (by omega)).mp hk2
      exact nI_le (by omega) (by omega)
    · rw [if_neg q]
  · rw [e5, h5 k hk, h5 l hl] at e
    rw [e5, h5 k hk]
    by_cases q : k < 3
    · rw [if_pos q] at e ⊢
      by_cases q2 : l < 3
      · rw [if_pos q2] at e
        exact l3 (k + 1) (l + 1) (by omega) (by omega) (by omega) e
      · rw [if_neg q2] at e; exact e
    · rw [if_neg q]
  · rw [e06]; exact l1 0 (by decide)
  · rw [e6]; exact l5
theorem iL_c {F S S' : ST} {n : Nat} (h : iL F S n) (e4 : S' 4 = S 4) (e5 : S' 5 = S 5) (e6 : S' 6 = S 6) (e : S' 0 6 = -1 ∨ S' 0 6 = S 0 6) : iL F S' n := by
  obtain ⟨l1, l2, l3, l4, l5⟩ := h
  refine ⟨by rw [e5]; exact l1, by rw [e4, e5]; exact l2, by rw [e5]; exact l3, ?_, by rw [e6]; exact l5⟩
  rcases e with e | e
  · exact Or.inl e
  · rw [e]; exact l4
theorem iL_set {F S : ST} {n a p k : Nat} {z : Int32} (hn : n ≤ 10) (a4 : a ≤ 4) (hA : S 4 0 = nI a) (h : iL F S n) (hk : k < a) (hz : okz F S n a p z) : iL F (sti S 5 k z) n := by
  obtain ⟨l1, l2, l3, l4, l5⟩ := h
  have e4 : (sti S 5 k z) 4 = S 4 := sti_o (by decide)
  have e5 : (sti S 5 k z) 5 = upd (S 5) k z := sti_s
  have e6 : (sti S 5 k z) 6 = S 6 := sti_o (by decide)
  have e0 : (sti S 5 k z) 0 = S 0 := sti_o (by decide)
  have hz2 : z = -1 ∨ ∃ j, j < n ∧ bt (F 0 5) j = false ∧ z = nI j ∧ ∀ l, l < 4 → S 5 l ≠ nI j := by
    rcases hz with hz | ⟨j, hj, hm, hz⟩
    · exact Or.inl hz
    · refine Or.inr ⟨j, hj, ?_, hz, fun l hl e => ?_⟩
      · unfold mayB at hm
        cases hb : bt (F 0 5) j
        · rfl
        · rw [hb] at hm; simp at hm
      · by_cases q : l < a
        · have hpl : plS S a (nI j) = -1 := by
            unfold mayB at hm
            rw [Bool.and_eq_true, Bool.and_eq_true, decide_eq_true_iff] at hm
            exact hm.1.2
          rcases pl_case S a4 (nI j) with ⟨_, hh⟩ | ⟨i, hi, _, hh⟩
          · exact hh l q e
          · exact absurd (hh.symm.trans hpl) (nI_m1 (by omega))
        · have := l2 l hl (by rw [hA]; exact nI_le (by omega) (by omega))
          exact absurd (e.symm.trans this) (nI_m1 (by omega))
  refine ⟨fun j hj => ?_, fun j hj hj2 => ?_, fun j l hj hl hjl e => ?_, ?_, ?_⟩
  · rw [e5]
    by_cases q : j = k
    · rw [q, upd_s]
      rcases hz2 with hz2 | ⟨j, h1, h2, h3, _⟩
      · exact Or.inl hz2
      · exact Or.inr ⟨j, h1, h2, h3⟩
    · rw [upd_n q]; exact l1 j hj
  · rw [e4] at hj2
    have q : j ≠ k := fun q => by
      rw [hA] at hj2
      have := (nI_leI (by omega) (by omega)).mp hj2
      omega
    rw [e5, upd_n q]; exact l2 j hj hj2
  · rw [e5] at e ⊢
    by_cases q : j = k
    · rw [q, upd_s] at e ⊢
      rw [upd_n (by omega)] at e
      rcases hz2 with hz2 | ⟨i, h1, h2, h3, h4⟩
      · exact hz2
      · exact absurd (e.symm.trans h3) (h4 l hl)
    · by_cases q2 : l = k
      · rw [q2, upd_s, upd_n q] at e
        rw [upd_n q]
        rcases hz2 with hz2 | ⟨i, h1, h2, h3, h4⟩
        · exact e.trans hz2
        · exact absurd (e.trans h3) (h4 j hj)
      · rw [upd_n q, upd_n q2] at e
        rw [upd_n q]
        exact l3 j l hj hl hjl e
  · rw [e0]; exact l4
  · rw [e6]; exact l5
def psI (F C S M Sk Mk : ST) : Prop := core F C Sk (upd (upd (Mk 1) 1 (Sk 0 6)) 2 0) ∧ inv F C Sk ∧ Sk 4 = S 4 ∧ Sk 0 8 = S 0 8 ∧ Sk 0 9 = S 0 9 ∧ (∀ b, b ≠ 1 → Mk b = M b) ∧ (∀ i, 14 ≤ i → Mk 1 i = M 1 i)
theorem psI_sh {F C S M Sk Mk S1 : ST} {a : Nat} (a4 : a ≤ 4) (hA : Sk 4 0 = nI a) (h : psI F C S M Sk Mk) (m2 : ∀ c, c ≠ 5 → S1 c = Sk c) (m3 : ∀ j, j < 4 → S1 5 j = if j < 3 then Sk 5 (j + 1) else -1) : psI F C S M (sti S1 0 6 (Sk 5 0)) (shM Mk) := by
  obtain ⟨hc, ⟨n, hn, hF, i1, i2, i3, i4⟩, h4, h8, h9, hM, hM1⟩ := h
  have c1 : core F C S1 (upd (upd (shM Mk 1) 1 (Sk 0 6)) 2 0) := core_shift hc m2 m3 (fun i => by
    by_cases q2 : i = 2
    · rw [q2]; rfl
    by_cases q1 : i = 1
    · rw [q1]; rfl
    rw [upd_n q2, upd_n q1, shM_1, upd_n (show i + 1 ≠ 2 by omega)]
    by_cases q : 10 ≤ i ∧ i < 13
    · rw [if_pos q, if_pos q, upd_n (show i + 1 ≠ 1 by omega)]
    · rw [if_neg q, if_neg q, upd_n q2, upd_n q1])
  have e06 : (sti S1 0 6 (Sk 5 0)) 0 6 = Sk 5 0 := by rw [sti_s, upd_s]
  refine ⟨?_, ⟨n, hn, hF, i1, iR_c i2 ((sti_o (by decide)).trans (m2 4 (by decide))), iL_shift a4 hA i3 m2 m3, i4⟩, ?_, ?_, ?_, fun b hb => by rw [shM_o hb]; exact hM b hb, fun i hi => by rw [shM_1, if_neg (by omega), if_neg (by omega)]; exact hM1 i hi⟩
  · rw [e06]
    refine core_m (core_sits c1 (Sk 5 0)) (fun i _ => ?_)
    by_cases q2 : i = 2
    · rw [q2]; rfl
    by_cases q1 : i = 1
    · rw [q1]; rfl
    rw [upd_n q2, upd_n q1, upd_n q1, upd_n q2, upd_n q1]
  · rw [sti_o (by decide), m2 4 (by decide)]; exact h4
  · rw [sti_s, upd_n (by decide), m2 0 (by decide)]; exact h8
  · rw [sti_s, upd_n (by decide), m2 0 (by decide)]; exact h9
def frN1 (C S M C' S' M' : ST) : Prop := (∀ b, b ≠ 2 → C' b = C b) ∧ (∀ b, b ≠ 1 → b ≠ 26 → M' b = M b) ∧ (∀ i, 74 ≤ i → M' 1 i = M 1 i) ∧ S' 0 8 = S 0 8 ∧ S' 0 9 = S 0 9 ∧ S' 4 = S 4
def frN2 (C S M C' S' M' : ST) : Prop := (∀ b, b ≠ 2 → C' b = C b) ∧ (∀ b, b ≠ 1 → b ≠ 12 → b ≠ 26 → M' b = M b) ∧ (∀ i, 74 ≤ i → M' 1 i = M 1 i) ∧ S' 0 8 = S 0 8 ∧ S' 0 9 = S 0 9 ∧ S' 4 = S 4
theorem frN1_g {C S M Ck Sk Mk C' M' : ST} {k : Nat} {z : Int32} (hk : k < 4) (h : frN1 C S M Ck Sk Mk) (f : fr1 Ck Mk C' M') : frN1 C S M C' (sti Sk 5 k z) (sti M' 1 (10 + k) z) := by
  obtain ⟨h1, h2, h3, h4, h5, h6⟩ := h
  refine ⟨fun b hb => (f.1 b hb).trans (h1 b hb), fun b hb hc => ?_, fun i hi => ?_, h4, h5, (sti_o (by decide)).trans h6⟩
  · rw [sti_o hb]; exact (f.2 b hc).trans (h2 b hb hc)
  · rw [sti_s, upd_n (by omega), f.2 1 (by decide)]; exact h3 i hi
theorem frN2_g {C S M Ck Sk Mk C' M' : ST} {k : Nat} {z : Int32} (hk : k < 4) (h : frN2 C S M Ck Sk Mk) (f : fr2 Ck Mk C' M') : frN2 C S M C' (sti Sk 5 k z) (sti M' 1 (10 + k) z) := by
  obtain ⟨h1, h2, h3, h4, h5, h6⟩ := h
  refine ⟨fun b hb => (f.1 b hb).trans (h1 b hb), fun b hb hc hd => ?_, fun i hi => ?_, h4, h5, (sti_o (by decide)).trans h6⟩
  · rw [sti_o hb]; exact (f.2 b hc hd).trans (h2 b hb hc hd)
  · rw [sti_s, upd_n (by omega), f.2 1 (by decide) (by decide)]; exact h3 i hi
theorem ctx_set {F C S M : ST} {n a p k : Nat} {z : Int32} (h : ctx F C S M n a) (hk : k < a) (hz : okz F S n a p z) : ctx F C (sti S 5 k z) (sti M 1 (10 + k) z) n a := by
  obtain ⟨hn, hF, a1, a4, hA, hc, i1, i2, i3, i4⟩ := h
  refine ⟨hn, hF, a1, a4, by rw [sti_o (by decide)]; exact hA, ?_, i1, iR_c i2 (sti_o (by decide)), iL_set hn a4 hA i3 hk hz, i4⟩
  rw [sti_s]
  exact core_line hc (by omega) z
theorem okz_fr {F S : ST} {n a p : Nat} {z : Int32} (h : okz F S n a p z) : z = -1 ∨ ∃ j, j < n ∧ z = nI j := by
  rcases h with h | ⟨j, hj, _, h⟩
  · exact Or.inl h
  · exact Or.inr ⟨j, hj, h⟩
