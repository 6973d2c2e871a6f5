-- FOLLOWS
theorem vup_o {M : ST} {k b : Nat} {f : Nat → Int32} (h : b ≠ k) : va_up M k f b = M b := if_neg h
theorem vup_s {M : ST} {k : Nat} {f : Nat → Int32} : va_up M k f k = f := if_pos rfl
theorem mayB_ag {F S S' : ST} {a p q : Nat} (hS : agS S S') (a4 : a ≤ 4) : mayB F S' a p q = mayB F S a p q := by
  have e : plS S' a (nI q) = plS S a (nI q) := plc_cong (nI q) a 0 (fun j _ hj => hS.2.2.2.1 j (by omega))
  unfold mayB
  rw [e, hS.1, hS.2.2.1 2 (by decide), hS.2.2.1 3 (by decide)]
theorem fol_in {M : ST} {x1 x2 : Int32} : ∀ (r k f : Nat) (K : Nat → Int32), k + r = 74 → r < f → (∀ i, i < k → K i = M 1 i) → ∃ K', fX8_followsBy_2 f x1 x2 (nI k) (va_up M 12 K) = fX8_followsBy_2_s (fX8_followsBy_2 0) x1 x2 (nI 74) (va_up M 12 K') ∧ ∀ i, i < 74 → K' i = M 1 i := by
  intro r
  induction r with
  | zero =>
    intro k f K hk hf hK
    obtain ⟨f, rfl⟩ : ∃ n', f = n' + 1 := ⟨f - 1, by omega⟩
    have ek : k = 74 := by omega
    subst ek
    refine ⟨K, ?_, fun i hi => hK i (by omega)⟩
    show fX8_followsBy_2_s (fX8_followsBy_2 f) _ _ _ _ = _
    unfold fX8_followsBy_2_s
    rw [if_pos (by decide), if_pos (by decide)]
  | succ r ih =>
    intro k f K hk hf hK
    obtain ⟨f, rfl⟩ : ∃ n', f = n' + 1 := ⟨f - 1, by omega⟩
    obtain ⟨K', h1, h2⟩ := ih (k + 1) f (upd K k (M 1 k)) (by omega) (by omega) (fun i hi => by
      by_cases e : i = k
      · rw [e, upd_s]
      · rw [upd_n e]; exact hK i (by omega))
    refine ⟨K', ?_, h2⟩
    rw [← h1]
    show fX8_followsBy_2_s (fX8_followsBy_2 f) _ _ _ _ = _
    have e : sti (va_up M 12 K) 12 k ((va_up M 12 K) 1 k) = va_up M 12 (upd K k (M 1 k)) := by
      funext b
      unfold sti
      by_cases e : b = 12
      · rw [e, vup_s, vup_s, vup_s, vup_o (by decide)]
      · rw [vup_o e, vup_o e, vup_o e]
    unfold fX8_followsBy_2_s
    rw [if_neg (show ¬ (74 : Int32) ≤ nI k from nI_ge (b := 74) (by omega) (by decide)), cks _ (vp_in_nI (by omega) (by decide)), cks _ (vp_in_nI (by omega) (by decide)), lts, lts, nI_clamp (by omega), nI_1, e]
theorem fol_out {v : Int32} : ∀ (r k f : Nat) (M : ST), k + r = 74 → r < f → fX8_followsBy_115 f v (nI k) M = some (v, va_up M 1 (fun i => if k ≤ i ∧ i < 74 then M 12 i else M 1 i)) := by
  intro r
  induction r with
  | zero =>
    intro k f M hk hf
    obtain ⟨f, rfl⟩ : ∃ n', f = n' + 1 := ⟨f - 1, by omega⟩
    show fX8_followsBy_115_s (fX8_followsBy_115 f) _ _ _ = _
    unfold fX8_followsBy_115_s
    rw [if_pos (show (74 : Int32) ≤ nI k from nI_le (a := 74) (by omega) (by omega))]
    congr 2
    funext b
    by_cases e : b = 1
    · rw [e, vup_s]
      funext i
      rw [if_neg (by omega)]
    · rw [vup_o e]
  | succ r ih =>
    intro k f M hk hf
    obtain ⟨f, rfl⟩ : ∃ n', f = n' + 1 := ⟨f - 1, by omega⟩
    show fX8_followsBy_115_s (fX8_followsBy_115 f) _ _ _ = _
    unfold fX8_followsBy_115_s
    rw [if_neg (show ¬ (74 : Int32) ≤ nI k from nI_ge (b := 74) (by omega) (by decide)), cks _ (vp_in_nI (by omega) (by decide)), cks _ (vp_in_nI (by omega) (by decide)), lts, lts, nI_clamp (by omega), nI_1, ih (k + 1) f _ (by omega) (by omega)]
    congr 2
    funext b
    by_cases e : b = 1
    · rw [e, vup_s, vup_s]
      funext i
      rw [sti_o (by decide), sti_s]
      by_cases q : i = k
      · rw [q, upd_s, if_neg (by omega), if_pos (by omega)]
      · rw [upd_n q]
        by_cases q2 : k + 1 ≤ i ∧ i < 74
        · rw [if_pos q2, if_pos (by omega)]
        · rw [if_neg q2, if_neg (by omega)]
    · rw [vup_o e, vup_o e, sti_o e]
theorem fol_l {F C S M0 : ST} {n a p : Nat} (hp : p < n) (hM4 : M0 12 4 = nI a) : ∀ (r k f g : Nat) (sum : Int32) (Ck Tk Mk : ST), k + r = a + 2 → r < f → r < g → ctx F Ck Tk Mk n a → (Tk 0 8 = -1 ∧ Tk 0 9 = -1 ∧ Mk 0 12 = 1) → (∀ b, b ≠ 2 → Ck b = C b) → (∀ b, b ≠ 1 → b ≠ 26 → Mk b = M0 b) → (∀ i, 74 ≤ i → Mk 1 i = M0 1 i) → ∃ (v : Int32) (C' T' M' : ST), fX4_whatFollows_54 S F f (nI p) 1 sum (nI (a + 2)) (nI k) Ck Tk = some (v, C', T') ∧ fX8_followsBy_53 g (nI p) sum (nI k) Mk = fX8_followsBy_115 400 v 0 (sti M' 0 12 0) ∧ (∀ b, b ≠ 2 → C' b = C b) ∧ (∀ b, b ≠ 1 → b ≠ 26 → M' b = M0 b) ∧ (∀ i, 74 ≤ i → M' 1 i = M0 1 i) := by
  intro r
  induction r with
  | zero =>
    intro k f g sum Ck Tk Mk hk hf hg hx hl hC hM hM1
    obtain ⟨f, rfl⟩ : ∃ n', f = n' + 1 := ⟨f - 1, by omega⟩
    obtain ⟨g, rfl⟩ : ∃ n', g = n' + 1 := ⟨g - 1, by omega⟩
    have a4 := hx.2.2.2.1
    refine ⟨sum, Ck, Tk, Mk, ?_, ?_, hC, hM, hM1⟩
    · show fX4_whatFollows_54_s S F (fX4_whatFollows_54 S F f) _ _ _ _ _ _ _ = _
      unfold fX4_whatFollows_54_s
      rw [if_pos (nI_le (by omega) (by omega))]
    · show fX8_followsBy_53_s (fX8_followsBy_53 g) _ _ _ _ = _
      unfold fX8_followsBy_53_s
      rw [hM 12 (by decide) (by decide), hM4, show nI a + 2 = nI (a + 2) from nI_add a 2, if_pos (nI_le (by omega) (by omega)), lts]
  | succ r ih =>
    intro k f g sum Ck Tk Mk hk hf hg hx hl hC hM hM1
    obtain ⟨f, rfl⟩ : ∃ n', f = n' + 1 := ⟨f - 1, by omega⟩
    obtain ⟨g, rfl⟩ : ∃ n', g = n' + 1 := ⟨g - 1, by omega⟩
    have a4 := hx.2.2.2.1
    have hn := hx.1
    have iF0 := hx.2.2.2.2.2.2.1
    have E : fX4_whatFollows_54 S F (f + 1) (nI p) 1 sum (nI (a + 2)) (nI k) Ck Tk = fX4_whatFollows_54_s S F (fX4_whatFollows_54 S F f) (nI p) 1 sum (nI (a + 2)) (nI k) Ck Tk := rfl
    have E8 : fX8_followsBy_53 (g + 1) (nI p) sum (nI k) Mk = fX8_followsBy_53_s (fX8_followsBy_53 g) (nI p) sum (nI k) Mk := rfl
    rw [E, E8]
    unfold fX4_whatFollows_54_s fX8_followsBy_53_s
    obtain ⟨z, C1, T1, M1, z1, z2, z3, z4, z5, -⟩ := nxtq hx hl
    rw [hM 12 (by decide) (by decide), hM4, show nI a + 2 = nI (a + 2) from nI_add a 2, if_neg (nI_ge (a := k) (b := a + 2) (by omega) (by omega)), if_neg (nI_ge (a := k) (b := a + 2) (by omega) (by omega)), show (1 : Int32) - 1 = 0 by decide, z1, z2, b3s, b2s]
    have go : ∀ sum', ∃ (v : Int32) (C' T' M' : ST), fX4_whatFollows_54 S F f (nI p) 1 sum' (nI (a + 2)) (nI (k + 1)) C1 T1 = some (v, C', T') ∧ fX8_followsBy_53 g (nI p) sum' (nI (k + 1)) M1 = fX8_followsBy_115 400 v 0 (sti M' 0 12 0) ∧ (∀ b, b ≠ 2 → C' b = C b) ∧ (∀ b, b ≠ 1 → b ≠ 26 → M' b = M0 b) ∧ (∀ i, 74 ≤ i → M' 1 i = M0 1 i) := fun sum' =>
      ih (k + 1) f g sum' C1 T1 M1 (by omega) (by omega) (by omega) z3 ⟨by rw [z4.2.2.2.1]; exact hl.1, by rw [z4.2.2.2.2.1]; exact hl.2.1, by rw [z4.2.1 0 (by decide) (by decide)]; exact hl.2.2⟩ (fun b hb => (z4.1 b hb).trans (hC b hb)) (fun b h1 h2 => (z4.2.1 b h1 h2).trans (hM b h1 h2)) (fun i hi => (z4.2.2.1 i hi).trans (hM1 i hi))
    rcases z5 with e | ⟨s, hs, e⟩
    · rw [e, if_pos rfl, if_neg m1_nle, lts, lts, lts, Int32.add_zero, nI_1]
      exact go sum
    · have hc1 := z3.2.2.2.2.2.1
      obtain ⟨t, ht, et⟩ := (iF0.1 s (by omega)).2.2
      obtain ⟨u, hu, eu⟩ := (iF0.1 p (by omega)).2.2
      rw [e, if_neg (nI_m1 (by omega)), if_pos (nI_pos' (by omega)), cks _ (vp_in_nI (show p < 10 by omega) (by decide)), nI_clamp (show p < 2 ^ 31 by omega), eu, wor1 (by omega) hu ht et, b1s, has0_2 (by omega), b1s, has0_2 (by omega), b1s, (hc1.2.2.2.1 s (by omega)).2.2.1, (hc1.2.2.2.1 p (by omega)).2.2.1, et, eu, wor8 ht hu, b1s, hc1.2.2.2.2.2.1 _ (by omega)]
      simp only [lts]
      rw [nI_1]
      exact go _
theorem fol {F C S M : ST} {n a p q : Nat} (h : ctx F C S M n a) (hp : p < n) (hq : q < n) (hm : mayB F S a p q = true) (h12 : M 0 12 = 0) (Tr : ST) : ∃ (v : Int32) (C' Tr' M' : ST), fX4_whatFollows (nI p) (nI q) 1 S F C Tr = some (v, C', Tr') ∧ fX8_followsBy (nI p) (nI q) M = some (v, M') ∧ fr2 C M C' M' := by
  have h' := h
  obtain ⟨hn, hF, a1, a4, hA, hc, i1, i2, i3, i4⟩ := h'
  obtain ⟨T1, t1, t2, t3, t4⟩ := takeS Tr S
  obtain ⟨K, k1, k2⟩ := fol_in (M := M) (x1 := nI p) (x2 := nI q) 74 0 400 (M 12) (by omega) (by omega) (fun i hi => by omega)
  rw [vup_same] at k1
  have k1' : fX8_followsBy (nI p) (nI q) M = fX8_followsBy_2_s (fX8_followsBy_2 0) (nI p) (nI q) (nI 74) (va_up M 12 K) := k1
  obtain ⟨MM, eMM⟩ : ∃ MM, MM = sti (va_up M 12 K) 0 12 1 := ⟨_, rfl⟩
  have mm1 : MM 1 = M 1 := by rw [eMM, sti_o (by decide), vup_o (by decide)]
  have mm12 : MM 12 = K := by rw [eMM, sti_o (by decide), vup_s]
  have mm0 : MM 0 = upd (M 0) 12 1 := by rw [eMM, sti_s, vup_o (by decide)]
  have hA8 : M 1 4 = nI a := (hc.2.1 0 (by decide)).trans hA
  have hx1 : ctx F C T1 MM n a := by
    have hi := inv_ag (agF_r F) (agC_r C) t2 (ctx_inv h).2
    obtain ⟨n', hn', hF', j1, j2, j3, j4⟩ := hi
    have en : n' = n := nI_inj (by omega) (by omega) (hF'.symm.trans hF)
    subst en
    exact ⟨hn, hF, a1, a4, (t2.2.2.1 0 (by decide)).trans hA, by rw [mm1]; exact core_ag (agF_r F) (agC_r C) t2 hc, j1, j2, j3, j4⟩
  have hx2 : ctx F C (sti T1 5 (a - 1) (nI q)) (sti MM 1 (10 + (a - 1)) (nI q)) n a := ctx_set (p := p) hx1 (by omega) (Or.inr ⟨q, hq, by rw [mayB_ag t2 a4]; exact hm, rfl⟩)
  obtain ⟨M4, eM4⟩ : ∃ M4, M4 = sti MM 1 (10 + (a - 1)) (nI q) := ⟨_, rfl⟩
  rw [← eM4] at hx2
  have m4o : ∀ b, b ≠ 1 → M4 b = MM b := fun b hb => by rw [eM4, sti_o hb]
  have m412 : M4 12 4 = nI a := by rw [m4o 12 (by decide), mm12, k2 4 (by decide)]; exact hA8
  obtain ⟨v, C', T', M', r1, r2, r3, r4, r5⟩ := fol_l (C := C) (S := S) (M0 := M4) hp m412 (a + 2) 0 400 400 0 C (sti T1 5 (a - 1) (nI q)) M4 (by omega) (by omega) (by omega) hx2 ⟨t3, t4, by rw [m4o 0 (by decide), mm0, upd_s]⟩ (fun _ _ => rfl) (fun _ _ _ => rfl) (fun _ _ => rfl)
  have out := fol_out (v := v) 74 0 400 (sti M' 0 12 0) (by omega) (by omega)
  refine ⟨v, C', T', va_up (sti M' 0 12 0) 1 (fun i => if 0 ≤ i ∧ i < 74 then sti M' 0 12 0 12 i else sti M' 0 12 0 1 i), ?_, ?_, r3, ?_⟩
  · unfold fX4_whatFollows
    rw [if_pos (by decide), t1, b1s, hA, show nI a - 1 = nI (a - 1) from pk_sub (a := a) (b := 1) a1, cks _ (vp_in_nI (by omega) (by decide)), nI_clamp (by omega), lts, lts, show nI a + 2 = nI (a + 2) from nI_add a 2]
    exact r1
  · rw [k1']
    unfold fX8_followsBy_2_s
    rw [if_pos (by decide), lts, ← eMM, mm1, hA8, show (10 + nI a) - 1 = nI (10 + (a - 1)) by rw [show (10 : Int32) = nI 10 from rfl, nI_add, show nI (10 + a) - 1 = nI (10 + a - 1) from pk_sub (a := 10 + a) (b := 1) (by omega), show 10 + a - 1 = 10 + (a - 1) by omega], cks _ (vp_in_nI (by omega) (by decide)), nI_clamp (by omega), lts, ← eM4]
    exact r2.trans out
  · intro b h1 h2
    by_cases e1 : b = 1
    · rw [e1, vup_s]
      funext i
      by_cases q : i < 74
      · rw [if_pos ⟨Nat.zero_le i, q⟩, sti_o (by decide), r4 12 (by decide) (by decide), m4o 12 (by decide), mm12, k2 i q]
      · rw [if_neg (by omega), sti_o (by decide), r5 i (by omega), eM4, sti_s, upd_n (by omega), mm1]
    · rw [vup_o e1]
      by_cases e0 : b = 0
      · rw [e0, sti_s, r4 0 (by decide) (by decide), m4o 0 (by decide), mm0]
        funext i
        by_cases q : i = 12
        · rw [q, upd_s, h12]
        · rw [upd_n q, upd_n q]
      · rw [sti_o e0, r4 b e1 h2, m4o b e1, eMM, sti_o e0, vup_o h1]
