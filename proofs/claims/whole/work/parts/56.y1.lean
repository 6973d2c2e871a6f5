-- A YEAR
def bu (F : ST) (x : Int32) : Int32 := if x = -1 then -1 else if bt (F 0 5) x.toNatClampNeg then -1 else x
def bur (F S : ST) : ST := va_up (sti S 0 6 (bu F (S 0 6))) 5 (fun k => bu F (S 5 k))
theorem bu_m (F : ST) : bu F (-1) = -1 := if_pos rfl
theorem bu_q {F : ST} {q : Nat} (hq : q < 10) : bu F (nI q) = if bt (F 0 5) q then -1 else nI q := by
  unfold bu
  rw [if_neg (nI_m1 (by omega)), nI_clamp (by omega)]
theorem bur5 (F S : ST) (k : Nat) : bur F S 5 k = bu F (S 5 k) := by unfold bur; rw [vup_s]
theorem bur06 (F S : ST) : bur F S 0 6 = bu F (S 0 6) := by unfold bur; rw [vup_o (by decide), sti_s, upd_s]
theorem bur0 (F S : ST) {i : Nat} (h : i ≠ 6) : bur F S 0 i = S 0 i := by unfold bur; rw [vup_o (by decide), sti_s, upd_n h]
theorem burO (F S : ST) {c : Nat} (h0 : c ≠ 0) (h5 : c ≠ 5) : bur F S c = S c := by unfold bur; rw [vup_o h5, sti_o h0]
/-- the seat's own: who is named and who sits are people -/
def lS (S : ST) (n : Nat) : Prop := (∀ k, k < 4 → S 5 k = -1 ∨ ∃ q : Nat, q < n ∧ S 5 k = nI q) ∧ (∀ k, k < 4 → S 4 0 ≤ nI k → S 5 k = -1) ∧ (∀ k l, k < 4 → l < 4 → k ≠ l → S 5 k = S 5 l → S 5 k = -1) ∧ (S 0 6 = -1 ∨ ∃ q : Nat, q < n ∧ S 0 6 = nI q) ∧ (∀ p, n ≤ p → p < 10 → S 6 p = 0)
theorem lS_of {F S : ST} {n : Nat} (h : iL F S n) : lS S n := by
  obtain ⟨l1, l2, l3, l4, l5⟩ := h
  refine ⟨fun k hk => ?_, l2, l3, ?_, l5⟩
  · rcases l1 k hk with z | ⟨q, hq, -, z⟩
    · exact Or.inl z
    · exact Or.inr ⟨q, hq, z⟩
  · rcases l4 with z | ⟨q, hq, -, z⟩
    · exact Or.inl z
    · exact Or.inr ⟨q, hq, z⟩
theorem bu_case {F : ST} {n : Nat} (hn : n ≤ 10) {x : Int32} (h : x = -1 ∨ ∃ q : Nat, q < n ∧ x = nI q) : bu F x = -1 ∨ ∃ q : Nat, q < n ∧ bt (F 0 5) q = false ∧ x = nI q ∧ bu F x = nI q := by
  rcases h with z | ⟨q, hq, z⟩
  · rw [z]; exact Or.inl (bu_m F)
  · rw [z, bu_q (by omega)]
    cases hb : bt (F 0 5) q
    · exact Or.inr ⟨q, hq, hb, rfl, rfl⟩
    · exact Or.inl rfl
theorem iL_bur {S : ST} {n : Nat} (F : ST) (hn : n ≤ 10) (h : lS S n) : iL F (bur F S) n := by
  obtain ⟨l1, l2, l3, l4, l5⟩ := h
  have e4 : bur F S 4 = S 4 := burO F S (by decide) (by decide)
  refine ⟨fun k hk => ?_, fun k hk hk2 => ?_, fun k l hk hl hkl e => ?_, ?_, fun p hp hp2 => by rw [burO F S (by decide) (by decide)]; exact l5 p hp hp2⟩
  · rw [bur5]
    rcases bu_case (F := F) hn (l1 k hk) with z | ⟨q, hq, hd, _, z⟩
    · exact Or.inl z
    · exact Or.inr ⟨q, hq, hd, z⟩
  · rw [e4] at hk2
    rw [bur5, l2 k hk hk2, bu_m]
  · rw [bur5, bur5] at e
    rw [bur5]
    rcases bu_case (F := F) hn (l1 k hk) with z | ⟨q, hq, hd, z1, z2⟩
    · exact z
    · exfalso
      rcases bu_case (F := F) hn (l1 l hl) with y | ⟨p, hp, hd', y1, y2⟩
      · rw [z2, y] at e
        exact nI_m1 (by omega) e
      · rw [z2, y2] at e
        have e2 : S 5 k = S 5 l := by rw [z1, y1, e]
        have := l3 k l hk hl hkl e2
        rw [z1] at this
        exact nI_m1 (by omega) this
  · rw [bur06]
    rcases bu_case (F := F) hn l4 with z | ⟨q, hq, hd, _, z⟩
    · exact Or.inl z
    · exact Or.inr ⟨q, hq, hd, z⟩
theorem core_dead {F C S : ST} {m : Nat → Int32} (h : core F C S m) {p : Nat} (hp : p < 10) {d : Int32} (hd : ∀ q, q < 10 → bt d q = (bt (F 0 5) q || decide (q = p))) : core (sti F 0 5 d) C S (upd m (14 + 6 * p + 5) 1) := by
  obtain ⟨⟨a1, a2, a3, a4⟩, b, c, dd, e, f, g, k⟩ := h
  have o : ∀ i, i < 14 ∨ 74 ≤ i → upd m (14 + 6 * p + 5) 1 i = m i := fun i hi => upd_n (by omega)
  refine ⟨⟨(o 0 (by omega)).trans a1, (o 1 (by omega)).trans a2, (o 2 (by omega)).trans a3, (o 3 (by omega)).trans a4⟩, fun i hi => (o _ (by omega)).trans (b i hi), fun i hi => (o _ (by omega)).trans (c i hi), fun i hi => ?_, fun i hi => (o _ (by omega)).trans (e i hi), fun i hi => (o _ (by omega)).trans (f i hi), (o 190 (by omega)).trans g, fun i hi hi2 => (o _ (by omega)).trans (k i hi hi2)⟩
  obtain ⟨d0, d1, d2, d3, d4, d5⟩ := dd i hi
  refine ⟨by rw [upd_n (by omega)]; exact d0, by rw [upd_n (by omega)]; exact d1, by rw [upd_n (by omega)]; exact d2, by rw [upd_n (by omega)]; exact d3, by rw [upd_n (by omega)]; exact d4, ?_⟩
  show upd m (14 + 6 * p + 5) 1 (14 + 6 * i + 5) = if bt d i then 1 else 0
  rw [hd i hi]
  by_cases q : i = p
  · rw [q, upd_s, decide_eq_true rfl, Bool.or_true]; rfl
  · rw [upd_n (by omega), decide_eq_false q, Bool.or_false]; exact d5
theorem bu_die {F : ST} {n p : Nat} (hn : n ≤ 10) (hp : p < n) {d : Int32} (hd : ∀ q, q < 32 → bt d q = (bt (F 0 5) q || decide (q = p))) {x : Int32} (h : x = -1 ∨ ∃ q : Nat, q < n ∧ x = nI q) : bu (sti F 0 5 d) x = if bu F x = nI p then -1 else bu F x := by
  rcases h with z | ⟨q, hq, z⟩
  · rw [z, bu_m, bu_m, if_neg (fun e => nI_m1 (by omega) e.symm)]
  · rw [z, bu_q (by omega), bu_q (by omega), show (sti F 0 5 d) 0 5 = d from rfl, hd q (by omega)]
    cases hb : bt (F 0 5) q
    · by_cases e : q = p
      · rw [e]; simp
      · have ne : ¬ nI q = nI p := fun z => e (nI_inj (by omega) (by omega) z)
        simp [e, ne]
    · have ne : ¬ (-1 : Int32) = nI p := fun z => nI_m1 (by omega) z.symm
      simp
theorem die_e {F C S M : ST} {n a p : Nat} (hl : lS S n) (h : ctx F C (bur F S) M n a) (hp : p < n) {d : Int32} (hd : ∀ q, q < 32 → bt d q = (bt (F 0 5) q || decide (q = p))) : ∃ M', fX8_dies (nI p) M = some M' ∧ ctx (sti F 0 5 d) C (bur (sti F 0 5 d) S) M' n a ∧ (∀ b, b ≠ 1 → M' b = M b) ∧ (∀ i, 74 ≤ i → M' 1 i = M 1 i) := by
  obtain ⟨hn, hF, a1, a4, hA, hc, i1, i2, i3, i4⟩ := h
  obtain ⟨F', eF'⟩ : ∃ F', F' = sti F 0 5 d := ⟨_, rfl⟩
  obtain ⟨M2, eM2⟩ : ∃ M2, M2 = sti M 1 (14 + 6 * p + 5) 1 := ⟨_, rfl⟩
  have c2 : core F' C (bur F S) (M2 1) := by
    rw [eM2, eF', sti_s]
    exact core_dead hc (by omega) (fun q hq => hd q (by omega))
  have ei : (14 + 6 * nI p) + 5 = nI (14 + 6 * p + 5) := by rw [show (6 : Int32) = nI 6 from rfl, show (14 : Int32) = nI 14 from rfl, show (5 : Int32) = nI 5 from rfl, pk_mul, nI_add, nI_add]
  have o2 : (∀ b, b ≠ 1 → M2 b = M b) ∧ (∀ i, 74 ≤ i → M2 1 i = M 1 i) := ⟨fun b hb => by rw [eM2, sti_o hb], fun i hi => by rw [eM2, sti_s, upd_n (by omega)]⟩
  -- the line
  obtain ⟨S2, M10, k1, k2, k3, k4, k5, k6, k7⟩ : ∃ S2 M10, dc_b1 (fX8_placeOf (nI p) M2) (fun r3 => (if r3 < 0 then fX8_dies_35 (nI p) M2 else dc_ck (10 + r3) 271 (dc_lt (sti M2 1 (Int32.toNatClampNeg (10 + r3)) (-1)) (fun M_10 => fX8_dies_35 (nI p) M_10)))) = fX8_dies_35 (nI p) M10 ∧ core F' C S2 (M10 1) ∧ (∀ k, k < 4 → S2 5 k = bu F' (S 5 k)) ∧ (∀ c, c ≠ 5 → S2 c = bur F S c) ∧ (∀ b, b ≠ 1 → M10 b = M b) ∧ (∀ i, 74 ≤ i → M10 1 i = M 1 i) ∧ True := by
    have hb : ∀ k, k < 4 → bu F' (S 5 k) = if bur F S 5 k = nI p then -1 else bur F S 5 k := fun k hk => by rw [eF', bur5]; exact bu_die hn hp hd (hl.1 k hk)
    rw [pl8 c2 a4 hA, b1s]
    rcases pl_case (bur F S) a4 (nI p) with ⟨z, hz⟩ | ⟨j, hj, hz, z⟩
    · rw [z, if_pos m1_lt]
      refine ⟨bur F S, M2, rfl, c2, fun k hk => ?_, fun _ _ => rfl, o2.1, o2.2, trivial⟩
      rw [hb k hk, if_neg]
      intro e
      by_cases q : k < a
      · exact hz k q e
      · have := i3.2.1 k hk (by rw [hA]; exact nI_le (by omega) (by omega))
        exact nI_m1 (by omega) (e.symm.trans this)
    · rw [z, if_neg (nI_pos (by omega)), show 10 + nI j = nI (10 + j) by rw [show (10 : Int32) = nI 10 from rfl, nI_add], cks _ (vp_in_nI (by omega) (by decide)), nI_clamp (by omega), lts]
      refine ⟨sti (bur F S) 5 j (-1), sti M2 1 (10 + j) (-1), rfl, by rw [sti_s]; exact core_line c2 (by omega) (-1), fun k hk => ?_, fun c hc' => sti_o hc', fun b hb' => by rw [sti_o hb']; exact o2.1 b hb', fun i hi => by rw [sti_s, upd_n (by omega)]; exact o2.2 i hi, trivial⟩
      rw [hb k hk, sti_s]
      by_cases q : k = j
      · rw [q, upd_s, if_pos hz]
      · rw [upd_n q, if_neg]
        intro e
        have := i3.2.2.1 k j hk (by omega) q (e.trans hz.symm)
        exact nI_m1 (by omega) (e.symm.trans this)
  -- who sits
  have e1 : M10 1 1 = S2 0 6 := k2.1.2.1
  have e2 : S2 0 6 = bu F (S 0 6) := by rw [k4 0 (by decide), bur06]
  have hb0 : bu F' (S 0 6) = if bu F (S 0 6) = nI p then -1 else bu F (S 0 6) := by rw [eF']; exact bu_die hn hp hd hl.2.2.2.1
  obtain ⟨S3, M', t1, t2, t3, t4, t5, t6⟩ : ∃ S3 M', fX8_dies_35 (nI p) M10 = some M' ∧ core F' C S3 (M' 1) ∧ S3 0 6 = bu F' (S 0 6) ∧ ((∀ c, c ≠ 0 → S3 c = S2 c) ∧ ∀ i, i ≠ 6 → S3 0 i = S2 0 i) ∧ (∀ b, b ≠ 1 → M' b = M b) ∧ (∀ i, 74 ≤ i → M' 1 i = M 1 i) := by
    unfold fX8_dies_35
    rw [lts, lts, e1, e2, hb0]
    by_cases q : bu F (S 0 6) = nI p
    · rw [if_pos q, if_pos q]
      exact ⟨sti S2 0 6 (-1), sti M10 1 1 (-1), rfl, by rw [sti_s]; exact core_sits k2 (-1), by rw [sti_s, upd_s], ⟨fun c hc' => sti_o hc', fun i hi => by rw [sti_s, upd_n hi]⟩, fun b hb' => by rw [sti_o hb']; exact k5 b hb', fun i hi => by rw [sti_s, upd_n (by omega)]; exact k6 i hi⟩
    · rw [if_neg q, if_neg q, sti_same (e1.trans e2)]
      exact ⟨S2, M10, rfl, k2, e2, ⟨fun _ _ => rfl, fun _ _ => rfl⟩, k5, k6⟩
  refine ⟨M', ?_, ?_, t5, t6⟩
  · unfold fX8_dies
    rw [ei, cks _ (vp_in_nI (by omega) (by decide)), nI_clamp (by omega), lts, ← eM2, k1, t1]
  · rw [← eF']
    have ag : agS S3 (bur F' S) := by
      refine ⟨by rw [bur06, t3], ?_, fun j hj => ?_, fun k hk => ?_, fun q hq => ?_⟩
      · rw [bur0 F' S (by decide), t4.2 7 (by decide), k4 0 (by decide), bur0 F S (by decide)]
      · rw [burO F' S (by decide) (by decide), t4.1 4 (by decide), k4 4 (by decide), burO F S (by decide) (by decide)]
      · rw [bur5, t4.1 5 (by decide), k3 k hk]
      · rw [burO F' S (by decide) (by decide), t4.1 6 (by decide), k4 6 (by decide), burO F S (by decide) (by decide)]
    refine ⟨hn, by rw [eF']; exact hF, a1, a4, ?_, core_ag (agF_r F') (agC_r C) ag t2, ?_, ?_, iL_bur F' hn hl, i4⟩
    · rw [burO F' S (by decide) (by decide), ← burO F S (c := 4) (by decide) (by decide)]; exact hA
    · rw [eF']
      obtain ⟨f1, f2, f3, f4⟩ := i1
      refine ⟨f1, fun q h1 h2 => ?_, f3, f4⟩
      show bt d q = false
      rw [hd q h2, f2 q h1 h2, decide_eq_false (by omega)]; rfl
    · exact iR_c i2 (by rw [burO F' S (by decide) (by decide), burO F S (by decide) (by decide)])
theorem grow_l {C S : ST} {n a : Nat} : ∀ (r k f g : Nat) (F M : ST), k + r = n → r < f → r < g → ctx F C S M n a → ∃ F' M', fX1_grow_2 f (nI k) F = some F' ∧ fX8_year_2 g (nI k) M = fX8_year_2_s (fX8_year_2 0) (nI n) M' ∧ ctx F' C S M' n a ∧ (∀ b, b ≠ 1 → M' b = M b) ∧ (∀ i, 74 ≤ i → M' 1 i = M 1 i) := by
  intro r
  induction r with
  | zero =>
    intro k f g F M hk hf hg h
    obtain ⟨f, rfl⟩ : ∃ f', f = f' + 1 := ⟨f - 1, by omega⟩
    obtain ⟨g, rfl⟩ : ∃ f', g = f' + 1 := ⟨g - 1, by omega⟩
    have h' := h
    obtain ⟨hn, hF, a1, a4, hA, hc, -⟩ := h'
    refine ⟨F, M, ?_, ?_, h, fun _ _ => rfl, fun _ _ => rfl⟩
    · show fX1_grow_2_s (fX1_grow_2 f) _ _ = _
      unfold fX1_grow_2_s
      rw [hF, if_pos (nI_le (by omega) (by omega))]
    · show fX8_year_2_s (fX8_year_2 g) _ _ = _
      unfold fX8_year_2_s
      rw [hc.1.1, hF, if_pos (nI_le (by omega) (by omega)), if_pos (nI_le (by omega) (by omega))]
  | succ r ih =>
    intro k f g F M hk hf hg h
    obtain ⟨f, rfl⟩ : ∃ f', f = f' + 1 := ⟨f - 1, by omega⟩
    obtain ⟨g, rfl⟩ : ∃ f', g = f' + 1 := ⟨g - 1, by omega⟩
    have h' := h
    obtain ⟨hn, hF, a1, a4, hA, hc, i1, i2, i3, i4⟩ := h'
    have E : fX1_grow_2 (f + 1) (nI k) F = fX1_grow_2_s (fX1_grow_2 f) (nI k) F := rfl
    have E8 : fX8_year_2 (g + 1) (nI k) M = fX8_year_2_s (fX8_year_2 g) (nI k) M := rfl
    have ei : (14 + 6 * nI k) + 1 = nI (14 + 6 * k + 1) := by rw [show (6 : Int32) = nI 6 from rfl, show (14 : Int32) = nI 14 from rfl, show (1 : Int32) = nI 1 from rfl, pk_mul, nI_add, nI_add]
    have er : M 1 (14 + 6 * k + 1) = F 3 k := (hc.2.2.2.1 k (by omega)).2.1
    have L7 : fX1_grow_2 (f + 1) (nI k) F = (if bt (F 0 5) k = true then fX1_grow_2 f (nI (k + 1)) F else if 99 ≤ F 3 k then fX1_grow_2 f (nI (k + 1)) F else fX1_grow_2 f (nI (k + 1)) (sti F 3 k (F 3 k + 1))) := by
      rw [E]
      unfold fX1_grow_2_s
      rw [hF, if_neg (nI_ge (by omega) (by omega)), isAl1 hn hF (by omega), b1s]
      simp only [cks _ (vp_in_nI (show k < 10 by omega) (show 10 < 2 ^ 31 by decide)), lts, nI_1, nI_clamp (show k < 2 ^ 31 by omega)]
      by_cases q : bt (F 0 5) k = true
      · rw [if_pos q, if_pos q, i00]
      · rw [if_neg q, if_neg q, i10]
    have L8 : fX8_year_2 (g + 1) (nI k) M = (if bt (F 0 5) k = true then fX8_year_2 g (nI (k + 1)) M else if 99 ≤ F 3 k then fX8_year_2 g (nI (k + 1)) M else fX8_year_2 g (nI (k + 1)) (sti M 1 (14 + 6 * k + 1) (F 3 k + 1))) := by
      rw [E8]
      unfold fX8_year_2_s
      rw [hc.1.1, hF, if_neg (nI_ge (by omega) (by omega)), lts, ei, isAl8 hc (by omega), b1s]
      simp only [cks _ (vp_in_nI (show 14 + 6 * k + 1 < 271 by omega) (show 271 < 2 ^ 31 by decide)), lts, nI_1, nI_clamp (show 14 + 6 * k + 1 < 2 ^ 31 by omega), er, Int32.add_zero]
      rw [sti_same er]
      by_cases q : bt (F 0 5) k = true
      · rw [if_pos q, if_pos q, i00]
      · rw [if_neg q, if_neg q, i10]
    rw [L7, L8]
    by_cases q : bt (F 0 5) k = true
    · rw [if_pos q, if_pos q]
      exact ih (k + 1) f g F M (by omega) (by omega) (by omega) h
    · rw [if_neg q, if_neg q]
      by_cases q2 : 99 ≤ F 3 k
      · rw [if_pos q2, if_pos q2]
        exact ih (k + 1) f g F M (by omega) (by omega) (by omega) h
      · rw [if_neg q2, if_neg q2]
        obtain ⟨b, hb, eb⟩ := (i1.1 k (by omega)).2.1
        have hb2 : b < 99 := by
          rcases Nat.lt_or_ge b 99 with z | z
          · exact z
          · exfalso; apply q2; rw [eb]; exact nI_le (a := 99) z (by omega)
        have h2 : ctx (sti F 3 k (F 3 k + 1)) C S (sti M 1 (14 + 6 * k + 1) (F 3 k + 1)) n a := by
          refine ⟨hn, hF, a1, a4, hA, by rw [sti_s]; exact core_age hc (by omega) _, ?_, i2, i3, i4⟩
          obtain ⟨f1, f2, f3, f4⟩ := i1
          refine ⟨fun p hp => ?_, f2, f3, f4⟩
          obtain ⟨g1, g2, g3⟩ := f1 p hp
          refine ⟨g1, ?_, g3⟩
          show ∃ a : Nat, a ≤ 99 ∧ upd (F 3) k (F 3 k + 1) p = nI a
          by_cases z : p = k
          · rw [z, upd_s, eb, nI_1]; exact ⟨b + 1, by omega, rfl⟩
          · rw [upd_n z]; exact g2
        obtain ⟨F', M', z1, z2, z3, z4, z5⟩ := ih (k + 1) f g _ _ (by omega) (by omega) (by omega) h2
        exact ⟨F', M', z1, z2, z3, fun b hb => by rw [z4 b hb, sti_o hb], fun i hi => by rw [z5 i hi, sti_s, upd_n (by omega)]⟩
theorem age_le {b : Nat} (hb : b ≤ 99) : (nI b - 40 ≤ 0) ↔ (nI b ≤ 40) := by
  rw [fa_le, fa_le, show (40 : Int32) = nI 40 from rfl, pk_sub_toInt (by omega) (by decide), nI_toInt (by omega), nI_toInt (by decide), show (0 : Int32).toInt = 0 from rfl]
  omega
def yE (n : Nat) (M : ST) : Option (Int32 × ST) := fX8_year_86_s (fX8_year_86 0) (nI n) M
theorem draw_l {C S : ST} {n a : Nat} (hl : lS S n) : ∀ (r k f g : Nat) (F M : ST), k + r = n → r < f → r < g → ctx F C (bur F S) M n a → ∃ F' M', fX1_drawLots_2 f (S 4 5) (nI k) F = some F' ∧ fX8_year_86 g (nI k) M = yE n M' ∧ ctx F' C (bur F' S) M' n a ∧ (∀ b, b ≠ 1 → M' b = M b) ∧ (∀ i, 74 ≤ i → M' 1 i = M 1 i) := by
  intro r
  induction r with
  | zero =>
    intro k f g F M hk hf hg h
    obtain ⟨f, rfl⟩ : ∃ f', f = f' + 1 := ⟨f - 1, by omega⟩
    obtain ⟨g, rfl⟩ : ∃ f', g = f' + 1 := ⟨g - 1, by omega⟩
    have h' := h
    obtain ⟨hn, hF, a1, a4, hA, hc, -⟩ := h'
    refine ⟨F, M, ?_, ?_, h, fun _ _ => rfl, fun _ _ => rfl⟩
    · show fX1_drawLots_2_s (fX1_drawLots_2 f) _ _ _ = _
      unfold fX1_drawLots_2_s
      rw [hF, if_pos (nI_le (by omega) (by omega))]
    · show fX8_year_86_s (fX8_year_86 g) _ _ = fX8_year_86_s (fX8_year_86 0) (nI n) M
      unfold fX8_year_86_s
      rw [hc.1.1, hF, if_pos (nI_le (by omega) (by omega)), if_pos (nI_le (by omega) (by omega))]
  | succ r ih =>
    intro k f g F M hk hf hg h
    obtain ⟨f, rfl⟩ : ∃ f', f = f' + 1 := ⟨f - 1, by omega⟩
    obtain ⟨g, rfl⟩ : ∃ f', g = f' + 1 := ⟨g - 1, by omega⟩
    have h' := h
    obtain ⟨hn, hF, a1, a4, hA, hc, i1, i2, i3, i4⟩ := h'
    have E : fX1_drawLots_2 (f + 1) (S 4 5) (nI k) F = fX1_drawLots_2_s (fX1_drawLots_2 f) (S 4 5) (nI k) F := rfl
    have E8 : fX8_year_86 (g + 1) (nI k) M = fX8_year_86_s (fX8_year_86 g) (nI k) M := rfl
    rw [E, E8]
    unfold fX1_drawLots_2_s fX8_year_86_s
    rw [hF, hc.1.1, hF, if_neg (nI_ge (a := k) (b := n) (by omega) (by omega)), if_neg (nI_ge (a := k) (b := n) (by omega) (by omega)), isAl1 hn hF (by omega), isAl8 hc (by omega), b1s, b1s]
    by_cases q : bt (F 0 5) k = true
    · rw [if_pos q, i00, i00, lts, lts, nI_1]
      exact ih (k + 1) f g F M (by omega) (by omega) (by omega) h
    rw [if_neg q, i10, i10]
    have ez : M 1 3 = F 0 8 := hc.1.2.2.2
    rw [ez]
    obtain ⟨v, ev⟩ : ∃ v, v = F 0 8 * 1103515245 + 12345 := ⟨_, rfl⟩
    rw [← ev]
    obtain ⟨M15, e15⟩ : ∃ M15, M15 = sti M 1 3 v := ⟨_, rfl⟩
    have h6 : ctx (sti F 0 8 v) C (bur F S) M15 n a := ⟨hn, hF, a1, a4, hA, by rw [e15, sti_s]; exact core_z hc v, i1, i2, i3, i4⟩
    have h6' : ctx (sti F 0 8 v) C (bur (sti F 0 8 v) S) M15 n a := h6
    have o15 : (∀ b, b ≠ 1 → M15 b = M b) ∧ (∀ i, 74 ≤ i → M15 1 i = M 1 i) := ⟨fun b hb => by rw [e15, sti_o hb], fun i hi => by rw [e15, sti_s, upd_n (by omega)]⟩
    have c6 := h6.2.2.2.2.2.1
    obtain ⟨b, hb, eb⟩ := (i1.1 k (by omega)).2.1
    have ea : M15 1 (14 + 6 * k + 1) = nI b := ((c6.2.2.2.1 k (by omega)).2.1).trans eb
    have e9 : M15 1 9 = S 4 5 := (show M15 1 9 = bur F S 4 5 from c6.2.1 5 (by decide)).trans (by rw [burO F S (by decide) (by decide)])
    have e3 : M15 1 3 = v := by rw [e15, sti_s, upd_s]
    simp only [lts]
    rw [← e15, has0_1 (p := k) (by omega), b1s, ea, e9, e3, show (sti F 0 8 v) 0 8 = v from rfl, show (sti F 0 8 v) 0 5 = F 0 5 from rfl]
    simp only [cks _ (vp_in_nI (show k < 10 by omega) (show 10 < 2 ^ 31 by decide)), nI_1, nI_clamp (show k < 2 ^ 31 by omega)]
    rw [show (sti F 0 8 v) 3 k = nI b from eb]
    have go : ∃ F' M', fX1_drawLots_2 f (S 4 5) (nI (k + 1)) (sti F 0 8 v) = some F' ∧ fX8_year_86 g (nI (k + 1)) M15 = yE n M' ∧ ctx F' C (bur F' S) M' n a ∧ (∀ b, b ≠ 1 → M' b = M b) ∧ (∀ i, 74 ≤ i → M' 1 i = M 1 i) := by
      obtain ⟨F', M', z1, z2, z3, z4, z5⟩ := ih (k + 1) f g (sti F 0 8 v) M15 (by omega) (by omega) (by omega) h6'
      exact ⟨F', M', z1, z2, z3, fun b hb => (z4 b hb).trans (o15.1 b hb), fun i hi => (z5 i hi).trans (o15.2 i hi)⟩
    by_cases qa : nI b ≤ 40
    · rw [if_pos qa, if_pos ((age_le hb).mpr qa)]
      exact go
    rw [if_neg qa, if_neg (fun z => qa ((age_le hb).mp z))]
    by_cases qd : S 4 5 * (nI b - 40) ≤ dc_ushr v 8 - dc_ushr v 8 / 1000 * 1000
    · rw [if_pos qd, if_pos qd]
      exact go
    rw [if_neg qd, if_neg qd]
    obtain ⟨M', d1, d2, d3, d4⟩ := die_e (p := k) hl h6' (by omega) (d := F 0 5 ||| ((1 : Int32) <<< (nI k &&& 31))) (fun q hq => by rw [show (sti F 0 8 v) 0 5 = F 0 5 from rfl, b_or, oneBit (by omega) hq])
    rw [d1, b1s]
    obtain ⟨F2, M2, z1, z2, z3, z4, z5⟩ := ih (k + 1) f g _ M' (by omega) (by omega) (by omega) d2
    exact ⟨F2, M2, z1, z2, z3, fun b hb => (z4 b hb).trans ((d3 b hb).trans (o15.1 b hb)), fun i hi => (z5 i hi).trans ((d4 i hi).trans (o15.2 i hi))⟩
theorem al_bu {F : ST} {n : Nat} (hn : n ≤ 10) (hF : F 0 0 = nI n) {x : Int32} (h : x = -1 ∨ ∃ q : Nat, q < n ∧ x = nI q) : ∃ r, fX1_isAlive x F = some r ∧ ((r = 0 ∧ bu F x = -1) ∨ (¬ r = 0 ∧ bu F x = x)) := by
  rcases h with z | ⟨q, hq, z⟩
  · rw [z]; exact ⟨0, isAl1_m1, Or.inl ⟨rfl, bu_m F⟩⟩
  · rw [z, isAl1 hn hF hq, bu_q (by omega)]
    cases hb : bt (F 0 5) q
    · exact ⟨1, rfl, Or.inr ⟨by decide, rfl⟩⟩
    · exact ⟨0, rfl, Or.inl ⟨rfl, rfl⟩⟩
theorem bury_l {F S : ST} {n a : Nat} (hn : n ≤ 10) (hF : F 0 0 = nI n) (a4 : a ≤ 4) (hA : S 4 0 = nI a) (hl : lS S n) : ∀ (r k f : Nat) (Sk : ST), k + r = a → r < f → (∀ c, c ≠ 5 → Sk c = S c) → (∀ j, j < 4 → Sk 5 j = if j < k then bu F (S 5 j) else S 5 j) → ∃ S', fX4_bury_2 F f (nI k) Sk = some S' ∧ agS (bur F S) S' ∧ S' 0 8 = S 0 8 ∧ S' 0 9 = S 0 9 ∧ S' 4 = S 4 := by
  intro r
  induction r with
  | zero =>
    intro k f Sk hk hf h1 h2
    obtain ⟨f, rfl⟩ : ∃ f', f = f' + 1 := ⟨f - 1, by omega⟩
    have E : fX4_bury_2 F (f + 1) (nI k) Sk = fX4_bury_2_s F (fX4_bury_2 F f) (nI k) Sk := rfl
    rw [E]
    unfold fX4_bury_2_s
    obtain ⟨r, r1, r2⟩ := al_bu hn hF hl.2.2.2.1
    rw [h1 4 (by decide), hA, if_pos (nI_le (by omega) (by omega)), h1 0 (by decide), r1, b1s, lts]
    have h5 : ∀ j, j < 4 → Sk 5 j = bu F (S 5 j) := fun j hj => by
      rw [h2 j hj]
      by_cases q : j < k
      · rw [if_pos q]
      · rw [if_neg q, hl.2.1 j hj (by rw [hA]; exact nI_le (by omega) (by omega)), bu_m]
    rcases r2 with ⟨e, z⟩ | ⟨e, z⟩
    · rw [if_pos e]
      refine ⟨_, rfl, ⟨?_, ?_, fun j hj => ?_, fun j hj => ?_, fun j hj => ?_⟩, ?_, ?_, ?_⟩
      · rw [sti_s, upd_s, bur06, z]
      · rw [sti_s, upd_n (by decide), h1 0 (by decide), bur0 F S (by decide)]
      · rw [sti_o (by decide), h1 4 (by decide), burO F S (by decide) (by decide)]
      · rw [sti_o (by decide), h5 j hj, bur5]
      · rw [sti_o (by decide), h1 6 (by decide), burO F S (by decide) (by decide)]
      · rw [sti_s, upd_n (by decide), h1 0 (by decide)]
      · rw [sti_s, upd_n (by decide), h1 0 (by decide)]
      · rw [sti_o (by decide), h1 4 (by decide)]
    · rw [if_neg e]
      refine ⟨_, rfl, ⟨?_, ?_, fun j hj => ?_, fun j hj => ?_, fun j hj => ?_⟩, ?_, ?_, ?_⟩
      · rw [h1 0 (by decide), bur06, z]
      · rw [h1 0 (by decide), bur0 F S (by decide)]
      · rw [h1 4 (by decide), burO F S (by decide) (by decide)]
      · rw [h5 j hj, bur5]
      · rw [h1 6 (by decide), burO F S (by decide) (by decide)]
      · rw [h1 0 (by decide)]
      · rw [h1 0 (by decide)]
      · rw [h1 4 (by decide)]
  | succ r ih =>
    intro k f Sk hk hf h1 h2
    obtain ⟨f, rfl⟩ : ∃ f', f = f' + 1 := ⟨f - 1, by omega⟩
    have E : fX4_bury_2 F (f + 1) (nI k) Sk = fX4_bury_2_s F (fX4_bury_2 F f) (nI k) Sk := rfl
    rw [E]
    unfold fX4_bury_2_s
    obtain ⟨r, r1, r2⟩ := al_bu hn hF (hl.1 k (by omega))
    have ek : Sk 5 k = S 5 k := by rw [h2 k (by omega), if_neg (by omega)]
    rw [h1 4 (by decide), hA, if_neg (nI_ge (by omega) (by omega)), cks _ (vp_in_nI (by omega) (by decide)), nI_clamp (by omega), ek, r1, b1s, cks _ (vp_in_nI (by omega) (by decide)), lts, lts, lts, nI_1]
    have nxt : ∀ Sn : ST, (∀ c, c ≠ 5 → Sn c = S c) → Sn 5 k = bu F (S 5 k) → (∀ j, j < 4 → j ≠ k → Sn 5 j = Sk 5 j) → ∃ S', fX4_bury_2 F f (nI (k + 1)) Sn = some S' ∧ agS (bur F S) S' ∧ S' 0 8 = S 0 8 ∧ S' 0 9 = S 0 9 ∧ S' 4 = S 4 := fun Sn n1 n2 n3 => ih (k + 1) f Sn (by omega) (by omega) n1 (fun j hj => by
      by_cases q : j = k
      · rw [q, n2, if_pos (by omega)]
      · rw [n3 j hj q, h2 j hj]
        by_cases q2 : j < k
        · rw [if_pos q2, if_pos (by omega)]
        · rw [if_neg q2, if_neg (by omega)])
    rcases r2 with ⟨e, z⟩ | ⟨e, z⟩
    · rw [if_pos e]
      exact nxt _ (fun c hc => by rw [sti_o hc]; exact h1 c hc) (by rw [sti_s, upd_s, z]) (fun j _ hj => by rw [sti_s, upd_n hj])
    · rw [if_neg e]
      exact nxt _ h1 (by rw [ek, z]) (fun _ _ _ => rfl)
theorem yr {F C S M : ST} {n a : Nat} (h : ctx F C S M n a) (hl : lvl S M n) (Tr : ST) : ∃ (z : Int32) (F' C' S' Tr' M' : ST), fX4_year S F C Tr = some (z, S', F', C', Tr') ∧ fX8_year M = some (z, M') ∧ ctx F' C' S' M' n a ∧ frN2 C S M C' S' M' ∧ (z = 0 ∨ z = 1) := by
  obtain ⟨F1, M1, g1, g2, g3, g4, g5⟩ := grow_l n 0 400 400 F M (by omega) (by have := h.1; omega) (by have := h.1; omega) h
  have g1' : fX1_grow F = some F1 := g1
  have g2' : fX8_year M = fX8_year_2_s (fX8_year_2 0) (nI n) M1 := g2
  have g3' := g3
  obtain ⟨hn, hF, a1, a4, hA, hc, i1, i2, i3, i4⟩ := g3'
  -- the reign
  obtain ⟨S1, M2, s1, s2, s3, s4, s5, s6⟩ : ∃ S1 M2, fX4_year S F C Tr = fX4_year_25 S1 F1 C Tr ∧ fX8_year M = fX8_year_86 400 0 M2 ∧ ctx F1 C S1 M2 n a ∧ (S1 0 8 = S 0 8 ∧ S1 0 9 = S 0 9 ∧ S1 4 = S 4) ∧ (∀ b, b ≠ 1 → M2 b = M b) ∧ (∀ i, 74 ≤ i → M2 1 i = M 1 i) := by
    unfold fX4_year
    rw [g1', b1s, g2']
    unfold fX8_year_2_s
    rw [hc.1.1, hF, if_pos (nI_le (Nat.le_refl n) (by omega)), hc.1.2.1, hc.1.2.2.1, lts, lts, lts, Int32.add_zero]
    rcases i3.2.2.2.1 with z | ⟨s, hs, -, z⟩
    · rw [if_pos z, if_pos (show S 0 6 < 0 by rw [z]; exact m1_lt), sti_same hc.1.2.2.1]
      exact ⟨S, M1, rfl, rfl, g3, ⟨rfl, rfl, rfl⟩, g4, g5⟩
    · rw [if_neg (show ¬ S 0 6 = -1 by rw [z]; exact nI_m1 (by omega)), if_neg (show ¬ S 0 6 < 0 by rw [z]; exact nI_pos (by omega))]
      refine ⟨sti S 0 7 (S 0 7 + 1), sti M1 1 2 (S 0 7 + 1), rfl, rfl, ⟨hn, hF, a1, a4, hA, by rw [sti_s]; exact core_reign hc _, i1, i2, i3, i4⟩, ⟨rfl, rfl, rfl⟩, fun b hb => by rw [sti_o hb]; exact g4 b hb, fun i hi => by rw [sti_s, upd_n (by omega)]; exact g5 i hi⟩
  rw [s1, s2]
  have s3' := s3
  obtain ⟨-, -, -, -, hA1, hc1, j1, j2, j3, j4⟩ := s3'
  have hls := lS_of j3
  -- as it is, nobody who is dead is named or sits
  have ag0 : agS S1 (bur F1 S1) := by
    have al : ∀ x : Int32, (x = -1 ∨ ∃ q : Nat, q < n ∧ bt (F1 0 5) q = false ∧ x = nI q) → bu F1 x = x := fun x hx => by
      rcases hx with z | ⟨q, hq, hd, z⟩
      · rw [z, bu_m]
      · rw [z, bu_q (by omega), hd]; rfl
    exact ⟨by rw [bur06]; exact al _ j3.2.2.2.1, bur0 F1 S1 (by decide), fun j _ => by rw [burO F1 S1 (by decide) (by decide)], fun k hk => by rw [bur5]; exact al _ (j3.1 k hk), fun p _ => by rw [burO F1 S1 (by decide) (by decide)]⟩
  obtain ⟨F4, M3, d1, d2, d3, d4, d5⟩ := draw_l (C := C) (a := a) hls n 0 400 400 F1 M2 (by omega) (by omega) (by omega) (ctx_ag s3 ag0 rfl)
  have d1' : fX1_drawLots (S1 4 5) F1 = some F4 := d1
  have d2' : fX8_year_86 400 0 M2 = fX8_year_86_s (fX8_year_86 0) (nI n) M3 := d2
  have hF4 : F4 0 0 = nI n := d3.2.1
  obtain ⟨S6, b1, b2, b3, b4, b5⟩ := bury_l (F := F4) hn hF4 a4 hA1 hls a 0 400 S1 (by omega) (by omega) (fun _ _ => rfl) (fun j _ => by rw [if_neg (by omega)])
  have b1' : fX4_bury S1 F4 = some S6 := b1
  have hx6 : ctx F4 C S6 M3 n a := ctx_ag d3 b2 rfl
  have c6 := hx6.2.2.2.2.2.1
  have f6 : frN2 C S M C S6 M3 := ⟨fun _ _ => rfl, fun b h1 _ _ => (d4 b h1).trans (s5 b h1), fun i hi => (d5 i hi).trans (s6 i hi), b3.trans s4.1, b4.trans s4.2.1, b5.trans s4.2.2⟩
  have hl6 : lvl S6 M3 n := lvl_fr hl f6
  obtain ⟨r, C', S', Tr', M', e1, e2, e3, e4, e5, -⟩ := nxto hx6 hl6 Tr
  obtain ⟨z, z1, z2, z3⟩ : ∃ z, fX4_year_65 S6 F4 C Tr = some (z, S', F4, C', Tr') ∧ fX8_year_197 M3 = some (z, M') ∧ (z = 0 ∨ z = 1) := by
    unfold fX4_year_65 fX8_year_197
    rw [e1, e2, b4s, b2s]
    rcases e5 with q | ⟨s, hs, q⟩
    · rw [q, if_pos rfl, if_pos m1_lt]; exact ⟨0, rfl, rfl, Or.inl rfl⟩
    · rw [q, if_neg (nI_m1 (by omega)), if_neg (nI_pos (by omega))]; exact ⟨1, rfl, rfl, Or.inr rfl⟩
  unfold fX4_year_25
  rw [d1', b1s, b1', b1s, d2']
  unfold fX8_year_86_s
  rw [c6.1.1, hF4, if_pos (nI_le (Nat.le_refl n) (by omega)), c6.1.2.1, c6.1.2.2.1, show M3 1 5 = S6 4 1 from c6.2.1 1 (by decide), z1, z2]
  have all : ∃ (z : Int32) (F' C' S' Tr' M' : ST), some (z, S', F', C', Tr') = some (z, S', F', C', Tr') := ⟨0, F, C, S, Tr, M, rfl⟩
  have yes : ∃ (z_1 : Int32) (F' C'_1 S'_1 Tr'_1 M'_1 : ST), some (z, S', F4, C', Tr') = some (z_1, S'_1, F', C'_1, Tr'_1) ∧ some (z, M') = some (z_1, M'_1) ∧ ctx F' C'_1 S'_1 M'_1 n a ∧ frN2 C S M C'_1 S'_1 M'_1 ∧ (z_1 = 0 ∨ z_1 = 1) := ⟨z, F4, C', S', Tr', M', rfl, rfl, e3, frN2_t f6 e4, z3⟩
  rcases hx6.2.2.2.2.2.2.2.2.1.2.2.2.1 with q | ⟨s, hs, -, q⟩
  · rw [if_pos q, if_pos (show S6 0 6 < 0 by rw [q]; exact m1_lt)]
    exact yes
  · rw [if_neg (show ¬ S6 0 6 = -1 by rw [q]; exact nI_m1 (by omega)), if_neg (show ¬ S6 0 6 < 0 by rw [q]; exact nI_pos (by omega))]
    by_cases w : S6 4 1 ≤ S6 0 7
    · rw [if_pos w, if_neg (fun v => (fa_of_lt v).2.1 w)]
      exact yes
    · rw [if_neg w, if_pos (fa_of_nle w)]
      exact ⟨0, F4, C, S6, Tr, M3, rfl, rfl, hx6, f6, Or.inl rfl⟩
