-- text
theorem dpt_le (f : Nat → Int32) : ∀ k, dpt f k ≤ k := by
  intro k
  induction k with
  | zero => exact Nat.le_refl 0
  | succ k ih =>
    show (if opk (f k) = 0 then dpt f k + 1 else if opk (f k) = 1 then dpt f k else dpt f k - 1) ≤ k + 1
    by_cases q : opk (f k) = 0
    · rw [if_pos q]; omega
    · rw [if_neg q]
      by_cases q1 : opk (f k) = 1
      · rw [if_pos q1]; omega
      · rw [if_neg q1]; omega
theorem t301 {L : Nat} (hL : L ≤ 80) : ∀ (r k f : Nat) (M : ST), k + r = L → r < f → M 0 19 = nI L → ∃ M', fX8_text_301 f (nI k) M = some (1, M') ∧ (∀ i, M' 1 i = if 191 + k ≤ i ∧ i < 191 + L then M 19 (i - 191) else M 1 i) ∧ (∀ b, b ≠ 1 → M' b = M b) := by
  intro r
  induction r with
  | zero =>
    intro k f M hk hf h19
    obtain ⟨f, rfl⟩ : ∃ f', f = f' + 1 := ⟨f - 1, by omega⟩
    refine ⟨M, ?_, fun i => by rw [if_neg (by omega)], fun _ _ => rfl⟩
    show fX8_text_301_s (fX8_text_301 f) _ _ = _
    unfold fX8_text_301_s
    rw [h19, if_pos (nI_le (by omega) (by omega))]
  | succ r ih =>
    intro k f M hk hf h19
    obtain ⟨f, rfl⟩ : ∃ f', f = f' + 1 := ⟨f - 1, by omega⟩
    obtain ⟨M', z1, z2, z3⟩ := ih (k + 1) f (sti M 1 (191 + k) (M 19 k)) (by omega) (by omega) h19
    refine ⟨M', ?_, fun i => ?_, fun b hb => by rw [z3 b hb, sti_o hb]⟩
    · rw [← z1]
      show fX8_text_301_s (fX8_text_301 f) _ _ = _
      unfold fX8_text_301_s
      rw [h19, if_neg (nI_ge (by omega) (by omega)), show 191 + nI k = nI (191 + k) by rw [show (191 : Int32) = nI 191 from rfl, nI_add], cks _ (vp_in_nI (by omega) (by decide)), cks _ (vp_in_nI (by omega) (by decide)), nI_clamp (by omega), nI_clamp (by omega), lts, lts, nI_1]
    · rw [z2 i, sti_o (by decide), sti_s]
      by_cases q : i = 191 + k
      · rw [q, if_neg (by omega), upd_s, if_pos (by omega), show 191 + k - 191 = k by omega]
      · rw [upd_n q]
        by_cases q2 : 191 + (k + 1) ≤ i ∧ i < 191 + L
        · rw [if_pos q2, if_pos (by omega)]
        · rw [if_neg q2, if_neg (by omega)]
theorem core_text {F C S C' : ST} {m m' : Nat → Int32} (h : core F C S m) (h1 : ∀ i, i < 190 → m' i = m i) (h2 : m' 190 = C' 0 2) (h3 : ∀ k, k < 80 → nI k < C' 0 2 → m' (191 + k) = enS (C' 1 k)) : core F C' S m' := by
  obtain ⟨⟨a1, a2, a3, a4⟩, b, c, d, e, f, g, k⟩ := h
  refine ⟨⟨(h1 0 (by omega)).trans a1, (h1 1 (by omega)).trans a2, (h1 2 (by omega)).trans a3, (h1 3 (by omega)).trans a4⟩, fun i hi => (h1 _ (by omega)).trans (b i hi), fun i hi => (h1 _ (by omega)).trans (c i hi), fun i hi => ?_, fun i hi => (h1 _ (by omega)).trans (e i hi), fun i hi => (h1 _ (by omega)).trans (f i hi), h2, h3⟩
  obtain ⟨d0, d1, d2, d3, d4, d5⟩ := d i hi
  exact ⟨(h1 _ (by omega)).trans d0, (h1 _ (by omega)).trans d1, (h1 _ (by omega)).trans d2, (h1 _ (by omega)).trans d3, (h1 _ (by omega)).trans d4, (h1 _ (by omega)).trans d5⟩
theorem P_text_ok : P_text RR := by
  intro Ma Fo Sc Se Tr Ch Us Ta Dr G0 N0 G1 N1 G2 N2 G3 N3 Fo2 Sc2 Se2 Tr2 Fo3 Sc3 Se3 Tr3 M N hR
  have hR' := hR
  obtain ⟨⟨hc, hinv, k8, k9, w1, w2, fl⟩, hkept, hfind, htape, hsh⟩ := hR'
  obtain ⟨h02, n, hn, ht, hb⟩ := htape
  have hv : ∀ j, j < n → ∃ u : Nat, u < 256 ∧ M 5 j = nI u := fun j hj => (hb j hj).2
  obtain ⟨T2, eT2⟩ : ∃ T2, T2 = sti (sti Ta 0 3 0) 0 4 0 := ⟨_, rfl⟩
  obtain ⟨D3, eD3⟩ : ∃ D3, D3 = sti Dr 0 2 0 := ⟨_, rfl⟩
  obtain ⟨M8, eM8⟩ : ∃ M8, M8 = sti (sti (sti (sti (sti (sti M 0 5 0) 0 19 0) 0 21 0) 0 23 0) 0 24 0) 23 0 0 := ⟨_, rfl⟩
  have tp : tpc n (M 5) T2 0 0 := ⟨by rw [eT2]; exact h02.trans ht, by rw [eT2]; rfl, by rw [eT2]; rfl, fun j hj => by rw [eT2]; exact (hb j hj).1.symm⟩
  have m8 : ∀ b, b ≠ 0 → b ≠ 23 → M8 b = M b := fun b h0 h23 => by rw [eM8, sti_o h23, sti_o h0, sti_o h0, sti_o h0, sti_o h0, sti_o h0]
  have m80 : ∀ j, j < 16 → j ≠ 5 → M8 0 j = M 0 j := fun j hj h5 => by
    rw [eM8, sti_o (by decide), sti_s, upd_n (by omega), sti_s, upd_n (by omega), sti_s, upd_n (by omega), sti_s, upd_n (by omega), sti_s, upd_n (by omega)]
  have m805 : M8 0 5 = 0 := by rw [eM8]; rfl
  have st : st0 n (M 5) T2 D3 M8 0 0 0 0 0 := by
    refine ⟨tp, by omega, ⟨by rw [eD3]; rfl, fun j hj => by omega⟩, ⟨by rw [eM8]; rfl, by rw [eM8]; rfl, by rw [eM8]; rfl, by rw [eM8]; rfl⟩, fun j hj => by omega, m8 5 (by decide) (by decide), by omega, by omega, by omega, Or.inl (by rw [eM8]; rfl)⟩
  obtain ⟨T', Dr', r1, r2⟩ := st_0 hn hv T2 D3 M8 0 0 0 0 400 st (Or.inl rfl) (fun _ => by rw [eM8]; rfl) (by omega)
  have r1' : fX6_readT_0 0 T2 D3 = some (T', Dr') := r1
  have e8 : fX8_text M = fX8_text_41 400 (nI n) 0 (nI 0) M8 := by
    unfold fX8_text
    rw [lts, lts, lts, lts, lts, lts, cks _ (show vp_in 0 8 from vp_in_nI (n := 0) (by decide) (by decide)), show Int32.toNatClampNeg 0 = 0 from rfl, nar0, lts, ← eM8, ht]
    rfl
  -- whatever comes, when nothing but the tape and the draft has changed
  have same : ∀ (T4 D5 M9 : ST), mfr M8 M9 → RR Ma Fo Sc Se Tr Ch Us (sti T4 0 2 0) D5 G0 N0 G1 N1 G2 N2 G3 N3 Fo2 Sc2 Se2 Tr2 Fo3 Sc3 Se3 Tr3 M9 N := fun T4 D5 M9 hm => by
    have a : ∀ b, b = 1 ∨ b = 2 ∨ b = 4 ∨ b = 5 ∨ b = 7 ∨ b = 8 → M9 b = M b := fun b hb' => by rw [hm.1 b (by omega) (by omega) (by omega) (by omega), m8 b (by omega) (by omega)]
    have a0 : ∀ j, j < 16 → j ≠ 5 → M9 0 j = M 0 j := fun j hj h5 => by rw [hm.2 j (by omega) (by omega) (by omega) (by omega), m80 j hj h5]
    refine ⟨⟨by rw [a 1 (by decide)]; exact hc, hinv, k8, k9, (a0 9 (by decide) (by decide)).trans w1, (a0 10 (by decide) (by decide)).trans w2, (a0 12 (by decide) (by decide)).trans fl⟩, by rw [a0 2 (by decide) (by decide), a 2 (by decide)]; exact hkept, by rw [a 4 (by decide)]; exact hfind, ⟨?_, 0, by decide, ?_, fun k hk => by omega⟩, by rw [a 7 (by decide), a 8 (by decide)]; exact hsh⟩
    · rw [hm.2 5 (by decide) (by decide) (by decide) (by decide), m805]; rfl
    · rw [hm.2 5 (by decide) (by decide) (by decide) (by decide), m805]; rfl
  have fin0 : ∀ (i' : Nat) (M9 : ST), T' 0 3 = nI i' → fX6_parse Ta Dr = some (0, T', Dr') → fX8_text M = some (-1 - nI i', M9) → mfr M8 M9 → ∃ (r0 : Int32) (Scz Taz Drz Mz : ST), fX7_text Ma Sc Ta Dr = some (r0, Scz, Taz, Drz) ∧ fX8_text M = some (r0, Mz) ∧ RR Ma Fo Scz Se Tr Ch Us Taz Drz G0 N0 G1 N1 G2 N2 G3 N3 Fo2 Sc2 Se2 Tr2 Fo3 Sc3 Se3 Tr3 Mz N := fun i' M9 h3 hp h8 hm => by
    refine ⟨-1 - nI i', Sc, sti T' 0 2 0, Dr', M9, ?_, h8, same T' Dr' M9 hm⟩
    unfold fX7_text
    rw [hp, b3s, lts, i00, show (sti T' 0 2 0) 0 3 = nI i' from h3]
  have hparse : ∀ z : Int32, (if T' 0 4 = 0 then (if T' 0 3 = T' 0 2 then some (1, T', Dr') else some (0, T', Dr')) else some (0, T', Dr')) = some (z, T', Dr') → fX6_parse Ta Dr = some (z, T', Dr') := fun z hz => by
    unfold fX6_parse
    rw [lts, lts, lts, ← eT2, ← eD3, r1', b2s]
    exact hz
  rcases r2 with ⟨i', M', q1, q2, q3, q4, q5⟩ | ⟨i', d', e', w', f', M', oc, r3, r4⟩
  · exact fin0 i' M' q1.2.1 (hparse 0 (by rw [q1.2.2.1, if_neg (by decide)])) (e8.trans q4) q5
  obtain ⟨o1, o2, o3, o4, o5, o6, o7, o8, o9, o10, o11, o12, o13, o14, o15, o16, o17, o18, o19⟩ := oc
  obtain ⟨f', rfl⟩ : ∃ f'', f' = f'' + 1 := ⟨f' - 1, by omega⟩
  have m5 : M' 5 = M 5 := by rw [o18.1 5 (by decide) (by decide) (by decide) (by decide), m8 5 (by decide) (by decide)]
  by_cases hi : i' < n
  · refine fin0 i' M' o1.2.1 (hparse 0 ?_) (e8.trans (r4.trans (stop hn hi m5 o8 (by omega) (fun _ => rfl) (o19 hi)))) o18
    rw [o1.2.2.1, if_pos rfl, o1.1, o1.2.1, if_neg (fun e => by have := nI_inj (by omega) (by omega) e; omega)]
  · have ei : i' = n := by omega
    subst ei
    have hp := hparse 1 (by rw [o1.2.2.1, if_pos rfl, o1.1, o1.2.1, if_pos rfl])
    obtain ⟨Sc7, s1, s2, -⟩ := takeC Sc Dr'
    obtain ⟨p19, p21, p23, p24⟩ := o8
    have hd80 : d' ≤ 80 := by omega
    obtain ⟨M12, b1, b2, b3, b4, b5, b6, b7⟩ := doneBy_l (b := 1) (w := 0) (by omega) w' e' 400 M' p19 (by rw [p21]; congr 1; omega) (by omega) (by omega) (fun t ht' => by
      have := o12 t (by omega)
      rw [show 0 + w' - 1 - t = w' - 1 - t by omega]
      exact ⟨this.1, this.2.1⟩) (Or.inl rfl)
    have b1' : fX8_doneBy 1 M' = some M12 := b1
    have ed : e' + w' = d' := by omega
    rw [ed] at b2
    obtain ⟨M14, e14⟩ : ∃ M14, M14 = sti M12 1 190 (nI d') := ⟨_, rfl⟩
    obtain ⟨Mf, f1, f2, f3⟩ := t301 hd80 d' 0 400 M14 (by omega) (by omega) (by rw [e14]; exact b2)
    have f1' : fX8_text_301 400 0 M14 = some (1, Mf) := f1
    have steps : ∀ j, j < d' → M12 19 j = enS (Dr' 1 j) := fun j hj => by
      by_cases q : j < e'
      · rw [b4 j q]; exact o11 j q
      · have := b5 (j - e') (by omega)
        rw [show e' + (j - e') = j by omega, show 0 + w' - 1 - (j - e') = w' - 1 - (j - e') by omega] at this
        rw [this, ← (o12 (j - e') (by omega)).2.2, show e' + (j - e') = j by omega]
    have h8 : fX8_text M = some (1, Mf) := by
      rw [e8, r4]
      show fX8_text_41_s (fX8_text_41 f') _ _ _ _ = _
      unfold fX8_text_41_s
      rw [if_pos (nI_le (Nat.le_refl i') (by omega)), i10, p23, if_pos (by decide), b1', b1s, lts, b2, ← e14, f1']
    have g1 : ∀ i, Mf 1 i = if 191 ≤ i ∧ i < 191 + d' then M12 19 (i - 191) else if i = 190 then nI d' else M 1 i := fun i => by
      rw [f2 i, e14, sti_o (by decide), sti_s]
      by_cases q : 191 + 0 ≤ i ∧ i < 191 + d'
      · rw [if_pos q, if_pos (by omega)]
      · rw [if_neg q, if_neg (by omega)]
        by_cases q2 : i = 190
        · rw [q2, upd_s, if_pos rfl]
        · rw [upd_n q2, if_neg q2, b6 1 (by decide) (by decide), o18.1 1 (by decide) (by decide) (by decide) (by decide), m8 1 (by decide) (by decide)]
    have a : ∀ b, b = 2 ∨ b = 4 ∨ b = 5 ∨ b = 7 ∨ b = 8 → Mf b = M b := fun b hb' => by
      rw [f3 b (by omega), e14, sti_o (by omega), b6 b (by omega) (by omega), o18.1 b (by omega) (by omega) (by omega) (by omega), m8 b (by omega) (by omega)]
    have a0' : ∀ j, j < 16 → Mf 0 j = M8 0 j := fun j hj => by
      rw [f3 0 (by decide), e14, sti_o (by decide), b7 j (by omega) (by omega), o18.2 j (by omega) (by omega) (by omega) (by omega)]
    have a0 : ∀ j, j < 16 → j ≠ 5 → Mf 0 j = M 0 j := fun j hj h5 => (a0' j hj).trans (m80 j hj h5)
    refine ⟨1, Sc7, sti T' 0 2 0, Dr', Mf, ?_, h8, ⟨⟨?_, ?_, k8, k9, (a0 9 (by decide) (by decide)).trans w1, (a0 10 (by decide) (by decide)).trans w2, (a0 12 (by decide) (by decide)).trans fl⟩, by rw [a0 2 (by decide) (by decide), a 2 (by decide)]; exact hkept, by rw [a 4 (by decide)]; exact hfind, ⟨?_, 0, by decide, ?_, fun k hk => by omega⟩, by rw [a 7 (by decide), a 8 (by decide)]; exact hsh⟩⟩
    · unfold fX7_text
      rw [hp, b3s, lts, i10, s1, b1s]
    · refine core_text hc (fun i hi' => by rw [g1, if_neg (by omega), if_neg (by omega)]) (by rw [g1, if_neg (by omega), if_pos rfl, s2.1, o4.1]) (fun k hk hk2 => ?_)
      rw [s2.1, o4.1] at hk2
      have hkd := (nI_ltI (by omega) (by omega)).mp hk2
      rw [g1, if_pos (by omega), show 191 + k - 191 = k by omega, steps k hkd, s2.2 k hk]
    · obtain ⟨n', hn', hF', j1, j2, j3, j4⟩ := hinv
      refine ⟨n', hn', hF', j1, j2, j3, d', hd80, s2.1.trans o4.1, ?_⟩
      refine okT_cong (f := Dr' 1) (fun i hi' => (s2.2 i (by omega)).symm) ⟨fun k hk => ⟨(o4.2 k hk).1, (o4.2 k hk).2, ?_⟩, fun _ => o7⟩
      have := dpt_le (Dr' 1) k
      omega
    · rw [a0' 5 (by decide), m805]; rfl
    · rw [a0' 5 (by decide), m805]; rfl
