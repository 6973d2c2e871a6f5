-- feed
theorem byte_e (x : Int32) {k : Nat} (hk : k < 4) : (dc_ushr x (8 * nI k)) &&& 255 = (x >>> ((8 * nI k) &&& 31)) &&& 255 := by
  have e : (8 : Int32) * nI k = nI (8 * k) := by rw [show (8 : Int32) = nI 8 from rfl, pk_mul]
  rw [e]
  apply b_ext
  intro i hi
  rw [b_and, b_and, b_255, b_sshr (8 * k) (by omega) x hi]
  show (bt ((x.toUInt32 >>> ((nI (8 * k)).toUInt32 &&& Int32.toUInt32 31)).toInt32) i && _) = _
  rw [b_ushr (8 * k) (by omega) x i]
  by_cases h : i < 8
  · rw [if_pos (by omega)]
  · rw [decide_eq_false h, Bool.and_false, Bool.and_false]
theorem byte_v (x s : Int32) : ∃ v : Nat, v < 256 ∧ (x >>> s) &&& 255 = nI v := by
  obtain ⟨j, hj, e⟩ := pk_andE (x >>> s) (m := 255) 8 (by decide)
  exact ⟨j, hj, e⟩
theorem nar_v {v : Nat} (hv : v < 256) : vp_nar .char (((nI v).toUInt32 % 65536).toInt32) = nI v := by
  rw [pk_vc, pk_char, pk_tn (by omega), Nat.mod_eq_of_lt (by omega)]
theorem put_e {T : ST} {n v : Nat} (hn : n < 80) (hT : T 0 2 = nI n) (hv : v < 256) : fX6_put (nI v) T = some (sti (sti T 1 n (nI v)) 0 2 (nI (n + 1))) := by
  unfold fX6_put
  rw [hT, if_neg (show ¬ (80 : Int32) ≤ nI n from nI_ge (b := 80) hn (by decide)), cks _ (vp_in_nI hn (by decide)), nI_clamp (by omega), nar_v hv, lts, lts]
  have e : (sti T 1 n (nI v)) 0 2 = nI n := hT
  rw [e, nI_1]
theorem feed_l (x : Int32) (Ma : ST) : ∀ (r f g n : Nat) (T M : ST), r ≤ 4 → r < f → r < g → n + r ≤ 80 → T 0 2 = nI n → rTape T (M 0 5) (M 5) → ∃ z T' M', fX7_feed_41 f x (nI r + (-1)) Ma T = some (z, Ma, T') ∧ fX8_feed_41 g x (nI r + (-1)) M = some (z, M') ∧ rTape T' (M' 0 5) (M' 5) ∧ (∀ a, a ≠ 0 → a ≠ 5 → M' a = M a) ∧ (∀ i, i ≠ 5 → M' 0 i = M 0 i) := by
  intro r
  induction r with
  | zero =>
    intro f g n T M hr hf hg hn hT ht
    obtain ⟨f, rfl⟩ : ∃ f', f = f' + 1 := ⟨f - 1, by omega⟩
    obtain ⟨g, rfl⟩ : ∃ f', g = f' + 1 := ⟨g - 1, by omega⟩
    refine ⟨T 0 2, T, M, ?_, ?_, ht, fun a _ _ => rfl, fun i _ => rfl⟩
    · show fX7_feed_41_s (fX7_feed_41 f) _ _ _ _ = _
      unfold fX7_feed_41_s
      rw [if_pos (show nI 0 + (-1) < 0 by decide)]
    · show fX8_feed_41_s (fX8_feed_41 g) _ _ _ = _
      unfold fX8_feed_41_s
      rw [if_pos (show nI 0 + (-1) < 0 by decide), ht.1]
  | succ r ih =>
    intro f g n T M hr hf hg hn hT ht
    obtain ⟨f, rfl⟩ : ∃ f', f = f' + 1 := ⟨f - 1, by omega⟩
    obtain ⟨g, rfl⟩ : ∃ f', g = f' + 1 := ⟨g - 1, by omega⟩
    obtain ⟨v, hv, ev⟩ := byte_v x ((8 * nI r) &&& 31)
    have hM : M 0 5 = nI n := ht.1.symm.trans hT
    have ht2 : rTape (sti (sti T 1 n (nI v)) 0 2 (nI (n + 1))) ((sti (sti M 5 n (nI v)) 0 5 (nI (n + 1))) 0 5) ((sti (sti M 5 n (nI v)) 0 5 (nI (n + 1))) 5) := by
      obtain ⟨-, n', hn', e', h⟩ := ht
      have en : n' = n := nI_inj (by omega) (by omega) (e'.symm.trans hM)
      subst en
      refine ⟨rfl, n' + 1, by omega, rfl, fun k hk => ?_⟩
      show upd (M 5) n' (nI v) k = upd (T 1) n' (nI v) k ∧ ∃ w : Nat, w < 256 ∧ upd (M 5) n' (nI v) k = nI w
      by_cases e : k = n'
      · subst e; rw [upd_s, upd_s]; exact ⟨rfl, v, hv, rfl⟩
      · rw [upd_n e, upd_n e]; exact h k (by omega)
    obtain ⟨z, T', M', h1, h2, h3, h4, h5⟩ := ih f g (n + 1) _ _ (by omega) (by omega) (by omega) (by omega) (show (sti (sti T 1 n (nI v)) 0 2 (nI (n + 1))) 0 2 = nI (n + 1) from rfl) ht2
    refine ⟨z, T', M', ?_, ?_, h3, fun a a0 a5 => ?_, fun i hi => ?_⟩
    · show fX7_feed_41_s (fX7_feed_41 f) _ _ _ _ = _
      unfold fX7_feed_41_s
      rw [pk_m1, if_neg (nI_pos (by omega)), byte_e x (by omega), ev, put_e (by omega) hT hv, b1s, lts]
      exact h1
    · show fX8_feed_41_s (fX8_feed_41 g) _ _ _ = _
      unfold fX8_feed_41_s
      rw [pk_m1, if_neg (nI_pos (by omega)), ev, hM, cks _ (vp_in_nI (by omega) (by decide)), nI_clamp (by omega), lts, lts, lts]
      have e : (sti M 5 n (nI v)) 0 5 = nI n := hM
      rw [e, nI_1]
      exact h2
    · rw [h4 a a0 a5]
      unfold sti va_up
      rw [if_neg a0, if_neg a5]
    · rw [h5 i hi]
      exact upd_n hi
theorem RR_tape {Ma Fo Sc Se Tr Ch Us Ta Dr G0 : ST} {N0 : LT} {G1 : ST} {N1 : LT} {G2 : ST} {N2 : LT} {G3 : ST} {N3 : LT} {Fo2 Sc2 Se2 Tr2 Fo3 Sc3 Se3 Tr3 M : ST} {N : LT} (hR : RR Ma Fo Sc Se Tr Ch Us Ta Dr G0 N0 G1 N1 G2 N2 G3 N3 Fo2 Sc2 Se2 Tr2 Fo3 Sc3 Se3 Tr3 M N) {T' M' : ST} (h3 : rTape T' (M' 0 5) (M' 5)) (h4 : ∀ a, a ≠ 0 → a ≠ 5 → M' a = M a) (h5 : ∀ i, i ≠ 5 → M' 0 i = M 0 i) : RR Ma Fo Sc Se Tr Ch Us T' Dr G0 N0 G1 N1 G2 N2 G3 N3 Fo2 Sc2 Se2 Tr2 Fo3 Sc3 Se3 Tr3 M' N := by
  unfold RR
  rw [h4 1 (by decide) (by decide), h4 2 (by decide) (by decide), h4 4 (by decide) (by decide), h4 7 (by decide) (by decide), h4 8 (by decide) (by decide), h5 9 (by decide), h5 10 (by decide), h5 12 (by decide), h5 2 (by decide)]
  obtain ⟨h, h2, h3', -, h6⟩ := hR
  exact ⟨h, h2, h3', h3, h6⟩
theorem P_feed_ok : P_feed RR := by
  intro x1 x2 Ma Fo Sc Se Tr Ch Us Ta Dr G0 N0 G1 N1 G2 N2 G3 N3 Fo2 Sc2 Se2 Tr2 Fo3 Sc3 Se3 Tr3 M N hR
  have j1 : fX8_isIn x2.toInt64 1 4 = some (if x2 < 1 ∨ 4 < x2 then 0 else 1) := isIn8_e x2 1 4 (by decide) (by decide)
  unfold fX7_feed fX8_feed
  rw [within_e, j1, fd7_0, fd8_0, fd7_1, fd8_1, b1s, b1s, b2s, b2s, b2s, b2s]
  by_cases c1 : x2 < 1 ∨ 4 < x2
  · exact ⟨-1000000001, fMa 0 Ma, Ta, fM 0 M, by rw [if_pos c1, if_pos rfl], by rw [if_pos c1, if_pos rfl], RR_f hR 0 (by decide)⟩
  obtain ⟨r, r1, r2, rfl⟩ := (rng_e 0 (by decide) (v := x2) c1).1 rfl
  rw [if_neg c1, i10, i10]
  have ht := hR.2.2.2.1
  obtain ⟨n, hn, en, -⟩ := ht.2
  have hT : Ta 0 2 = nI n := ht.1.trans en
  rw [en, hT, nI_add, lts, lts, show nI r - 1 = nI r + (-1) from Int32.sub_eq_add_neg ..]
  by_cases c2 : nI (n + r) ≤ (80 : Int32)
  · have c3 : n + r ≤ 80 := (nI_leI (b := 80) (by omega) (by decide)).mp c2
    obtain ⟨z, T', M', h1, h2, h3, h4, h5⟩ := feed_l x1 Ma r 400 400 n Ta M r2 (by omega) (by omega) c3 hT ht
    exact ⟨z, Ma, T', M', by rw [if_pos c2, h1], by rw [if_pos c2, h2], RR_tape hR h3 h4 h5⟩
  · exact ⟨-1000000002, fMa 1 Ma, Ta, fM 1 M, by rw [if_neg c2], by rw [if_neg c2], RR_f hR 1 (by decide)⟩
