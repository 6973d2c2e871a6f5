-- THE TEXT: a Q
def isNm (c : Int32) : Prop := c = 108 ∨ c = 97 ∨ c = 115 ∨ c = 119 ∨ c = 114 ∨ c = 110
theorem nm_ref {c : Int32} (h : isNm c) : ∃ r, fX8_nameOf c = some r ∧ ¬ r < 0 ∧ enS (-1 - c) = -10 - r ∧ okc (-1 - c) ∧ opk (-1 - c) = 0 := by
  rcases h with e | e | e | e | e | e
  · subst e; exact ⟨0, by decide +kernel, by decide, by decide +kernel, Or.inr (by decide +kernel), by decide +kernel⟩
  · subst e; exact ⟨1, by decide +kernel, by decide, by decide +kernel, Or.inr (by decide +kernel), by decide +kernel⟩
  · subst e; exact ⟨2, by decide +kernel, by decide, by decide +kernel, Or.inr (by decide +kernel), by decide +kernel⟩
  · subst e; exact ⟨3, by decide +kernel, by decide, by decide +kernel, Or.inr (by decide +kernel), by decide +kernel⟩
  · subst e; exact ⟨4, by decide +kernel, by decide, by decide +kernel, Or.inr (by decide +kernel), by decide +kernel⟩
  · subst e; exact ⟨5, by decide +kernel, by decide, by decide +kernel, Or.inr (by decide +kernel), by decide +kernel⟩
theorem nm_not {c : Int32} (h : ¬ isNm c) : fX8_nameOf c = some (-1) := by
  unfold fX8_nameOf
  rw [if_neg (fun e => h (Or.inl e)), if_neg (fun e => h (Or.inr (Or.inl e))), if_neg (fun e => h (Or.inr (Or.inr (Or.inl e)))), if_neg (fun e => h (Or.inr (Or.inr (Or.inr (Or.inl e))))), if_neg (fun e => h (Or.inr (Or.inr (Or.inr (Or.inr (Or.inl e)))))), if_neg (fun e => h (Or.inr (Or.inr (Or.inr (Or.inr (Or.inr e))))))]
def isDg (c : Int32) : Prop := ¬ (c < 48 ∨ 57 < c)
theorem numL {n : Nat} {v : Nat → Int32} (hn : n ≤ 80) (hv : ∀ j, j < n → ∃ u : Nat, u < 256 ∧ v j = nI u) (k41 : Int32 → Int32 → Int32 → ST → Option (Int32 × ST)) {Dr M : ST} (h5 : M 5 = v) : ∀ (r c i f g val : Nat) (T : ST), c + r = 4 → r < f → r < g → tpc n v T i 0 → i ≤ n → val < 10 ^ c → ∃ i' val' T', fX6_readNumber_4 f (nI val) (nI c) T Dr = fX6_readNumber_50 (nI val') T' Dr ∧ fX8_text_111 k41 g (nI n) (nI i) (nI val) (nI c) M = fX8_text_167 k41 (nI n) (nI i') (nI val') M ∧ tpc n v T' i' 0 ∧ i ≤ i' ∧ i' ≤ n ∧ val' ≤ 9999 ∧ (c = 0 → i < n → isDg (v i) → i < i') := by
  intro r
  induction r with
  | zero =>
    intro c i f g val T hc hf hg h hi hval
    obtain ⟨f, rfl⟩ : ∃ f', f = f' + 1 := ⟨f - 1, by omega⟩
    obtain ⟨g, rfl⟩ : ∃ f', g = f' + 1 := ⟨g - 1, by omega⟩
    have ec : c = 4 := by omega
    subst ec
    refine ⟨i, val, T, ?_, ?_, h, Nat.le_refl i, hi, by have : (10 : Nat) ^ 4 = 10000 := by decide
                                                        omega, fun z => by omega⟩
    · show fX6_readNumber_4_s (fX6_readNumber_4 f) _ _ _ _ = _
      unfold fX6_readNumber_4_s
      rw [if_pos (by decide)]
    · show fX8_text_111_s k41 (fX8_text_111 k41 g) _ _ _ _ _ = _
      unfold fX8_text_111_s
      rw [if_pos (by decide)]
  | succ r ih =>
    intro c i f g val T hc hf hg h hi hval
    obtain ⟨f, rfl⟩ : ∃ f', f = f' + 1 := ⟨f - 1, by omega⟩
    obtain ⟨g, rfl⟩ : ∃ f', g = f' + 1 := ⟨g - 1, by omega⟩
    have n4 : ¬ (4 : Int32) ≤ nI c := nI_ge (b := 4) (by omega) (by decide)
    have hv9 : val ≤ 9999 := by
      have h1 : 10 ^ c ≤ 10 ^ 4 := Nat.pow_le_pow_right (by decide) (by omega)
      have h2 : (10 : Nat) ^ 4 = 10000 := by decide
      omega
    have E : fX6_readNumber_4 (f + 1) (nI val) (nI c) T Dr = fX6_readNumber_4_s (fX6_readNumber_4 f) (nI val) (nI c) T Dr := rfl
    have E8 : fX8_text_111 k41 (g + 1) (nI n) (nI i) (nI val) (nI c) M = fX8_text_111_s k41 (fX8_text_111 k41 g) (nI n) (nI i) (nI val) (nI c) M := rfl
    rw [E, E8]
    unfold fX6_readNumber_4_s fX8_text_111_s
    rw [if_neg n4, if_neg n4, dig_e hn hi h, b1s]
    by_cases q : i < n
    · obtain ⟨u, hu, eu⟩ := hv i q
      rw [if_neg (nI_ge (a := i) (b := n) q (by omega)), cks _ (vp_in_nI (show i < 80 by omega) (by decide)), nI_clamp (show i < 2 ^ 31 by omega), h5, isIn8_e (v i) 48 57 (by decide) (by decide), b1s]
      by_cases dg : v i < 48 ∨ 57 < v i
      · rw [if_pos dg, i00, if_neg (show ¬ (i < n ∧ ¬ (v i < 48 ∨ 57 < v i)) from fun z => z.2 dg), i00]
        exact ⟨i, val, T, rfl, rfl, h, Nat.le_refl i, hi, hv9, fun _ _ z => absurd dg z⟩
      · rw [if_neg dg, i10, if_pos (show i < n ∧ ¬ (v i < 48 ∨ 57 < v i) from ⟨q, dg⟩), i10, h.2.1, cks _ (vp_in_nI (show i < 80 by omega) (by decide)), cks _ (vp_in_nI (show i < 80 by omega) (by decide)), nI_clamp (show i < 2 ^ 31 by omega), h.2.2.2 i q]
        simp only [lts]
        rw [nI_1, nI_1, eu]
        rw [eu] at dg
        have u1 : 48 ≤ u := by
          rcases Nat.lt_or_ge u 48 with z | z
          · exact absurd (Or.inl (show nI u < 48 from nI_lt (b := 48) z (by decide))) dg
          · exact z
        have u2 : u ≤ 57 := by
          rcases Nat.lt_or_ge 57 u with z | z
          · exact absurd (Or.inr (show (57 : Int32) < nI u from nI_lt (a := 57) z (by omega))) dg
          · exact z
        have e1 : nI val * 10 + (nI u - 48) = nI (val * 10 + (u - 48)) := by rw [show (10 : Int32) = nI 10 from rfl, pk_mul, show nI u - 48 = nI (u - 48) from pk_sub (a := u) (b := 48) u1, nI_add]
        have e2 : 10 * nI val + nI u - 48 = nI (val * 10 + (u - 48)) := by rw [show (10 : Int32) = nI 10 from rfl, pk_mul, nI_add, show nI (10 * val + u) - 48 = nI (10 * val + u - 48) from pk_sub (a := 10 * val + u) (b := 48) (by omega), show 10 * val + u - 48 = val * 10 + (u - 48) by omega]
        rw [e1, e2]
        obtain ⟨i', val', T', z1, z2, z3, z4, z5, z6, -⟩ := ih (c + 1) (i + 1) f g (val * 10 + (u - 48)) (sti T 0 3 (nI (i + 1))) (by omega) (by omega) (by omega) (tpc_at h (i + 1)) (by omega) (by rw [Nat.pow_succ]; omega)
        exact ⟨i', val', T', z1, z2, z3, by omega, z5, z6, fun _ _ _ => by omega⟩
    · rw [if_neg (show ¬ (i < n ∧ ¬ (v i < 48 ∨ 57 < v i)) from fun z => q z.1), i00, if_pos (nI_le (a := n) (b := i) (by omega) (by omega))]
      exact ⟨i, val, T, rfl, rfl, h, Nat.le_refl i, hi, hv9, fun _ z => absurd z q⟩
/-- something whole stands, and no sign that goes on -/
theorem stop {n : Nat} {v : Nat → Int32} {M : ST} {i e w lv k f : Nat} (hn : n ≤ 80) (hi : i < n) (h5 : M 5 = v) (hc : mfc M e w lv k) (hlv : lv ≤ 6) (h41 : v i = 41 → lv = 0) (hx : ¬ cns 1 (v i) (M 23 lv)) : fX8_text_41 (f + 1) (nI n) 1 (nI i) M = some (-1 - nI i, M) := by
  have hs : fX8_isSignRead (v i) M = some (0, M) := by
    unfold fX8_isSignRead
    rw [binds_e, b1s, hc.2.2.1]
    by_cases q : v i = 41
    · rw [if_pos q, h41 q, if_pos (show nI 0 = 0 from rfl)]
    · rw [if_neg q]
      by_cases q0 : bs (v i) = 0
      · rw [q0, if_pos (show nI 0 = 0 from rfl)]
      · have q3 : bs (v i) = 3 ∧ M 23 lv ≠ 0 := by
          by_cases z : bs (v i) = 3 ∧ M 23 lv ≠ 0
          · exact z
          · exact absurd ⟨q0, by omega, z⟩ hx
        rw [q3.1, if_neg (show ¬ nI 3 = 0 by decide), if_pos (show nI 3 = 3 from rfl), cks _ (vp_in_nI (show lv < 8 by omega) (by decide)), nI_clamp (by omega), if_neg q3.2]
  show fX8_text_41_s (fX8_text_41 f) _ _ _ _ = _
  unfold fX8_text_41_s
  rw [if_neg (nI_ge hi (by omega)), cks _ (vp_in_nI (show i < 80 by omega) (by decide)), nI_clamp (by omega), h5, lts, i10, hs, b2s, i00]
/-- ahead of an operand: the end -/
theorem tx_e0 {n f : Nat} {M : ST} : fX8_text_41 (f + 1) (nI n) 0 (nI n) M = some (-1 - nI n, M) := by
  show fX8_text_41_s (fX8_text_41 f) _ _ _ _ = _
  unfold fX8_text_41_s
  rw [if_pos (by rw [fa_le]; exact Int.le_refl _), i00]
theorem tx_0 {n i f : Nat} {v : Nat → Int32} {M : ST} (hn : n ≤ 80) (hi : i < n) (h5 : M 5 = v) : fX8_text_41 (f + 1) (nI n) 0 (nI i) M = (if v i < 48 ∨ 57 < v i then dc_b1 (fX8_nameOf (v i)) (fun r26 => (if r26 < 0 then (if v i = 33 then fX8_text_240 (fX8_text_41 f) (nI n) 0 (nI i) (v i) 1 M else (if v i = 45 then fX8_text_240 (fX8_text_41 f) (nI n) 0 (nI i) (v i) 1 M else (if v i = 40 then fX8_text_240 (fX8_text_41 f) (nI n) 0 (nI i) (v i) 1 M else fX8_text_240 (fX8_text_41 f) (nI n) 0 (nI i) (v i) 0 M))) else dc_b1 (fX8_nameOf (v i)) (fun r38 => dc_b1 (fX8_puts ((-10) - r38) M) (fun M_40 => dc_b1 (fX8_doneAhead M_40) (fun M_42 => dc_lt (nI i + 1) (fun v44 => fX8_text_41 f (nI n) 1 v44 M_42)))))) else fX8_text_111 (fX8_text_41 f) 400 (nI n) (nI i) 0 0 M) := by
  show fX8_text_41_s (fX8_text_41 f) _ _ _ _ = _
  unfold fX8_text_41_s
  rw [if_neg (nI_ge hi (by omega)), cks _ (vp_in_nI (show i < 80 by omega) (by decide)), nI_clamp (by omega), h5, lts, i00, isIn8_e (v i) 48 57 (by decide) (by decide), b1s]
  by_cases q : v i < 48 ∨ 57 < v i
  · rw [if_pos q, i00, if_pos q]
  · rw [if_neg q, i10, if_neg q]
/-- an operand: a NUMBER or a NAME -/
theorem SQ_op {n : Nat} {v : Nat → Int32} {k : Nat} (hn : n ≤ 80) {T Dr M T' : ST} {i d w m lv f i' : Nat} {c x : Int32} (h0 : st0 n v T Dr M i d w lv k) (hm : m ≤ w) (hmk : m ≤ k) (hp : ∀ t, t < m → M 21 (w - 1 - t) = -20 ∨ M 21 (w - 1 - t) = -21) (ht : m < w → M 21 (w - 1 - m) ≠ -20 ∧ M 21 (w - 1 - m) ≠ -21) (hin : i < n) (hT' : tpc n v T' i' 0) (hi : i < i') (hi' : i' ≤ n) (hc : okc c) (ho : opk c = 0) (hx : enS c = x) (hf : n - i' < f) : ∃ M1 M', fX8_puts x M = some M1 ∧ fX8_doneAhead M1 = some M' ∧ fX3_putNumber c Dr = some (pD Dr d c) ∧ (∃ (i'_1 d' f' : Nat) (M'_1 : ST), tpc n v T' i'_1 0 ∧ i < i'_1 ∧ i'_1 ≤ n ∧ dfc (pD Dr d c) d' ∧ d < d' ∧ (∀ j, j < d → pD Dr d c 1 j = Dr 1 j) ∧ dpt (pD Dr d c 1) d' = dpt (Dr 1) d + 1 ∧ mfc M'_1 (d' + m) (w - m) lv (k - m) ∧ (∀ j, j < d' → M'_1 19 j = enS (pD Dr d c 1 j)) ∧ (∀ t, t < m → M'_1 19 (d' + t) = M 21 (w - 1 - t)) ∧ (∀ j, j < w - m → M'_1 21 j = M 21 j) ∧ (∀ j, j ≤ lv → M'_1 23 j = M 23 j) ∧ d' + w ≤ i'_1 ∧ mfr M M'_1 ∧ n - i'_1 < f' ∧ fX8_text_41 f (nI n) 1 (nI i') M' = fX8_text_41 f' (nI n) 1 (nI i'_1) M'_1) := by
  obtain ⟨t1, t2, t3, t4, t5, t6, t7, t8, t9, t10⟩ := h0
  obtain ⟨M1, M', z1, z2, z3, z4, z5, z6, z7, z8, z9⟩ := opnd t4 hm hmk (by omega) hp ht x
  refine ⟨M1, M', z1, z2, num_e t3.1 (by omega) c, i', d + 1, f, M', hT', hi, hi', dfc_p t3 hc (by rw [ho]; omega), by omega, fun j hj => by rw [pD_1, upd_n (by omega)], by rw [dpt_s, ho, if_pos rfl], z3, fun j hj => ?_, z6, fun j _ => by rw [z7], fun j _ => by rw [z8], by omega, z9, hf, rfl⟩
  rw [pD_1]
  by_cases q : j = d
  · rw [q, upd_s, z5, hx]
  · rw [upd_n q, z4 j (by omega)]; exact t5 j (by omega)
theorem SQ_gen {n : Nat} {v : Nat → Int32} {k : Nat} (hn : n ≤ 80) (hv : ∀ j, j < n → ∃ u : Nat, u < 256 ∧ v j = nI u) {rq rq' rt' : ST → ST → Option (ST × ST)} (hq : k < 5 → SQ n v (k + 1) rq') (hT : k < 5 → SX n v (k + 1) 1 rt')
    (hDig : ∀ T Dr i, tpc n v T i 0 → i < n → isDg (v i) → rq T Dr = dc_b2 (fX6_readNumber T Dr) (fun a b => some (a, b)))
    (hNam : ∀ T Dr i, tpc n v T i 0 → i < n → ¬ isDg (v i) → isNm (v i) → rq T Dr = dc_b1 (fX3_putSign (v i) Dr) (fun D => some (sti T 0 3 (nI (i + 1)), D)))
    (hBad : ∀ T Dr i, tpc n v T i 0 → i ≤ n → (i < n → ¬ isDg (v i) ∧ ¬ isNm (v i) ∧ (k = 5 ∨ ¬ (v i = 33 ∨ v i = 45 ∨ v i = 40))) → rq T Dr = some (sti T 0 4 1, Dr))
    (hNot : ∀ T Dr i, tpc n v T i 0 → i < n → k < 5 → v i = 33 → rq T Dr = dc_b2 (rq' (sti T 0 3 (nI (i + 1))) Dr) (fun a b => dc_b1 (fX3_putSign 33 b) (fun c => some (a, c))))
    (hNeg : ∀ T Dr i, tpc n v T i 0 → i < n → k < 5 → v i = 45 → rq T Dr = dc_b2 (rq' (sti T 0 3 (nI (i + 1))) Dr) (fun a b => dc_b1 (fX3_putSign 126 b) (fun c => some (a, c))))
    (hPar : ∀ T Dr i, tpc n v T i 0 → i < n → k < 5 → v i = 40 → rq T Dr = dc_b2 (rt' (sti T 0 3 (nI (i + 1))) Dr) (fun a b => dc_b2 (fX6_takes 41 a) (fun r a2 => (if r = 0 then dc_lt (sti a2 0 4 1) (fun a3 => some (a3, b)) else some (a2, b))))) : SQ n v k rq := by
  intro T Dr M i d w m lv f h0 hm hmk hp ht hf
  have h0' := h0
  obtain ⟨t1, t2, t3, t4, t5, t6, t7, t8, t9, t10⟩ := h0'
  obtain ⟨f, rfl⟩ : ∃ f', f = f' + 1 := ⟨f - 1, by omega⟩
  -- a FAULT here
  have bad : (i < n → ¬ isDg (v i) ∧ ¬ isNm (v i) ∧ (k = 5 ∨ ¬ (v i = 33 ∨ v i = 45 ∨ v i = 40))) → fX8_text_41 (f + 1) (nI n) 0 (nI i) M = some (-1 - nI i, M) → ∃ T' Dr', rq T Dr = some (T', Dr') ∧ (FT n v T' Dr' M (fX8_text_41 (f + 1) (nI n) 0 (nI i) M) ∨ ∃ i' d' f' M', tpc n v T' i' 0 ∧ i < i' ∧ i' ≤ n ∧ dfc Dr' d' ∧ d < d' ∧ (∀ j, j < d → Dr' 1 j = Dr 1 j) ∧ dpt (Dr' 1) d' = dpt (Dr 1) d + 1 ∧ mfc M' (d' + m) (w - m) lv (k - m) ∧ (∀ j, j < d' → M' 19 j = enS (Dr' 1 j)) ∧ (∀ t, t < m → M' 19 (d' + t) = M 21 (w - 1 - t)) ∧ (∀ j, j < w - m → M' 21 j = M 21 j) ∧ (∀ j, j ≤ lv → M' 23 j = M 23 j) ∧ d' + w ≤ i' ∧ mfr M M' ∧ n - i' < f' ∧ fX8_text_41 (f + 1) (nI n) 0 (nI i) M = fX8_text_41 f' (nI n) 1 (nI i') M') := fun hb he =>
    ⟨_, _, hBad T Dr i t1 t2 hb, Or.inl ⟨i, M, tpc_ft t1, t2, dfc_dl t3 (by omega), he, mfr_r M⟩⟩
  by_cases hin : i < n
  rotate_left
  · have ei : i = n := by omega
    subst ei
    exact bad (fun z => absurd z hin) tx_e0
  have R0 := tx_0 (f := f) hn hin t6
  by_cases dg : isDg (v i)
  · -- a NUMBER
    obtain ⟨i', val, T', z1, z2, z3, z4, z5, z6, z7⟩ := numL (Dr := Dr) hn hv (fX8_text_41 f) t6 4 0 i 400 400 0 T (by omega) (by omega) (by omega) t1 t2 (by decide)
    have hii := z7 rfl hin dg
    have z1' : fX6_readNumber T Dr = fX6_readNumber_50 (nI val) T' Dr := z1
    have z2' : fX8_text_111 (fX8_text_41 f) 400 (nI n) (nI i) 0 0 M = fX8_text_167 (fX8_text_41 f) (nI n) (nI i') (nI val) M := z2
    have hge : (0 : Int32) ≤ nI val := nI_pos' (by omega)
    obtain ⟨M1, M', y1, y2, y3, y4⟩ := SQ_op (f := f) (c := nI val) (x := nI val) hn h0 hm hmk hp ht hin z3 hii z5 (Or.inl ⟨val, z6, rfl⟩) (by unfold opk; rw [if_pos hge]) (by unfold enS; rw [if_pos hge]) (by omega)
    rw [hDig T Dr i t1 hin dg, z1', R0, if_neg dg, z2']
    unfold fX6_readNumber_50 fX8_text_167
    rw [y3, b1s, b2s, y1, b1s, y2, b1s]
    exact ⟨_, _, rfl, Or.inr y4⟩
  have dg' : v i < 48 ∨ 57 < v i := Classical.not_not.mp dg
  rw [if_pos dg'] at R0
  by_cases nm : isNm (v i)
  · -- a NAME
    obtain ⟨r, r1, r2, r3, r4, r5⟩ := nm_ref nm
    obtain ⟨M1, M', y1, y2, y3, y4⟩ := SQ_op (f := f) (c := -1 - v i) (x := -10 - r) hn h0 hm hmk hp ht hin (tpc_at t1 (i + 1)) (by omega) (by omega) r4 r5 r3 (by omega)
    rw [hNam T Dr i t1 hin dg nm, R0, r1, b1s, if_neg r2, b1s, y1, b1s, y2, b1s, lts, nI_1]
    unfold fX3_putSign
    rw [y3, b1s, b1s]
    exact ⟨_, _, rfl, Or.inr y4⟩
  rw [nm_not nm, b1s, if_pos m1_lt] at R0
  by_cases op : v i = 33 ∨ v i = 45 ∨ v i = 40
  rotate_left
  · refine bad (fun _ => ⟨dg, nm, Or.inr op⟩) ?_
    rw [R0, if_neg (fun e => op (Or.inl e)), if_neg (fun e => op (Or.inr (Or.inl e))), if_neg (fun e => op (Or.inr (Or.inr e)))]
    unfold fX8_text_240
    rw [i00]
  have R1 : fX8_text_41 (f + 1) (nI n) 0 (nI i) M = dc_b2 (fX8_isOpenRead (v i) M) (fun r31 M_32 => (if r31 = 0 then some (((-1) - nI i), M_32) else fX8_text_41 f (nI n) 0 (nI (i + 1)) M_32)) := by
    have e : fX8_text_240 (fX8_text_41 f) (nI n) 0 (nI i) (v i) 1 M = dc_b2 (fX8_isOpenRead (v i) M) (fun r31 M_32 => (if r31 = 0 then some (((-1) - nI i), M_32) else fX8_text_41 f (nI n) 0 (nI (i + 1)) M_32)) := by
      unfold fX8_text_240
      rw [i10]
      simp only [lts, nI_1]
    rw [R0, e]
    by_cases q1 : v i = 33
    · rw [if_pos q1]
    · rw [if_neg q1]
      by_cases q2 : v i = 45
      · rw [if_pos q2]
      · rw [if_neg q2, if_pos (op.resolve_left q1 |>.resolve_left q2)]
  by_cases k5 : k = 5
  · refine bad (fun _ => ⟨dg, nm, Or.inl k5⟩) ?_
    rw [R1]
    unfold fX8_isOpenRead
    rw [t4.2.2.2, k5, if_pos (show nI 5 = 5 from rfl), b2s, i00]
  have hk : k < 5 := by omega
  obtain ⟨h19, h21, h23, h24⟩ := t4
  have n5 : ¬ nI k = 5 := fun e => k5 (nI_inj (a := k) (b := 5) (by omega) (by decide) e)
  -- a sign ahead
  have pre : ∀ (s cc : Int32), (s = -20 ∨ s = -21) → okc (-1 - cc) → opk (-1 - cc) = 1 → enS (-1 - cc) = s → fX8_isOpenRead (v i) M = some (1, sti (sti (sti M 0 24 (nI (k + 1))) 21 w s) 0 21 (nI (w + 1))) → rq T Dr = dc_b2 (rq' (sti T 0 3 (nI (i + 1))) Dr) (fun a b => dc_b1 (fX3_putSign cc b) (fun c => some (a, c))) → ∃ T' Dr', rq T Dr = some (T', Dr') ∧ (FT n v T' Dr' M (fX8_text_41 (f + 1) (nI n) 0 (nI i) M) ∨ ∃ i' d' f' M', tpc n v T' i' 0 ∧ i < i' ∧ i' ≤ n ∧ dfc Dr' d' ∧ d < d' ∧ (∀ j, j < d → Dr' 1 j = Dr 1 j) ∧ dpt (Dr' 1) d' = dpt (Dr 1) d + 1 ∧ mfc M' (d' + m) (w - m) lv (k - m) ∧ (∀ j, j < d' → M' 19 j = enS (Dr' 1 j)) ∧ (∀ t, t < m → M' 19 (d' + t) = M 21 (w - 1 - t)) ∧ (∀ j, j < w - m → M' 21 j = M 21 j) ∧ (∀ j, j ≤ lv → M' 23 j = M 23 j) ∧ d' + w ≤ i' ∧ mfr M M' ∧ n - i' < f' ∧ fX8_text_41 (f + 1) (nI n) 0 (nI i) M = fX8_text_41 f' (nI n) 1 (nI i') M') := fun s cc hs hok hop hen hopen hrq => by
    obtain ⟨M5, e5⟩ : ∃ M5, M5 = sti (sti (sti M 0 24 (nI (k + 1))) 21 w s) 0 21 (nI (w + 1)) := ⟨_, rfl⟩
    have c21 : M5 21 = upd (M 21) w s := by rw [e5]; rfl
    have c23 : M5 23 = M 23 := by rw [e5]; rfl
    have fr5 : mfr M M5 := ⟨fun b h1 h2 h3 h4 => by rw [e5, sti_o h1, sti_o h3, sti_o h1], fun j h1 h2 h3 h4 => by rw [e5, sti_s, upd_n h2, sti_o (by decide), sti_s, upd_n h4]⟩
    have st : st0 n v (sti T 0 3 (nI (i + 1))) Dr M5 (i + 1) d (w + 1) lv (k + 1) := by
      refine ⟨tpc_at t1 (i + 1), by omega, t3, ⟨by rw [e5]; exact h19, by rw [e5]; rfl, by rw [e5]; exact h23, by rw [e5]; rfl⟩, fun j hj => by rw [e5]; exact t5 j hj, by rw [e5]; exact t6, by omega, by omega, by omega, by rw [c23]; exact t10⟩
    obtain ⟨T1, D1, r1, r2⟩ := hq hk _ _ _ _ _ _ (m + 1) _ f st (by omega) (by omega) (fun t ht => by
      rw [c21]
      by_cases q : t = 0
      · rw [q, show w + 1 - 1 - 0 = w from rfl, upd_s]; exact hs
      · rw [show w + 1 - 1 - t = w - 1 - (t - 1) by omega, upd_n (by omega)]; exact hp (t - 1) (by omega)) (fun hlt => by
      rw [c21, show w + 1 - 1 - (m + 1) = w - 1 - m by omega, upd_n (by omega)]; exact ht (by omega)) (by omega)
    rw [hrq, r1, b2s, R1, hopen, b2s, i10, ← e5]
    rcases r2 with ⟨i', M', q1, q2, q3, q4, q5⟩ | ⟨i', d', f', M', z1, z2, z3, z4, z5, z6, z7, z8, z9, z10, z11, z12, z13, z14, z15, z16⟩
    · obtain ⟨D3, s1, s2⟩ := sgn_s q3 cc
      rw [s1, b1s]
      exact ⟨T1, D3, rfl, Or.inl ⟨i', M', q1, q2, s2, q4, mfr_t fr5 q5⟩⟩
    · rw [sgn_e z4.1 (by omega) cc, b1s]
      refine ⟨T1, _, rfl, Or.inr ⟨i', d' + 1, f', M', z1, by omega, z3, dfc_p z4 hok (by rw [hop, z7]; omega), by omega, fun j hj => ?_, ?_, ?_, fun j hj => ?_, fun t ht => ?_, fun j hj => ?_, fun j hj => ?_, by omega, mfr_t fr5 z14, z15, z16⟩⟩
      · rw [pD_1, upd_n (by omega)]; exact z6 j hj
      · rw [dpt_s, hop, if_neg (by decide), if_pos rfl]; exact z7
      · rw [show d' + 1 + m = d' + (m + 1) by omega, show w - m = w + 1 - (m + 1) by omega, show k - m = k + 1 - (m + 1) by omega]; exact z8
      · rw [pD_1]
        by_cases q : j = d'
        · have := z10 0 (by omega)
          rw [show d' + 0 = d' from rfl, c21, show w + 1 - 1 - 0 = w from rfl, upd_s] at this
          rw [q, upd_s, this, hen]
        · rw [upd_n q]; exact z9 j (by omega)
      · have := z10 (t + 1) (by omega)
        rw [show d' + 1 + t = d' + (t + 1) by omega, this, c21, show w + 1 - 1 - (t + 1) = w - 1 - t by omega, upd_n (by omega)]
      · rw [z11 j (by omega), c21, upd_n (by omega)]
      · rw [z12 j hj, c23]
  have wsp : ∀ s : Int32, fX8_waits s (sti M 0 24 (nI (k + 1))) = some (sti (sti (sti M 0 24 (nI (k + 1))) 21 w s) 0 21 (nI (w + 1))) := fun s => waits_e (M := sti M 0 24 (nI (k + 1))) (w := w) h21 (by omega) s
  by_cases q33 : v i = 33
  · refine pre (-20) 33 (Or.inl rfl) (Or.inr (by decide +kernel)) (by decide +kernel) (by decide +kernel) ?_ (hNot T Dr i t1 hin hk q33)
    unfold fX8_isOpenRead fX8_isOpenRead_45
    rw [q33, h24, if_neg n5, nI_1, lts, if_pos rfl, wsp, b1s, if_neg (by decide)]
  by_cases q45 : v i = 45
  · refine pre (-21) 126 (Or.inr rfl) (Or.inr (by decide +kernel)) (by decide +kernel) (by decide +kernel) ?_ (hNeg T Dr i t1 hin hk q45)
    unfold fX8_isOpenRead fX8_isOpenRead_45
    rw [q45, h24, if_neg n5, nI_1, lts, if_neg (by decide), if_pos rfl, wsp, b1s, if_neg (by decide)]
  have q40 : v i = 40 := op.resolve_left q33 |>.resolve_left q45
  -- a bracket
  obtain ⟨M10, e10⟩ : ∃ M10, M10 = sti (sti (sti (sti (sti M 0 24 (nI (k + 1))) 21 w (-22)) 0 21 (nI (w + 1))) 0 23 (nI (lv + 1))) 23 (lv + 1) 0 := ⟨_, rfl⟩
  have hopen : fX8_isOpenRead (v i) M = some (1, M10) := by
    unfold fX8_isOpenRead fX8_isOpenRead_45
    rw [q40, h24, if_neg n5, nI_1, lts, if_neg (by decide), if_neg (by decide), wsp, b1s, if_pos rfl]
    have e23 : (sti (sti (sti M 0 24 (nI (k + 1))) 21 w (-22)) 0 21 (nI (w + 1))) 0 23 = nI lv := h23
    rw [e23, nI_1, lts, show (sti (sti (sti (sti M 0 24 (nI (k + 1))) 21 w (-22)) 0 21 (nI (w + 1))) 0 23 (nI (lv + 1))) 0 23 = nI (lv + 1) from rfl, cks _ (vp_in_nI (show lv + 1 < 8 by omega) (by decide)), nI_clamp (by omega), nar0, lts, ← e10]
  have c21 : M10 21 = upd (M 21) w (-22) := by rw [e10]; rfl
  have c23 : M10 23 = upd (M 23) (lv + 1) 0 := by rw [e10]; rfl
  have fr10 : mfr M M10 := ⟨fun b h1 h2 h3 h4 => by rw [e10, sti_o h4, sti_o h1, sti_o h1, sti_o h3, sti_o h1], fun j h1 h2 h3 h4 => by rw [e10, sti_o (by decide), sti_s, upd_n h3, sti_s, upd_n h2, sti_o (by decide), sti_s, upd_n h4]⟩
  have st : st0 n v (sti T 0 3 (nI (i + 1))) Dr M10 (i + 1) d (w + 1) (lv + 1) (k + 1) := by
    refine ⟨tpc_at t1 (i + 1), by omega, t3, ⟨by rw [e10]; exact h19, by rw [e10]; rfl, by rw [e10]; rfl, by rw [e10]; rfl⟩, fun j hj => by rw [e10]; exact t5 j hj, by rw [e10]; exact t6, by omega, by omega, by omega, Or.inl (by rw [c23, upd_s])⟩
  obtain ⟨T1, D1, r1, r2⟩ := hT hk _ _ _ _ _ _ _ f st (Or.inr (Or.inl (by rw [c21, show w + 1 - 1 = w from rfl, upd_s]))) (fun _ => by rw [c23, upd_s]) (by omega)
  rw [hPar T Dr i t1 hin hk q40, r1, b2s, R1, hopen, b2s, i10]
  rcases r2 with ⟨i', M', q1, q2, q3, q4, q5⟩ | ⟨i1, d1, e1, w1, f1, M1, oc, r3, r4⟩
  · rw [takes_f q1, b2s, i00, lts]
    exact ⟨_, _, rfl, Or.inl ⟨i', M', tpc_ft q1, q2, q3, q4, mfr_t fr10 q5⟩⟩
  obtain ⟨o1, o2, o3, o4, o5, o6, o7, o8, o9, o10, o11, o12, o13, o14, o15, o16, o17, o18, o19⟩ := oc
  obtain ⟨f1, rfl⟩ : ∃ f', f1 = f' + 1 := ⟨f1 - 1, by omega⟩
  have m15 : M1 5 = v := by rw [o18.1 5 (by decide) (by decide) (by decide) (by decide), fr10.1 5 (by decide) (by decide) (by decide) (by decide)]; exact t6
  by_cases cl : i1 < n ∧ v i1 = 41
  rotate_left
  · rw [takes_n hn o3 o1 cl, b2s, i00, lts]
    refine ⟨_, _, rfl, Or.inl ⟨i1, M1, tpc_ft o1, o3, dfc_dl o4 (by omega), ?_, mfr_t fr10 o18⟩⟩
    rw [r4]
    by_cases q : i1 < n
    · exact stop hn q m15 o8 (by omega) (fun z => absurd ⟨q, z⟩ cl) (o19 q)
    · have ei : i1 = n := by omega
      subst ei
      show fX8_text_41_s (fX8_text_41 f1) _ _ _ _ = _
      unfold fX8_text_41_s
      rw [if_pos (nI_le (Nat.le_refl i1) (by omega)), i10, o8.2.2.1, if_neg (nI_nle (by omega) (by omega))]
  rw [takes_y hn cl.1 o1 cl.2, b2s, i10]
  -- the bracket is closed
  have mw : M1 21 w = -22 := by rw [o13 w (by omega), c21, upd_s]
  obtain ⟨p19, p21, p23, p24⟩ := o8
  obtain ⟨M19, b1, b2, b3, b4, b5, b6, b7⟩ := doneBy_l (b := 1) (w := w + 1) (by omega) (w1 - (w + 1)) e1 400 M1 p19 (by rw [p21]; congr 1; omega) (by omega) (by omega) (fun t ht => by rw [show w + 1 + (w1 - (w + 1)) - 1 - t = w1 - 1 - t by omega]; exact ⟨(o12 t ht).1, (o12 t ht).2.1⟩) (Or.inr (Or.inl (by rw [show w + 1 - 1 = w from rfl, mw]; decide)))
  have b1' : fX8_doneBy 1 M1 = some M19 := b1
  obtain ⟨M23, e23⟩ : ∃ M23, M23 = sti (sti (sti M19 0 21 (nI w)) 0 23 (nI lv)) 0 24 (nI k) := ⟨_, rfl⟩
  have g21 : M23 21 = M1 21 := by rw [e23]; show M19 21 = _; exact b6 21 (by decide) (by decide)
  have g19 : M23 19 = M19 19 := by rw [e23]; rfl
  have hd1 : d1 = e1 + (w1 - (w + 1)) := o10
  have low : ∀ j, j < w → M1 21 j = M 21 j := fun j hj => by rw [o13 j (by omega), c21, upd_n (by omega)]
  obtain ⟨M24, y1, y2, y3, y3', y4, y5, y6, y7⟩ := doneAh_l (w := w - m) (k := k - m) m d1 400 M23 (by rw [e23]; show M19 0 19 = _; rw [b2, hd1]) (by rw [e23]; show nI w = _; congr 1; omega) (by rw [e23]; show nI k = _; congr 1; omega) (by omega) (by omega) (fun t ht => by rw [g21, show w - m + m - 1 - t = w - 1 - t by omega, low _ (by omega)]; exact hp t ht) (by
    rw [g21]
    rcases Nat.eq_zero_or_pos (w - m) with z | z
    · exact Or.inl z
    · refine Or.inr ?_
      rw [low _ (by omega), show w - m - 1 = w - 1 - m by omega]
      exact ht (by omega))
  have y1' : fX8_doneAhead M23 = some M24 := y1
  have hsr : fX8_isSignRead (v i1) M1 = some (1, M24) := by
    unfold fX8_isSignRead
    rw [binds_e, b1s, cl.2, if_pos rfl, p23, if_neg (nI_ne0 (by omega) (by omega)), b1', b1s]
    simp only [lts]
    have u1 : M19 0 21 - 1 = nI w := by rw [b3]; exact nI_pred w
    rw [u1]
    have u2 : (sti M19 0 21 (nI w)) 0 23 - 1 = nI lv := by
      show M19 0 23 - 1 = nI lv
      rw [b7 23 (by decide) (by decide), p23]; exact nI_pred lv
    rw [u2]
    have u3 : (sti (sti M19 0 21 (nI w)) 0 23 (nI lv)) 0 24 - 1 = nI k := by
      show M19 0 24 - 1 = nI k
      rw [b7 24 (by decide) (by decide), p24]; exact nI_pred k
    rw [u3, ← e23, y1', b1s]
  have steps : ∀ j, j < d1 → M19 19 j = enS (D1 1 j) := fun j hj => by
    by_cases q : j < e1
    · rw [b4 j q]; exact o11 j q
    · have := b5 (j - e1) (by omega)
      rw [show e1 + (j - e1) = j by omega, show w + 1 + (w1 - (w + 1)) - 1 - (j - e1) = w1 - 1 - (j - e1) by omega] at this
      rw [this, ← (o12 (j - e1) (by omega)).2.2, show e1 + (j - e1) = j by omega]
  refine ⟨_, D1, rfl, Or.inr ⟨i1 + 1, d1, f1, M24, tpc_at o1 (i1 + 1), by omega, by omega, o4, o5, o6, o7, ⟨y2, y3, ?_, y3'⟩, fun j hj => ?_, fun t ht => ?_, fun j hj => ?_, fun j hj => ?_, by omega, ?_, by omega, ?_⟩⟩
  · rw [y7 23 (by decide) (by decide) (by decide), e23]; rfl
  · rw [y4 j hj, g19]; exact steps j hj
  · rw [y5 t ht, g21, show w - m + m - 1 - t = w - 1 - t by omega, low _ (by omega)]
  · rw [y6 21 (by decide) (by decide), g21, low j (by omega)]
  · rw [y6 23 (by decide) (by decide), e23]
    show M19 23 j = _
    rw [b6 23 (by decide) (by decide), o14 j (by omega), c23, upd_n (by omega)]
  · refine mfr_t fr10 (mfr_t o18 ⟨fun b h1 h2 h3 h4 => ?_, fun j h1 h2 h3 h4 => ?_⟩)
    · rw [y6 b h1 h2, e23, sti_o h1, sti_o h1, sti_o h1, b6 b h1 h2]
    · rw [y7 j h1 h2 h4, e23, sti_s, upd_n h4, sti_s, upd_n h3, sti_s, upd_n h2, b7 j h1 h2]
  · rw [r4]
    show fX8_text_41_s (fX8_text_41 f1) _ _ _ _ = _
    unfold fX8_text_41_s
    rw [if_neg (nI_ge cl.1 (by omega)), cks _ (vp_in_nI (show i1 < 80 by omega) (by decide)), nI_clamp (by omega), m15, lts, i10, hsr, b2s, i10, if_pos cl.2, lts, nI_1]
