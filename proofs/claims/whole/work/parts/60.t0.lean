-- THE TEXT: words for the two readers
def bs (c : Int32) : Nat := if c = 37 then 5 else if c = 38 then 2 else if c = 42 then 5 else if c = 43 then 4 else if c = 45 then 4 else if c = 47 then 5 else if c = 60 then 3 else if c = 61 then 3 else if c = 62 then 3 else if c = 124 then 1 else 0
theorem binds_e (c : Int32) : fX8_binds c = some (nI (bs c)) := by
  unfold fX8_binds bs
  by_cases h0 : c = 37
  · rw [if_pos h0, if_pos h0]; rfl
  rw [if_neg h0, if_neg h0]
  by_cases h1 : c = 38
  · rw [if_pos h1, if_pos h1]; rfl
  rw [if_neg h1, if_neg h1]
  by_cases h2 : c = 42
  · rw [if_pos h2, if_pos h2]; rfl
  rw [if_neg h2, if_neg h2]
  by_cases h3 : c = 43
  · rw [if_pos h3, if_pos h3]; rfl
  rw [if_neg h3, if_neg h3]
  by_cases h4 : c = 45
  · rw [if_pos h4, if_pos h4]; rfl
  rw [if_neg h4, if_neg h4]
  by_cases h5 : c = 47
  · rw [if_pos h5, if_pos h5]; rfl
  rw [if_neg h5, if_neg h5]
  by_cases h6 : c = 60
  · rw [if_pos h6, if_pos h6]; rfl
  rw [if_neg h6, if_neg h6]
  by_cases h7 : c = 61
  · rw [if_pos h7, if_pos h7]; rfl
  rw [if_neg h7, if_neg h7]
  by_cases h8 : c = 62
  · rw [if_pos h8, if_pos h8]; rfl
  rw [if_neg h8, if_neg h8]
  by_cases h9 : c = 124
  · rw [if_pos h9, if_pos h9]; rfl
  rw [if_neg h9, if_neg h9]
  rfl
theorem bs_inv (c : Int32) : bs c = 0 ∨ (c = 37 ∧ bs c = 5) ∨ (c = 38 ∧ bs c = 2) ∨ (c = 42 ∧ bs c = 5) ∨ (c = 43 ∧ bs c = 4) ∨ (c = 45 ∧ bs c = 4) ∨ (c = 47 ∧ bs c = 5) ∨ (c = 60 ∧ bs c = 3) ∨ (c = 61 ∧ bs c = 3) ∨ (c = 62 ∧ bs c = 3) ∨ (c = 124 ∧ bs c = 1) := by
  unfold bs
  by_cases h0 : c = 37
  · subst h0; decide +kernel
  by_cases h1 : c = 38
  · subst h1; decide +kernel
  by_cases h2 : c = 42
  · subst h2; decide +kernel
  by_cases h3 : c = 43
  · subst h3; decide +kernel
  by_cases h4 : c = 45
  · subst h4; decide +kernel
  by_cases h5 : c = 47
  · subst h5; decide +kernel
  by_cases h6 : c = 60
  · subst h6; decide +kernel
  by_cases h7 : c = 61
  · subst h7; decide +kernel
  by_cases h8 : c = 62
  · subst h8; decide +kernel
  by_cases h9 : c = 124
  · subst h9; decide +kernel
  exact Or.inl (by rw [if_neg h0, if_neg h1, if_neg h2, if_neg h3, if_neg h4, if_neg h5, if_neg h6, if_neg h7, if_neg h8, if_neg h9])
theorem bs_le (c : Int32) : bs c ≤ 5 := by
  rcases bs_inv c with h | h | h | h | h | h | h | h | h | h | h
  · rw [h]; decide
  all_goals (rw [h.2]; decide)
/-- a sign between two as the class keeps it -/
theorem bs_code {c : Int32} (h : bs c ≠ 0) : okc (-1 - c) ∧ opk (-1 - c) = 2 ∧ enS (-1 - c) = 10000 + c ∧ 0 < c := by
  rcases bs_inv c with z | z | z | z | z | z | z | z | z | z | z
  · exact absurd z h
  all_goals (obtain ⟨e, _⟩ := z; subst e; exact ⟨Or.inr (by decide +kernel), by decide +kernel, by decide +kernel, by decide +kernel⟩)
theorem bs_5 {c : Int32} : bs c = 5 ↔ c = 42 ∨ c = 47 ∨ c = 37 := by
  constructor
  · intro h
    rcases bs_inv c with z | z | z | z | z | z | z | z | z | z | z
    · rw [z] at h; exact absurd h (by decide)
    all_goals (obtain ⟨e, q⟩ := z; first | (rw [q] at h; exact absurd h (by decide)) | (subst e; decide))
  · rintro (h | h | h) <;> subst h <;> decide +kernel
theorem bs_4 {c : Int32} : bs c = 4 ↔ c = 43 ∨ c = 45 := by
  constructor
  · intro h
    rcases bs_inv c with z | z | z | z | z | z | z | z | z | z | z
    · rw [z] at h; exact absurd h (by decide)
    all_goals (obtain ⟨e, q⟩ := z; first | (rw [q] at h; exact absurd h (by decide)) | (subst e; decide))
  · rintro (h | h) <;> subst h <;> decide +kernel
theorem bs_3 {c : Int32} : bs c = 3 ↔ c = 60 ∨ c = 61 ∨ c = 62 := by
  constructor
  · intro h
    rcases bs_inv c with z | z | z | z | z | z | z | z | z | z | z
    · rw [z] at h; exact absurd h (by decide)
    all_goals (obtain ⟨e, q⟩ := z; first | (rw [q] at h; exact absurd h (by decide)) | (subst e; decide))
  · rintro (h | h | h) <;> subst h <;> decide +kernel
theorem bs_2 {c : Int32} : bs c = 2 ↔ c = 38 := by
  constructor
  · intro h
    rcases bs_inv c with z | z | z | z | z | z | z | z | z | z | z
    · rw [z] at h; exact absurd h (by decide)
    all_goals (obtain ⟨e, q⟩ := z; first | (rw [q] at h; exact absurd h (by decide)) | exact e)
  · rintro h; subst h; decide +kernel
theorem bs_1 {c : Int32} : bs c = 1 ↔ c = 124 := by
  constructor
  · intro h
    rcases bs_inv c with z | z | z | z | z | z | z | z | z | z | z
    · rw [z] at h; exact absurd h (by decide)
    all_goals (obtain ⟨e, q⟩ := z; first | (rw [q] at h; exact absurd h (by decide)) | exact e)
  · rintro h; subst h; decide +kernel
theorem bs_41 {c : Int32} (h : bs c ≠ 0) : ¬ c = 41 := fun e => h (by rw [e]; decide +kernel)
/-- the tape as the class has it: at i, with the flag of a FAULT -/
def tpc (n : Nat) (v : Nat → Int32) (T : ST) (i : Nat) (fl : Int32) : Prop := T 0 2 = nI n ∧ T 0 3 = nI i ∧ T 0 4 = fl ∧ ∀ j, j < n → T 1 j = v j
theorem tpc_at {n : Nat} {v : Nat → Int32} {T : ST} {i : Nat} {fl : Int32} (h : tpc n v T i fl) (j : Nat) : tpc n v (sti T 0 3 (nI j)) j fl := ⟨h.1, rfl, h.2.2.1, h.2.2.2⟩
theorem tpc_ft {n : Nat} {v : Nat → Int32} {T : ST} {i : Nat} {fl : Int32} (h : tpc n v T i fl) : tpc n v (sti T 0 4 1) i 1 := ⟨h.1, h.2.1, rfl, h.2.2.2⟩
theorem sees_e {n : Nat} {v : Nat → Int32} {T : ST} {i : Nat} (hn : n ≤ 80) (hi : i ≤ n) (h : tpc n v T i 0) (x : Int32) : fX6_sees x T = some (if i < n ∧ v i = x then 1 else 0) := by
  obtain ⟨h1, h2, h3, h4⟩ := h
  unfold fX6_sees
  rw [h1, h2, h3, if_pos rfl]
  by_cases q : i < n
  · rw [if_neg (nI_ge q (by omega)), cks _ (vp_in_nI (show i < 80 by omega) (by decide)), nI_clamp (by omega), h4 i q]
    by_cases z : v i = x
    · rw [if_pos z, if_pos ⟨q, z⟩]
    · rw [if_neg z, if_neg (fun y => z y.2)]
  · rw [if_pos (nI_le (by omega) (by omega)), if_neg (fun y => q y.1)]
theorem sees_f {n : Nat} {v : Nat → Int32} {T : ST} {i : Nat} (h : tpc n v T i 1) (x : Int32) : fX6_sees x T = some 0 := by
  unfold fX6_sees
  rw [h.2.2.1, if_neg (by decide)]
theorem takes_y {n : Nat} {v : Nat → Int32} {T : ST} {i : Nat} (hn : n ≤ 80) (hi : i < n) (h : tpc n v T i 0) {x : Int32} (e : v i = x) : fX6_takes x T = some (1, sti T 0 3 (nI (i + 1))) := by
  unfold fX6_takes
  rw [sees_e hn (by omega) h, b1s, if_pos (show i < n ∧ v i = x from ⟨hi, e⟩), i10, lts, bl1, h.2.1, nI_1]
theorem takes_n {n : Nat} {v : Nat → Int32} {T : ST} {i : Nat} (hn : n ≤ 80) (hi : i ≤ n) (h : tpc n v T i 0) {x : Int32} (e : ¬ (i < n ∧ v i = x)) : fX6_takes x T = some (0, T) := by
  unfold fX6_takes
  rw [sees_e hn hi h, b1s, if_neg e, i00, bl0]
theorem takes_f {n : Nat} {v : Nat → Int32} {T : ST} {i : Nat} (h : tpc n v T i 1) (x : Int32) : fX6_takes x T = some (0, T) := by
  unfold fX6_takes
  rw [sees_f h, b1s, i00, bl0]
theorem dig_e {n : Nat} {v : Nat → Int32} {T : ST} {i : Nat} (hn : n ≤ 80) (hi : i ≤ n) (h : tpc n v T i 0) : fX6_seesDigit T = some (if i < n ∧ ¬ (v i < 48 ∨ 57 < v i) then 1 else 0) := by
  obtain ⟨h1, h2, h3, h4⟩ := h
  unfold fX6_seesDigit
  rw [h1, h2, h3, if_pos rfl]
  by_cases q : i < n
  · rw [if_neg (nI_ge q (by omega)), cks _ (vp_in_nI (show i < 80 by omega) (by decide)), cks _ (vp_in_nI (show i < 80 by omega) (by decide)), nI_clamp (by omega), h4 i q]
    by_cases z : v i < 48
    · rw [if_pos z, if_neg (fun y => y.2 (Or.inl z))]
    · rw [if_neg z]
      by_cases z2 : 57 < v i
      · rw [if_pos z2, if_neg (fun y => y.2 (Or.inr z2))]
      · rw [if_neg z2, if_pos ⟨q, fun y => y.elim z z2⟩]
  · rw [if_pos (nI_le (by omega) (by omega)), if_neg (fun y => q y.1)]
/-- the draft -/
def dfc (Dr : ST) (d : Nat) : Prop := Dr 0 2 = nI d ∧ ∀ j, j < d → okc (Dr 1 j) ∧ opk (Dr 1 j) ≤ dpt (Dr 1) j
def dl (Dr : ST) : Prop := ∃ d : Nat, d ≤ 80 ∧ Dr 0 2 = nI d
def pD (Dr : ST) (d : Nat) (x : Int32) : ST := sti (sti Dr 1 d x) 0 2 (nI (d + 1))
theorem pD_1 (Dr : ST) (d : Nat) (x : Int32) : pD Dr d x 1 = upd (Dr 1) d x := rfl
theorem num_e {Dr : ST} {d : Nat} (h : Dr 0 2 = nI d) (hd : d < 80) (x : Int32) : fX3_putNumber x Dr = some (pD Dr d x) := by
  unfold fX3_putNumber
  rw [h, if_neg (show ¬ (80 : Int32) ≤ nI d from nI_ge (b := 80) hd (by decide)), cks _ (vp_in_nI hd (by decide)), nI_clamp (by omega), lts, lts, show (sti Dr 1 d x) 0 2 = nI d from h, nI_1]
  rfl
theorem num_s {Dr : ST} (h : dl Dr) (x : Int32) : ∃ D', fX3_putNumber x Dr = some D' ∧ dl D' := by
  obtain ⟨d, hd, e⟩ := h
  by_cases q : d < 80
  · exact ⟨_, num_e e q x, d + 1, by omega, rfl⟩
  · refine ⟨Dr, ?_, d, hd, e⟩
    unfold fX3_putNumber
    rw [e, if_pos (show (80 : Int32) ≤ nI d from nI_le (a := 80) (by omega) (by omega))]
theorem sgn_e {Dr : ST} {d : Nat} (h : Dr 0 2 = nI d) (hd : d < 80) (c : Int32) : fX3_putSign c Dr = some (pD Dr d (-1 - c)) := by
  unfold fX3_putSign
  rw [num_e h hd, b1s]
theorem sgn_s {Dr : ST} (h : dl Dr) (c : Int32) : ∃ D', fX3_putSign c Dr = some D' ∧ dl D' := by
  obtain ⟨D', e, h'⟩ := num_s h (-1 - c)
  exact ⟨D', by unfold fX3_putSign; rw [e, b1s], h'⟩
theorem dfc_dl {Dr : ST} {d : Nat} (h : dfc Dr d) (hd : d ≤ 80) : dl Dr := ⟨d, hd, h.1⟩
theorem dpt_pD (Dr : ST) (d : Nat) (x : Int32) {j : Nat} (h : j ≤ d) : dpt (pD Dr d x 1) j = dpt (Dr 1) j := dpt_cong j (fun i hi => by rw [pD_1, upd_n (by omega)])
theorem dpt_s (Dr : ST) (d : Nat) (x : Int32) : dpt (pD Dr d x 1) (d + 1) = if opk x = 0 then dpt (Dr 1) d + 1 else if opk x = 1 then dpt (Dr 1) d else dpt (Dr 1) d - 1 := by
  show (if opk (pD Dr d x 1 d) = 0 then dpt (pD Dr d x 1) d + 1 else if opk (pD Dr d x 1 d) = 1 then dpt (pD Dr d x 1) d else dpt (pD Dr d x 1) d - 1) = _
  rw [dpt_pD Dr d x (Nat.le_refl d), pD_1, upd_s]
theorem dfc_p {Dr : ST} {d : Nat} (h : dfc Dr d) {x : Int32} (hx : okc x) (ho : opk x ≤ dpt (Dr 1) d) : dfc (pD Dr d x) (d + 1) := by
  refine ⟨rfl, fun j hj => ?_⟩
  rw [dpt_pD Dr d x (by omega), pD_1]
  by_cases e : j = d
  · rw [e, upd_s]; exact ⟨hx, ho⟩
  · rw [upd_n e]; exact h.2 j (by omega)
/-- the reference's counters -/
def mfc (M : ST) (e w lv k : Nat) : Prop := M 0 19 = nI e ∧ M 0 21 = nI w ∧ M 0 23 = nI lv ∧ M 0 24 = nI k
def mfr (M M' : ST) : Prop := (∀ b, b ≠ 0 → b ≠ 19 → b ≠ 21 → b ≠ 23 → M' b = M b) ∧ (∀ j, j ≠ 19 → j ≠ 21 → j ≠ 23 → j ≠ 24 → M' 0 j = M 0 j)
theorem mfr_r (M : ST) : mfr M M := ⟨fun _ _ _ _ _ => rfl, fun _ _ _ _ _ => rfl⟩
theorem mfr_t {M M1 M2 : ST} (h : mfr M M1) (g : mfr M1 M2) : mfr M M2 := ⟨fun b h1 h2 h3 h4 => (g.1 b h1 h2 h3 h4).trans (h.1 b h1 h2 h3 h4), fun j h1 h2 h3 h4 => (g.2 j h1 h2 h3 h4).trans (h.2 j h1 h2 h3 h4)⟩
theorem puts_e {M : ST} {e : Nat} (h : M 0 19 = nI e) (he : e < 80) (x : Int32) : fX8_puts x M = some (sti (sti M 19 e x) 0 19 (nI (e + 1))) := by
  unfold fX8_puts
  rw [h, cks _ (vp_in_nI he (by decide)), nI_clamp (by omega), lts, lts, show (sti M 19 e x) 0 19 = nI e from h, nI_1]
theorem waits_e {M : ST} {w : Nat} (h : M 0 21 = nI w) (hw : w < 80) (x : Int32) : fX8_waits x M = some (sti (sti M 21 w x) 0 21 (nI (w + 1))) := by
  unfold fX8_waits
  rw [h, cks _ (vp_in_nI hw (by decide)), nI_clamp (by omega), lts, lts, show (sti M 21 w x) 0 21 = nI w from h, nI_1]
theorem doneBy_l {b w : Nat} (hb : b ≤ 5) : ∀ (p e f : Nat) (M : ST), M 0 19 = nI e → M 0 21 = nI (w + p) → e + p + w ≤ 80 → p < f → (∀ t, t < p → 0 < M 21 (w + p - 1 - t) ∧ b ≤ bs (M 21 (w + p - 1 - t))) → (w = 0 ∨ M 21 (w - 1) ≤ 0 ∨ bs (M 21 (w - 1)) < b) → ∃ M', fX8_doneBy_0 f (nI b) M = some M' ∧ M' 0 19 = nI (e + p) ∧ M' 0 21 = nI w ∧ (∀ j, j < e → M' 19 j = M 19 j) ∧ (∀ t, t < p → M' 19 (e + t) = 10000 + M 21 (w + p - 1 - t)) ∧ (∀ c, c ≠ 0 → c ≠ 19 → M' c = M c) ∧ (∀ j, j ≠ 19 → j ≠ 21 → M' 0 j = M 0 j) := by
  intro p
  induction p with
  | zero =>
    intro e f M h19 h21 hs hf hp ht
    obtain ⟨f, rfl⟩ : ∃ f', f = f' + 1 := ⟨f - 1, by omega⟩
    refine ⟨M, ?_, h19, h21, fun _ _ => rfl, fun t ht => by omega, fun _ _ _ => rfl, fun _ _ _ => rfl⟩
    show fX8_doneBy_0_s (fX8_doneBy_0 f) _ _ = _
    unfold fX8_doneBy_0_s
    rw [h21]
    rcases Nat.eq_zero_or_pos w with z | z
    · rw [z, if_pos (by decide)]
    · rw [if_neg (nI_nle (by omega) (by omega)), show nI (w + 0) - 1 = nI (w - 1) from pk_sub (a := w) (b := 1) z, cks _ (vp_in_nI (by omega) (by decide)), nI_clamp (by omega)]
      by_cases q : M 21 (w - 1) ≤ 0
      · rw [if_pos q]
      · rw [if_neg q, cks _ (vp_in_nI (by omega) (by decide)), binds_e, b1s]
        have hlt : bs (M 21 (w - 1)) < b := by
          rcases ht with h | h | h
          · omega
          · exact absurd h q
          · exact h
        rw [if_pos (nI_lt hlt (by omega))]
  | succ p ih =>
    intro e f M h19 h21 hs hf hp ht
    obtain ⟨f, rfl⟩ : ∃ f', f = f' + 1 := ⟨f - 1, by omega⟩
    have h0 := hp 0 (by omega)
    rw [show w + (p + 1) - 1 - 0 = w + p by omega] at h0
    obtain ⟨M8, e8⟩ : ∃ M8, M8 = sti M 0 21 (nI (w + p)) := ⟨_, rfl⟩
    obtain ⟨M10, e10⟩ : ∃ M10, M10 = sti (sti M8 19 e (10000 + M 21 (w + p))) 0 19 (nI (e + 1)) := ⟨_, rfl⟩
    have m8 : M8 0 19 = nI e := by rw [e8]; exact h19
    have c21 : M10 21 = M 21 := by rw [e10, e8]; rfl
    have c19 : M10 19 = upd (M 19) e (10000 + M 21 (w + p)) := by rw [e10, e8]; rfl
    obtain ⟨M', z1, z2, z3, z4, z5, z6, z7⟩ := ih (e + 1) f M10 (by rw [e10]; rfl) (by rw [e10, e8]; rfl) (by omega) (by omega) (fun t ht => by
      rw [c21]
      have := hp (t + 1) (by omega)
      rw [show w + (p + 1) - 1 - (t + 1) = w + p - 1 - t by omega] at this
      exact this) (by rw [c21]; exact ht)
    refine ⟨M', ?_, by rw [z2]; congr 1; omega, z3, fun j hj => ?_, fun t ht => ?_, fun c h1 h2 => ?_, fun j h1 h2 => ?_⟩
    · rw [← z1]
      show fX8_doneBy_0_s (fX8_doneBy_0 f) _ _ = _
      unfold fX8_doneBy_0_s
      rw [h21, if_neg (nI_nle (by omega) (by omega)), show nI (w + (p + 1)) - 1 = nI (w + p) from nI_pred (w + p), cks _ (vp_in_nI (by omega) (by decide)), nI_clamp (by omega), if_neg (fun z => (fa_of_lt h0.1).2.1 z), cks _ (vp_in_nI (by omega) (by decide)), binds_e, b1s, if_neg (nI_nlt h0.2 (by have := bs_le (M 21 (w + p)); omega)), lts, ← e8, show M8 0 21 = nI (w + p) by rw [e8]; rfl, cks _ (vp_in_nI (by omega) (by decide)), nI_clamp (by omega), show M8 21 (w + p) = M 21 (w + p) by rw [e8]; rfl, puts_e m8 (by omega), b1s, ← e10]
    · rw [z4 j (by omega), c19, upd_n (by omega)]
    · by_cases q : t = 0
      · rw [q, show e + 0 = e from rfl, z4 e (by omega), c19, upd_s]; rfl
      · have := z5 (t - 1) (by omega)
        rw [show e + 1 + (t - 1) = e + t by omega, c21] at this
        rw [this]
        congr 2
        omega
    · rw [z6 c h1 h2, e10, sti_o h1, sti_o h2, e8, sti_o h1]
    · rw [z7 j h1 h2, e10, sti_s, upd_n h1, sti_o (by decide), e8, sti_s, upd_n h2]
theorem doneAh_l {w k : Nat} : ∀ (p e f : Nat) (M : ST), M 0 19 = nI e → M 0 21 = nI (w + p) → M 0 24 = nI (k + p) → e + p + w ≤ 80 → p < f → (∀ t, t < p → M 21 (w + p - 1 - t) = -20 ∨ M 21 (w + p - 1 - t) = -21) → (w = 0 ∨ (M 21 (w - 1) ≠ -20 ∧ M 21 (w - 1) ≠ -21)) → ∃ M', fX8_doneAhead_0 f M = some M' ∧ M' 0 19 = nI (e + p) ∧ M' 0 21 = nI w ∧ M' 0 24 = nI k ∧ (∀ j, j < e → M' 19 j = M 19 j) ∧ (∀ t, t < p → M' 19 (e + t) = M 21 (w + p - 1 - t)) ∧ (∀ c, c ≠ 0 → c ≠ 19 → M' c = M c) ∧ (∀ j, j ≠ 19 → j ≠ 21 → j ≠ 24 → M' 0 j = M 0 j) := by
  intro p
  induction p with
  | zero =>
    intro e f M h19 h21 h24 hs hf hp ht
    obtain ⟨f, rfl⟩ : ∃ f', f = f' + 1 := ⟨f - 1, by omega⟩
    refine ⟨M, ?_, h19, h21, h24, fun _ _ => rfl, fun t ht => by omega, fun _ _ _ => rfl, fun _ _ _ _ => rfl⟩
    show fX8_doneAhead_0_s (fX8_doneAhead_0 f) _ = _
    unfold fX8_doneAhead_0_s
    rw [h21]
    rcases Nat.eq_zero_or_pos w with z | z
    · rw [z, if_pos (by decide)]
    · have hh : M 21 (w - 1) ≠ -20 ∧ M 21 (w - 1) ≠ -21 := ht.resolve_left (by omega)
      rw [if_neg (nI_nle (by omega) (by omega)), show nI (w + 0) - 1 = nI (w - 1) from pk_sub (a := w) (b := 1) z, cks _ (vp_in_nI (by omega) (by decide)), nI_clamp (by omega), if_neg hh.1, cks _ (vp_in_nI (by omega) (by decide)), if_neg hh.2]
  | succ p ih =>
    intro e f M h19 h21 h24 hs hf hp ht
    obtain ⟨f, rfl⟩ : ∃ f', f = f' + 1 := ⟨f - 1, by omega⟩
    have h0 := hp 0 (by omega)
    rw [show w + (p + 1) - 1 - 0 = w + p by omega] at h0
    obtain ⟨M4, e4⟩ : ∃ M4, M4 = sti M 0 21 (nI (w + p)) := ⟨_, rfl⟩
    obtain ⟨M6, e6⟩ : ∃ M6, M6 = sti (sti M4 19 e (M 21 (w + p))) 0 19 (nI (e + 1)) := ⟨_, rfl⟩
    obtain ⟨M8, e8⟩ : ∃ M8, M8 = sti M6 0 24 (nI (k + p)) := ⟨_, rfl⟩
    have m4 : M4 0 19 = nI e := by rw [e4]; exact h19
    have m6 : M6 0 24 = nI (k + (p + 1)) := by rw [e6, e4]; exact h24
    have c21 : M8 21 = M 21 := by rw [e8, e6, e4]; rfl
    have c19 : M8 19 = upd (M 19) e (M 21 (w + p)) := by rw [e8, e6, e4]; rfl
    obtain ⟨M', z1, z2, z3, z3', z4, z5, z6, z7⟩ := ih (e + 1) f M8 (by rw [e8, e6]; rfl) (by rw [e8, e6, e4]; rfl) (by rw [e8]; rfl) (by omega) (by omega) (fun t ht => by
      rw [c21]
      have := hp (t + 1) (by omega)
      rw [show w + (p + 1) - 1 - (t + 1) = w + p - 1 - t by omega] at this
      exact this) (by rw [c21]; exact ht)
    have e39 : fX8_doneAhead_39 (fX8_doneAhead_0 f) M = fX8_doneAhead_0 f M8 := by
      unfold fX8_doneAhead_39
      rw [h21, show nI (w + (p + 1)) - 1 = nI (w + p) from nI_pred (w + p), lts, ← e4, show M4 0 21 = nI (w + p) by rw [e4]; rfl, cks _ (vp_in_nI (by omega) (by decide)), nI_clamp (by omega), show M4 21 (w + p) = M 21 (w + p) by rw [e4]; rfl, puts_e m4 (by omega), b1s, ← e6, lts, m6, show nI (k + (p + 1)) - 1 = nI (k + p) from nI_pred (k + p), ← e8]
    refine ⟨M', ?_, by rw [z2]; congr 1; omega, z3, z3', fun j hj => ?_, fun t ht => ?_, fun c h1 h2 => ?_, fun j h1 h2 h3 => ?_⟩
    · rw [← z1]
      show fX8_doneAhead_0_s (fX8_doneAhead_0 f) _ = _
      unfold fX8_doneAhead_0_s
      rw [h21, if_neg (nI_nle (by omega) (by omega)), show nI (w + (p + 1)) - 1 = nI (w + p) from nI_pred (w + p), cks _ (vp_in_nI (by omega) (by decide)), nI_clamp (by omega), e39, cks _ (vp_in_nI (by omega) (by decide))]
      rcases h0 with h0 | h0
      · rw [if_pos h0]
      · rw [h0, if_neg (by decide), if_pos rfl]
    · rw [z4 j (by omega), c19, upd_n (by omega)]
    · by_cases q : t = 0
      · rw [q, show e + 0 = e from rfl, z4 e (by omega), c19, upd_s]; rfl
      · have := z5 (t - 1) (by omega)
        rw [show e + 1 + (t - 1) = e + t by omega, c21] at this
        rw [this]
        congr 1
        omega
    · rw [z6 c h1 h2, e8, sti_o h1, e6, sti_o h1, sti_o h2, e4, sti_o h1]
    · rw [z7 j h1 h2 h3, e8, sti_s, upd_n h3, e6, sti_s, upd_n h1, sti_o (by decide), e4, sti_s, upd_n h2]
/-- an operand is whole: it is put, and the signs ahead of it -/
theorem opnd {M : ST} {d w lv k m : Nat} (hc : mfc M d w lv k) (hm : m ≤ w) (hk : m ≤ k) (hs : d + w < 80) (hp : ∀ t, t < m → M 21 (w - 1 - t) = -20 ∨ M 21 (w - 1 - t) = -21) (ht : m < w → M 21 (w - 1 - m) ≠ -20 ∧ M 21 (w - 1 - m) ≠ -21) (x : Int32) : ∃ M1 M', fX8_puts x M = some M1 ∧ fX8_doneAhead M1 = some M' ∧ mfc M' (d + 1 + m) (w - m) lv (k - m) ∧ (∀ j, j < d → M' 19 j = M 19 j) ∧ M' 19 d = x ∧ (∀ t, t < m → M' 19 (d + 1 + t) = M 21 (w - 1 - t)) ∧ M' 21 = M 21 ∧ M' 23 = M 23 ∧ mfr M M' := by
  obtain ⟨h19, h21, h23, h24⟩ := hc
  obtain ⟨M1, e1⟩ : ∃ M1, M1 = sti (sti M 19 d x) 0 19 (nI (d + 1)) := ⟨_, rfl⟩
  have c21 : M1 21 = M 21 := by rw [e1]; rfl
  have c19 : M1 19 = upd (M 19) d x := by rw [e1]; rfl
  obtain ⟨M', z1, z2, z3, z3', z4, z5, z6, z7⟩ := doneAh_l (w := w - m) (k := k - m) m (d + 1) 400 M1 (by rw [e1]; rfl) (by rw [e1]; show M 0 21 = _; rw [h21]; congr 1; omega) (by rw [e1]; show M 0 24 = _; rw [h24]; congr 1; omega) (by omega) (by omega) (fun t ht => by
    rw [c21, show w - m + m - 1 - t = w - 1 - t by omega]; exact hp t ht) (by
    rw [c21]
    rcases Nat.eq_zero_or_pos (w - m) with z | z
    · exact Or.inl z
    · refine Or.inr ?_
      rw [show w - m - 1 = w - 1 - m by omega]
      exact ht (by omega))
  refine ⟨M1, M', by rw [puts_e h19 (by omega), e1], z1, ⟨z2, z3, ?_, z3'⟩, fun j hj => ?_, ?_, fun t ht => ?_, ?_, ?_, ?_, ?_⟩
  · rw [z7 23 (by decide) (by decide) (by decide), e1]; exact h23
  · rw [z4 j (by omega), c19, upd_n (by omega)]
  · rw [z4 d (by omega), c19, upd_s]
  · rw [z5 t ht, c21, show w - m + m - 1 - t = w - 1 - t by omega]
  · rw [z6 21 (by decide) (by decide), c21]
  · rw [z6 23 (by decide) (by decide), e1]; rfl
  · intro b h1 h2 _ _
    rw [z6 b h1 h2, e1, sti_o h1, sti_o h2]
  · intro j h1 h2 _ h4
    rw [z7 j h1 h2 h4, e1, sti_s, upd_n h1, sti_o (by decide)]
