-- counting, count, vote
theorem nI_inj {a b : Nat} (ha : a < 2 ^ 31) (hb : b < 2 ^ 31) (h : nI a = nI b) : a = b := (nI_eq ha hb).mp h
/-- how many below k hold -/
def cnt (P : Nat → Bool) : Nat → Nat
  | 0 => 0
  | k + 1 => if P k then cnt P k + 1 else cnt P k
theorem cnt_le (P : Nat → Bool) : ∀ k, cnt P k ≤ k := by
  intro k
  induction k with
  | zero => exact Nat.le_refl _
  | succ k ih =>
    show (if P k then cnt P k + 1 else cnt P k) ≤ _
    cases P k <;> simp <;> omega
theorem cnt_cong {P Q : Nat → Bool} : ∀ k, (∀ i, i < k → P i = Q i) → cnt P k = cnt Q k := by
  intro k
  induction k with
  | zero => intro _; rfl
  | succ k ih =>
    intro h
    show (if P k then cnt P k + 1 else cnt P k) = (if Q k then cnt Q k + 1 else cnt Q k)
    rw [h k (by omega), ih (fun i hi => h i (by omega))]
theorem cnt_add {P : Nat → Bool} (q : Nat) (hq : P q = false) : ∀ k, cnt (fun i => P i || decide (i = q)) k = cnt P k + if q < k then 1 else 0 := by
  intro k
  induction k with
  | zero => rfl
  | succ k ih =>
    show (if (P k || decide (k = q)) then cnt (fun i => P i || decide (i = q)) k + 1 else cnt (fun i => P i || decide (i = q)) k) = (if P k then cnt P k + 1 else cnt P k) + _
    rw [ih]
    by_cases e : k = q
    · subst e
      rw [hq, if_neg (by omega : ¬ k < k), if_pos (by omega : k < k + 1)]
      simp
    · rw [decide_eq_false e, Bool.or_false]
      by_cases h : q < k
      · rw [if_pos h, if_pos (by omega : q < k + 1)]
        cases P k <;> simp <;> omega
      · rw [if_neg h, if_neg (by omega : ¬ q < k + 1)]
        cases P k <;> simp
theorem low10 {g : Int32} (h : ∀ i, 10 ≤ i → i < 32 → bt g i = false) : ∃ m : Nat, m < 1024 ∧ g = nI m := by
  refine ⟨g.toBitVec.toNat % 2 ^ 10, Nat.mod_lt _ (by decide), b_ext (fun i hi => ?_)⟩
  show _ = (BitVec.ofNat 32 (g.toBitVec.toNat % 2 ^ 10)).getLsbD i
  rw [BitVec.getLsbD_ofNat, Nat.testBit_mod_two_pow, decide_eq_true hi, Bool.true_and]
  by_cases h2 : i < 10
  · rw [decide_eq_true h2, Bool.true_and]; rfl
  · rw [decide_eq_false h2, Bool.false_and]; exact h i (by omega) hi
theorem bc_m : ∀ m, m < 1024 → fJ6_bitCount_0f7a4 (nI m) = some (nI (cnt (bt (nI m)) 10)) := by decide +kernel
theorem bc_e {g : Int32} (h : ∀ i, 10 ≤ i → i < 32 → bt g i = false) : fJ6_bitCount_0f7a4 g = some (nI (cnt (bt g) 10)) := by
  obtain ⟨m, hm, rfl⟩ := low10 h
  exact bc_m m hm
/-- a sum of the row's words -/
def sm (f : Nat → Int32) : Nat → Int32
  | 0 => 0
  | k + 1 => sm f k + f k
theorem sm_cong {f g : Nat → Int32} : ∀ k, (∀ i, i < k → f i = g i) → sm f k = sm g k := by
  intro k
  induction k with
  | zero => intro _; rfl
  | succ k ih =>
    intro h
    show sm f k + f k = sm g k + g k
    rw [h k (by omega), ih (fun i hi => h i (by omega))]
theorem ofAll_e {M : ST} {n i : Nat} (hn : n ≤ 10) (hM : M 1 0 = nI n) (hi : i < 6) : ∀ (r k f : Nat), k + r = n → r < f → fX8_ofAll_4 M f (nI i) (sm (fun p => M 1 (14 + 6 * p + i)) k) (nI k) = some (sm (fun p => M 1 (14 + 6 * p + i)) n) := by
  intro r
  induction r with
  | zero =>
    intro k f hk hf
    obtain ⟨f, rfl⟩ : ∃ f', f = f' + 1 := ⟨f - 1, by omega⟩
    show fX8_ofAll_4_s M (fX8_ofAll_4 M f) _ _ _ = _
    unfold fX8_ofAll_4_s
    rw [hM, if_pos (nI_le (by omega) (by omega)), show k = n by omega]
  | succ r ih =>
    intro k f hk hf
    obtain ⟨f, rfl⟩ : ∃ f', f = f' + 1 := ⟨f - 1, by omega⟩
    show fX8_ofAll_4_s M (fX8_ofAll_4 M f) _ _ _ = _
    unfold fX8_ofAll_4_s
    rw [hM, if_neg (nI_ge (by omega) (by omega)), has0_e (by omega) hi, b1s, lts, lts, nI_1]
    exact ih (k + 1) f (by omega) (by omega)
theorem rulAll_e {S F : ST} {n : Nat} (hn : n ≤ 10) (hF : F 0 0 = nI n) : ∀ (r k f : Nat), k + r = n → r < f → fX4_ruledByAll_4 S F f (sm (S 6) k) (nI k) = some (sm (S 6) n) := by
  intro r
  induction r with
  | zero =>
    intro k f hk hf
    obtain ⟨f, rfl⟩ : ∃ f', f = f' + 1 := ⟨f - 1, by omega⟩
    show fX4_ruledByAll_4_s S F (fX4_ruledByAll_4 S F f) _ _ = _
    unfold fX4_ruledByAll_4_s
    rw [hF, if_pos (nI_le (by omega) (by omega)), show k = n by omega]
  | succ r ih =>
    intro k f hk hf
    obtain ⟨f, rfl⟩ : ∃ f', f = f' + 1 := ⟨f - 1, by omega⟩
    show fX4_ruledByAll_4_s S F (fX4_ruledByAll_4 S F f) _ _ = _
    unfold fX4_ruledByAll_4_s
    rw [hF, if_neg (nI_ge (by omega) (by omega)), cks _ (vp_in_nI (by omega) (by decide)), nI_clamp (by omega), lts, lts, nI_1]
    exact ih (k + 1) f (by omega) (by omega)
theorem sm_cnt (P : Nat → Bool) : ∀ k, sm (fun p => if P p then 1 else 0) k = nI (cnt P k) := by
  intro k
  induction k with
  | zero => rfl
  | succ k ih =>
    show sm (fun p => if P p then 1 else 0) k + (if P k then 1 else 0) = nI (if P k then cnt P k + 1 else cnt P k)
    rw [ih]
    cases P k
    · simp
    · simp [nI_1]
theorem alive_n {F : ST} {n : Nat} (hn : n ≤ 10) (hF : F 0 0 = nI n) : ∀ k, k ≤ n → cnt (bt (aliveG F)) k + cnt (bt (F 0 5)) k = k := by
  intro k
  induction k with
  | zero => intro _; rfl
  | succ k ih =>
    intro hk
    have h := ih (by omega)
    have hb := alive_b hn hF (i := k) (by omega)
    show (if bt (aliveG F) k then cnt (bt (aliveG F)) k + 1 else cnt (bt (aliveG F)) k) + (if bt (F 0 5) k then cnt (bt (F 0 5)) k + 1 else cnt (bt (F 0 5)) k) = k + 1
    rw [hb, decide_eq_true (by omega : k < n), Bool.true_and]
    cases bt (F 0 5) k
    · show cnt (bt (aliveG F)) k + 1 + cnt (bt (F 0 5)) k = _
      omega
    · show cnt (bt (aliveG F)) k + (cnt (bt (F 0 5)) k + 1) = _
      omega
theorem cnt_top {P : Nat → Bool} {n : Nat} : ∀ r, (∀ i, n ≤ i → i < n + r → P i = false) → cnt P (n + r) = cnt P n := by
  intro r
  induction r with
  | zero => intro _; rfl
  | succ r ih =>
    intro h
    show (if P (n + r) then cnt P (n + r) + 1 else cnt P (n + r)) = _
    rw [h (n + r) (by omega) (by omega)]
    exact ih (fun i h1 h2 => h i h1 (by omega))
theorem alive_low {F : ST} {n : Nat} (hn : n ≤ 10) (hF : F 0 0 = nI n) : ∀ i, 10 ≤ i → i < 32 → bt (aliveG F) i = false := fun i h1 h2 => by
  rw [alive_b hn hF h2, decide_eq_false (by omega)]; rfl
/-- how many are alive -/
def aliveN (F : ST) : Nat := cnt (bt (aliveG F)) 10
theorem aliveN_e {F : ST} {n : Nat} (hn : n ≤ 10) (hF : F 0 0 = nI n) : aliveN F + cnt (bt (F 0 5)) n = n := by
  have h := alive_n hn hF n (Nat.le_refl _)
  have h2 : cnt (bt (aliveG F)) (n + (10 - n)) = cnt (bt (aliveG F)) n := cnt_top (10 - n) (fun i h1 h3 => by
    rw [alive_b hn hF (by omega), decide_eq_false (by omega)]; rfl)
  rw [show n + (10 - n) = 10 by omega] at h2
  unfold aliveN
  omega
theorem bcAlive {F : ST} {n : Nat} (hn : n ≤ 10) (hF : F 0 0 = nI n) : fJ6_bitCount_0f7a4 (aliveG F) = some (nI (aliveN F)) := bc_e (alive_low hn hF)
theorem dead8 {F C S M : ST} (hc : core F C S (M 1)) {n : Nat} (hn : n ≤ 10) (hF : F 0 0 = nI n) : fX8_ofAll 5 M = some (nI (cnt (bt (F 0 5)) n)) := by
  have h := ofAll_e (M := M) (i := 5) hn (hc.1.1.trans hF) (by decide) n 0 400 (by omega) (by omega)
  unfold fX8_ofAll
  refine h.trans ?_
  rw [sm_cong (g := fun p => if bt (F 0 5) p then 1 else 0) n (fun p hp => (hc.2.2.2.1 p (by omega)).2.2.2.2.2), sm_cnt]
/-- the mask of the names in the first k places -/
def nmG (S : ST) : Nat → Int32
  | 0 => 0
  | k + 1 => if S 5 k = -1 then nmG S k else nmG S k ||| ((1 : Int32) <<< (S 5 k &&& 31))
theorem nmG_b {S : ST} {q : Nat} (hq : q < 10) : ∀ k, (∀ j, j < k → S 5 j = -1 ∨ ∃ p : Nat, p < 10 ∧ S 5 j = nI p) → (bt (nmG S k) q = true ↔ ∃ j, j < k ∧ S 5 j = nI q) := by
  intro k
  induction k with
  | zero => intro _; exact ⟨fun h => absurd h (by show ¬ bt 0 q = true; rw [b_0]; decide), fun ⟨j, h, _⟩ => absurd h (by omega)⟩
  | succ k ih =>
    intro h
    have ih := ih (fun j hj => h j (by omega))
    show bt (if S 5 k = -1 then nmG S k else nmG S k ||| ((1 : Int32) <<< (S 5 k &&& 31))) q = true ↔ _
    rcases h k (by omega) with e | ⟨p, hp, e⟩
    · rw [if_pos e, ih]
      constructor
      · rintro ⟨j, h1, h2⟩; exact ⟨j, by omega, h2⟩
      · rintro ⟨j, h1, h2⟩
        by_cases ej : j = k
        · subst ej; exact absurd (h2.symm.trans e) (nI_m1 (by omega))
        · exact ⟨j, by omega, h2⟩
    · rw [if_neg (by rw [e]; exact nI_m1 (by omega)), e, b_or, oneBit (by omega) (by omega), Bool.or_eq_true, ih, decide_eq_true_iff]
      constructor
      · rintro (⟨j, h1, h2⟩ | h1)
        · exact ⟨j, by omega, h2⟩
        · exact ⟨k, by omega, by rw [e, h1]⟩
      · rintro ⟨j, h1, h2⟩
        by_cases ej : j = k
        · subst ej
          refine Or.inr ?_
          have := nI_inj (show q < 2 ^ 31 by omega) (show p < 2 ^ 31 by omega) (h2.symm.trans e)
          exact this
        · exact Or.inl ⟨j, by omega, h2⟩
theorem nmG_hi {S : ST} {i : Nat} (hi : 10 ≤ i) (hi2 : i < 32) : ∀ k, (∀ j, j < k → S 5 j = -1 ∨ ∃ p : Nat, p < 10 ∧ S 5 j = nI p) → bt (nmG S k) i = false := by
  intro k
  induction k with
  | zero => intro _; exact b_0 i
  | succ k ih =>
    intro h
    have ih := ih (fun j hj => h j (by omega))
    show bt (if S 5 k = -1 then nmG S k else nmG S k ||| ((1 : Int32) <<< (S 5 k &&& 31))) i = false
    rcases h k (by omega) with e | ⟨p, hp, e⟩
    · rw [if_pos e, ih]
    · rw [if_neg (by rw [e]; exact nI_m1 (by omega)), e, b_or, oneBit (by omega) (by omega), ih, decide_eq_false (by omega)]; rfl
theorem named_e {S : ST} {a : Nat} (ha : a ≤ 4) (hA : S 4 0 = nI a) : ∀ (r k f : Nat), k + r = a → r < f → fX4_named_4 S f (nmG S k) (nI k) = some (nmG S a) := by
  intro r
  induction r with
  | zero =>
    intro k f hk hf
    obtain ⟨f, rfl⟩ : ∃ f', f = f' + 1 := ⟨f - 1, by omega⟩
    show fX4_named_4_s S (fX4_named_4 S f) _ _ = _
    unfold fX4_named_4_s
    rw [hA, if_pos (nI_le (by omega) (by omega)), show k = a by omega]
  | succ r ih =>
    intro k f hk hf
    obtain ⟨f, rfl⟩ : ∃ f', f = f' + 1 := ⟨f - 1, by omega⟩
    have ih := ih (k + 1) f (by omega) (by omega)
    show fX4_named_4_s S (fX4_named_4 S f) _ _ = _
    unfold fX4_named_4_s
    rw [hA, if_neg (nI_ge (by omega) (by omega)), cks _ (vp_in_nI (by omega) (by decide)), cks _ (vp_in_nI (by omega) (by decide)), nI_clamp (by omega), lts, lts, lts, nI_1]
    rw [show nmG S (k + 1) = if S 5 k = -1 then nmG S k else nmG S k ||| ((1 : Int32) <<< (S 5 k &&& 31)) from rfl] at ih
    by_cases e : S 5 k = -1
    · rw [if_pos e] at ih ⊢; exact ih
    · rw [if_neg e] at ih ⊢; exact ih
/-- how many of the first k places are named -/
def nmN (f : Nat → Int32) : Nat → Nat := cnt (fun k => !decide (f k < 0))
theorem namedMany_e {M : ST} : ∀ (r k f : Nat), k + r = 4 → r < f → fX8_namedMany_4 M f (nI (nmN (fun j => M 1 (10 + j)) k)) (nI k) = some (nI (nmN (fun j => M 1 (10 + j)) 4)) := by
  intro r
  induction r with
  | zero =>
    intro k f hk hf
    obtain ⟨f, rfl⟩ : ∃ f', f = f' + 1 := ⟨f - 1, by omega⟩
    show fX8_namedMany_4_s M (fX8_namedMany_4 M f) _ _ = _
    unfold fX8_namedMany_4_s
    rw [if_pos (show (4 : Int32) ≤ nI k from nI_le (a := 4) (by omega) (by omega)), show k = 4 by omega]
  | succ r ih =>
    intro k f hk hf
    obtain ⟨f, rfl⟩ : ∃ f', f = f' + 1 := ⟨f - 1, by omega⟩
    have ih := ih (k + 1) f (by omega) (by omega)
    show fX8_namedMany_4_s M (fX8_namedMany_4 M f) _ _ = _
    unfold fX8_namedMany_4_s
    have e : (10 : Int32) + nI k = nI (10 + k) := by rw [show (10 : Int32) = nI 10 from rfl, nI_add]
    rw [if_neg (show ¬ (4 : Int32) ≤ nI k from nI_ge (b := 4) (by omega) (by decide)), e, cks _ (vp_in_nI (by omega) (by decide)), nI_clamp (by omega), lts, lts, lts, nI_1, nI_1, Int32.add_zero]
    rw [show nmN (fun j => M 1 (10 + j)) (k + 1) = if !decide (M 1 (10 + k) < 0) then nmN (fun j => M 1 (10 + j)) k + 1 else nmN (fun j => M 1 (10 + j)) k from rfl] at ih
    by_cases h : M 1 (10 + k) < 0
    · rw [if_pos h]; rw [decide_eq_true h] at ih; exact ih
    · rw [if_neg h]; rw [decide_eq_false h] at ih; exact ih
theorem nmN_e {S : ST} : ∀ k, k ≤ 4 → (∀ j, j < 4 → S 5 j = -1 ∨ ∃ p : Nat, p < 10 ∧ S 5 j = nI p) → (∀ j l, j < 4 → l < 4 → j ≠ l → S 5 j = S 5 l → S 5 j = -1) → cnt (bt (nmG S k)) 10 = nmN (S 5) k := by
  intro k
  induction k with
  | zero =>
    intro _ _ _
    show cnt (bt 0) 10 = 0
    rfl
  | succ k ih =>
    intro hk h1 h2
    have ih := ih (by omega) h1 h2
    show cnt (bt (if S 5 k = -1 then nmG S k else nmG S k ||| ((1 : Int32) <<< (S 5 k &&& 31)))) 10 = if !decide (S 5 k < 0) then nmN (S 5) k + 1 else nmN (S 5) k
    rcases h1 k (by omega) with e | ⟨p, hp, e⟩
    · rw [if_pos e, ih, e]; rfl
    · rw [if_neg (by rw [e]; exact nI_m1 (by omega)), e, decide_eq_false (nI_pos (by omega)), ← ih]
      have hb : bt (nmG S k) p = false := by
        cases hh : bt (nmG S k) p with
        | false => rfl
        | true =>
          obtain ⟨j, j1, j2⟩ := (nmG_b hp k (fun j hj => h1 j (by omega))).mp hh
          have := h2 j k (by omega) (by omega) (by omega) (j2.trans e.symm)
          exact absurd (j2.symm.trans this) (nI_m1 (by omega))
      have := cnt_add (P := bt (nmG S k)) p hb 10
      rw [if_pos hp] at this
      show _ = cnt (bt (nmG S k)) 10 + 1
      rw [← this]
      exact cnt_cong 10 (fun i hi => by rw [b_or, oneBit (by omega) (by omega)])
theorem line_p {F S : ST} {n : Nat} (hn : n ≤ 10) (hL : iL F S n) : ∀ j, j < 4 → S 5 j = -1 ∨ ∃ p : Nat, p < 10 ∧ S 5 j = nI p := fun j hj => by
  rcases hL.1 j hj with e | ⟨q, h1, -, e⟩
  · exact Or.inl e
  · exact Or.inr ⟨q, by omega, e⟩
theorem nmN_top {F S : ST} {n a : Nat} (ha : a ≤ 4) (hA : S 4 0 = nI a) (hL : iL F S n) : nmN (S 5) 4 = nmN (S 5) a := by
  have h := cnt_top (P := fun k => !decide (S 5 k < 0)) (n := a) (4 - a) (fun i h1 h2 => by
    rw [hL.2.1 i (by omega) (by rw [hA]; exact nI_le h1 (by omega))]; rfl)
  rw [show a + (4 - a) = 4 by omega] at h
  exact h
theorem P_count_ok : P_count RR := by
  intro x1 Ma Fo Sc Se Tr Ch Us Ta Dr G0 N0 G1 N1 G2 N2 G3 N3 Fo2 Sc2 Se2 Tr2 Fo3 Sc3 Se3 Tr3 M N hR
  unfold fX7_count fX8_count
  rw [fd7_0, fd8_0]
  have hR0 := hR
  obtain ⟨⟨hc, ⟨n, hn, hF, hiF, ⟨⟨a, a1, a2, hA⟩, -⟩, hL, hiC⟩, hk⟩, h2, h3, h4, h5⟩ := hR
  by_cases c0 : x1 = 0
  · exact ⟨_, Ma, M, if_pos c0, by rw [if_pos c0, hc.1.1], hR0⟩
  rw [if_neg c0, if_neg c0]
  by_cases c1 : x1 = 1
  · refine ⟨nI (aliveN Fo), Ma, M, ?_, ?_, hR0⟩
    · rw [if_pos c1]
      rw [show fX1_alive Fo = some (aliveG Fo) from rfl, b1s, bcAlive hn hF, b1s]
    · have := aliveN_e hn hF
      rw [if_pos c1, dead8 hc hn hF, b1s, hc.1.1, hF, pk_sub (by omega), show n - cnt (bt (Fo 0 5)) n = aliveN Fo by omega]
  rw [if_neg c1, if_neg c1]
  by_cases c2 : x1 = 2
  · refine ⟨nI (nmN (Se 5) 4), Ma, M, ?_, ?_, hR0⟩
    · rw [if_pos c2]
      unfold fX4_named
      rw [show (fX4_named_4 Se 400 0 0) = some (nmG Se a) from named_e a2 hA a 0 400 (by omega) (by omega), b1s, bc_e (fun i h1 h2 => nmG_hi h1 h2 a (fun j hj => line_p hn hL j (by omega))), b1s, nmN_e a a2 (line_p hn hL) hL.2.2.1, nmN_top a2 hA hL]
    · rw [if_pos c2]
      unfold fX8_namedMany
      rw [show fX8_namedMany_4 M 400 0 0 = some (nI (nmN (fun j => M 1 (10 + j)) 4)) from namedMany_e 4 0 400 (by omega) (by omega), b1s]
      unfold nmN
      rw [cnt_cong (P := fun k => !decide (M 1 (10 + k) < 0)) (Q := fun k => !decide (Se 5 k < 0)) 4 (fun i hi => by show (!decide (M 1 (10 + i) < 0)) = _; rw [hc.2.2.1 i hi])]
  rw [if_neg c2, if_neg c2]
  by_cases c3 : x1 = 3
  · refine ⟨sm (Se 6) n, Ma, M, ?_, ?_, hR0⟩
    · rw [if_pos c3]
      unfold fX4_ruledByAll
      rw [show fX4_ruledByAll_4 Se Fo 400 0 0 = some (sm (Se 6) n) from rulAll_e hn hF n 0 400 (by omega) (by omega), b1s]
    · rw [if_pos c3]
      unfold fX8_ofAll
      rw [show fX8_ofAll_4 M 400 4 0 0 = some (sm (fun p => M 1 (14 + 6 * p + 4)) n) from ofAll_e (i := 4) hn (hc.1.1.trans hF) (by decide) n 0 400 (by omega) (by omega), b1s, sm_cong (g := Se 6) n (fun p hp => (hc.2.2.2.1 p (by omega)).2.2.2.2.1)]
  rw [if_neg c3, if_neg c3]
  by_cases c4 : x1 = 4
  · exact ⟨_, Ma, M, if_pos c4, by rw [if_pos c4, h4.1], hR0⟩
  rw [if_neg c4, if_neg c4]
  by_cases c5 : x1 = 5
  · exact ⟨_, Ma, M, if_pos c5, by rw [if_pos c5, hc.1.2.2.2], hR0⟩
  rw [if_neg c5, if_neg c5]
  exact ⟨-1000000001, fMa 0 Ma, fM 0 M, by rw [b2s], by rw [b2s], RR_f hR0 0 (by decide)⟩
-- vote
/-- what the first k who live have for q -/
def lkS (F : ST) (q : Nat) : Nat → Int32 := sm (fun k => if bt (F 0 5) k then 0 else F 7 (10 * k + q))
theorem lkS_1 (F : ST) (q k : Nat) : lkS F q (k + 1) = lkS F q k + (if bt (F 0 5) k then 0 else F 7 (10 * k + q)) := rfl
theorem liked_e {F : ST} {n q : Nat} (hn : n ≤ 10) (hF : F 0 0 = nI n) (hq : q < n) (h0 : F 7 (10 * q + q) = 0) : ∀ (r k f : Nat), k + r = n → r < f → fX1_likedByOthers_4 F f (nI q) (lkS F q k) (nI k) = some (lkS F q n) := by
  intro r
  induction r with
  | zero =>
    intro k f hk hf
    obtain ⟨f, rfl⟩ : ∃ f', f = f' + 1 := ⟨f - 1, by omega⟩
    show fX1_likedByOthers_4_s F (fX1_likedByOthers_4 F f) _ _ _ = _
    unfold fX1_likedByOthers_4_s
    rw [hF, if_pos (nI_le (by omega) (by omega)), show k = n by omega]
  | succ r ih =>
    intro k f hk hf
    obtain ⟨f, rfl⟩ : ∃ f', f = f' + 1 := ⟨f - 1, by omega⟩
    have ih := ih (k + 1) f (by omega) (by omega)
    rw [lkS_1] at ih
    show fX1_likedByOthers_4_s F (fX1_likedByOthers_4 F f) _ _ _ = _
    unfold fX1_likedByOthers_4_s
    rw [hF, if_neg (nI_ge (by omega) (by omega)), lts, nI_1]
    by_cases e : k = q
    · subst e
      rw [if_pos rfl]
      rw [h0, ite_self, Int32.add_zero] at ih
      exact ih
    · have e2 : nI k * 10 + nI q = nI (10 * k + q) := by rw [show (10 : Int32) = nI 10 from rfl, pk_mul, nI_add, Nat.mul_comm]
      rw [if_neg (fun h => e (nI_inj (by omega) (by omega) h)), isAl1 hn hF (by omega), b1s, e2, cks _ (vp_in_nI (by omega) (by decide)), nI_clamp (by omega), lts, lts]
      cases hb : bt (F 0 5) k
      · rw [hb] at ih
        exact ih
      · rw [hb] at ih
        rw [if_pos rfl, Int32.add_zero] at ih
        exact ih
theorem vote30 {F C S M : ST} (hc : core F C S (M 1)) {n q : Nat} (hn : n ≤ 10) (hF : F 0 0 = nI n) (hq : q < n) (k6 : Int32 → Int32 → Int32 → ST → Option (Int32 × ST)) (y1 y2 : Int32) : ∀ (r k f : Nat), k + r = n → r < f → fX8_vote_30 k6 f y1 y2 (nI q) (lkS F q k) (nI k) M = (if y1 < 0 then k6 (nI q) (lkS F q n) (nI (q + 1)) M else (if lkS F q n ≤ y2 then k6 y1 y2 (nI (q + 1)) M else k6 (nI q) (lkS F q n) (nI (q + 1)) M)) := by
  intro r
  induction r with
  | zero =>
    intro k f hk hf
    obtain ⟨f, rfl⟩ : ∃ f', f = f' + 1 := ⟨f - 1, by omega⟩
    show fX8_vote_30_s k6 (fX8_vote_30 k6 f) _ _ _ _ _ _ = _
    unfold fX8_vote_30_s
    rw [hc.1.1, hF, if_pos (nI_le (by omega) (by omega)), show k = n by omega]
    simp only [lts, nI_1]
  | succ r ih =>
    intro k f hk hf
    obtain ⟨f, rfl⟩ : ∃ f', f = f' + 1 := ⟨f - 1, by omega⟩
    have ih := ih (k + 1) f (by omega) (by omega)
    rw [lkS_1] at ih
    show fX8_vote_30_s k6 (fX8_vote_30 k6 f) _ _ _ _ _ _ = _
    unfold fX8_vote_30_s
    rw [hc.1.1, hF, if_neg (nI_ge (by omega) (by omega)), isAl8 hc (by omega), b1s, lik8 (by omega) (by omega), b1s, lts, lts, lts, lts, nI_1, hc.2.2.2.2.1 (10 * k + q) (by omega)]
    cases hb : bt (F 0 5) k
    · rw [hb] at ih
      exact ih
    · rw [hb] at ih
      exact ih
theorem vote_l {F C S M Ma : ST} (hc : core F C S (M 1)) {n : Nat} (hn : n ≤ 10) (hF : F 0 0 = nI n) (h0 : ∀ q, q < n → F 7 (10 * q + q) = 0) : ∀ (r q f g : Nat) (y1 y2 : Int32), q + r = n → r < f → r < g → (y1 = -1 ∨ ∃ p : Nat, p < 10 ∧ y1 = nI p) → (fX7_vote_6 F f y1 y2 (nI q) Ma = some (-1000000004, fMa 3 Ma) ∧ fX8_vote_6 g y1 y2 (nI q) M = some (-1000000004, fM 3 M)) ∨ ∃ z, fX7_vote_6 F f y1 y2 (nI q) Ma = some (z, Ma) ∧ fX8_vote_6 g y1 y2 (nI q) M = some (z, M) := by
  intro r
  induction r with
  | zero =>
    intro q f g y1 y2 hq hf hg hy
    obtain ⟨f, rfl⟩ : ∃ f', f = f' + 1 := ⟨f - 1, by omega⟩
    obtain ⟨g, rfl⟩ : ∃ f', g = f' + 1 := ⟨g - 1, by omega⟩
    show (fX7_vote_6_s F (fX7_vote_6 F f) _ _ _ _ = _ ∧ fX8_vote_6_s (fX8_vote_6 g) _ _ _ _ = _) ∨ ∃ z, fX7_vote_6_s F (fX7_vote_6 F f) _ _ _ _ = _ ∧ fX8_vote_6_s (fX8_vote_6 g) _ _ _ _ = _
    unfold fX7_vote_6_s fX8_vote_6_s
    rw [hc.1.1, hF, if_pos (nI_le (by omega) (by omega)), if_pos (nI_le (by omega) (by omega)), fd7_3, fd8_3, b2s, b2s]
    rcases hy with e | ⟨p, hp, e⟩
    · rw [if_pos e, if_neg (by rw [e]; decide)]
      exact Or.inl ⟨rfl, rfl⟩
    · rw [if_neg (by rw [e]; exact nI_m1 (by omega)), if_pos (by rw [e]; exact nI_le (a := 0) (by omega) (by omega))]
      exact Or.inr ⟨y1, rfl, rfl⟩
  | succ r ih =>
    intro q f g y1 y2 hq hf hg hy
    obtain ⟨f, rfl⟩ : ∃ f', f = f' + 1 := ⟨f - 1, by omega⟩
    obtain ⟨g, rfl⟩ : ∃ f', g = f' + 1 := ⟨g - 1, by omega⟩
    have i1 := ih (q + 1) f g y1 y2 (by omega) (by omega) (by omega) hy
    have i2 := ih (q + 1) f g (nI q) (lkS F q n) (by omega) (by omega) (by omega) (Or.inr ⟨q, by omega, rfl⟩)
    show (fX7_vote_6_s F (fX7_vote_6 F f) _ _ _ _ = _ ∧ fX8_vote_6_s (fX8_vote_6 g) _ _ _ _ = _) ∨ ∃ z, fX7_vote_6_s F (fX7_vote_6 F f) _ _ _ _ = _ ∧ fX8_vote_6_s (fX8_vote_6 g) _ _ _ _ = _
    unfold fX7_vote_6_s fX8_vote_6_s
    rw [hc.1.1, hF, if_neg (nI_ge (by omega) (by omega)), if_neg (nI_ge (by omega) (by omega)), isAl1 hn hF (by omega), b1s, isAl8 hc (by omega), b1s]
    simp only [lts, nI_1]
    unfold fX1_likedByOthers
    rw [show fX1_likedByOthers_4 F 400 (nI q) 0 0 = some (lkS F q n) from liked_e hn hF (by omega) (h0 q (by omega)) n 0 400 (by omega) (by omega), b1s, show fX8_vote_30 (fX8_vote_6 g) 400 y1 y2 (nI q) 0 0 M = _ from vote30 hc hn hF (by omega) (fX8_vote_6 g) y1 y2 n 0 400 (by omega) (by omega)]
    cases hb : bt (F 0 5) q
    · simp only [Bool.false_eq_true, if_false, i10]
      rcases hy with e | ⟨p, hp, e⟩
      · rw [if_pos e, if_pos (show y1 < 0 by rw [e]; decide)]
        exact i2
      · rw [if_neg (show ¬ y1 = -1 by rw [e]; exact nI_m1 (by omega)), if_neg (show ¬ y1 < 0 by rw [e]; exact nI_pos (by omega))]
        by_cases h : lkS F q n ≤ y2
        · rw [if_pos h, if_pos h]; exact i1
        · rw [if_neg h, if_neg h]; exact i2
    · simp only [if_true]
      exact i1
theorem P_vote_ok : P_vote RR := by
  intro Ma Fo Sc Se Tr Ch Us Ta Dr G0 N0 G1 N1 G2 N2 G3 N3 Fo2 Sc2 Se2 Tr2 Fo3 Sc3 Se3 Tr3 M N hR
  have hR0 := hR
  obtain ⟨⟨hc, ⟨n, hn, hF, hiF, -⟩, hk⟩, -⟩ := hR
  unfold fX7_vote fX8_vote
  rcases vote_l (Ma := Ma) hc hn hF (fun q hq => hiF.2.2.2 q q (by omega) (by omega) (Or.inr (Or.inr rfl))) n 0 400 400 (-1) 0 (by omega) (by omega) (by omega) (Or.inl rfl) with ⟨h1, h2⟩ | ⟨z, h1, h2⟩
  · exact ⟨_, _, _, h1, h2, RR_f hR0 3 (by decide)⟩
  · exact ⟨z, Ma, M, h1, h2, hR0⟩
