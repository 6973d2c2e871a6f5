-- whom one MAY name; the first named
def ctx (F C S M : ST) (n a : Nat) : Prop := n ≤ 10 ∧ F 0 0 = nI n ∧ 1 ≤ a ∧ a ≤ 4 ∧ S 4 0 = nI a ∧ core F C S (M 1) ∧ iF F n ∧ iR S ∧ iL F S n ∧ iC C
theorem ctx_of {F C S M : ST} (hc : core F C S (M 1)) (hi : inv F C S) : ∃ n a, ctx F C S M n a := by
  obtain ⟨n, hn, hF, h1, h2, h3, h4⟩ := hi
  obtain ⟨⟨a, a1, a4, hA⟩, h2'⟩ := h2
  exact ⟨n, a, hn, hF, a1, a4, hA, hc, h1, ⟨⟨a, a1, a4, hA⟩, h2'⟩, h3, h4⟩
theorem ctx_inv {F C S M : ST} {n a : Nat} (h : ctx F C S M n a) : core F C S (M 1) ∧ inv F C S := by
  obtain ⟨hn, hF, a1, a4, hA, hc, h1, h2, h3, h4⟩ := h
  exact ⟨hc, n, hn, hF, h1, h2, h3, h4⟩
def mayB (F S : ST) (a p q : Nat) : Bool := !bt (F 0 5) q && decide (plS S a (nI q) = -1) && (if p = q then decide (S 0 6 = nI p) && decide (S 4 2 = 1) else !decide (S 0 6 = nI q) && (decide (S 4 3 = 1) || !bt (F 5 p) q))
theorem m1_lt : (-1 : Int32) < 0 := by decide
theorem m1_nle : ¬ (0 : Int32) ≤ -1 := by decide
theorem pl_lt {S : ST} {a : Nat} (ha : a ≤ 4) (x : Int32) : (plS S a x < 0) ↔ plS S a x = -1 := by
  rcases pl_case S ha x with ⟨h, _⟩ | ⟨j, hj, _, h⟩
  · rw [h]; exact ⟨fun _ => rfl, fun _ => m1_lt⟩
  · rw [h]; exact ⟨fun q => absurd q (nI_pos (by omega)), fun q => absurd q (nI_m1 (by omega))⟩
theorem may8 {F C S M : ST} {n a : Nat} (h : ctx F C S M n a) {p q : Nat} (hp : p < 10) (hq : q < 10) : fX8_mayName (nI p) (nI q) M = some (if mayB F S a p q then 1 else 0) := by
  obtain ⟨hn, hF, a1, a4, hA, hc, -⟩ := h
  unfold fX8_mayName mayB
  have e1 : M 1 1 = S 0 6 := hc.1.2.1
  have e6 : M 1 6 = S 4 2 := hc.2.1 2 (by decide)
  have e7 : M 1 7 = S 4 3 := hc.2.1 3 (by decide)
  have ek : M 1 (14 + 6 * p + 3) = F 5 p := (hc.2.2.2.1 p hp).2.2.2.1
  rw [isAl8 hc hq, b1s, pl8 hc a4 hA, b1s, has0_3 hp, b1s, ek, bitAt _ (by omega), e1, e6, e7]
  have epq : (nI p = nI q) ↔ p = q := nI_eq (by omega) (by omega)
  simp only [pl_lt a4, epq]
  cases hd : bt (F 0 5) q
  · rw [if_neg (show ¬ (if false = true then (0 : Int32) else 1) = 0 by decide)]
    by_cases hpl : plS S a (nI q) = -1
    · rw [if_pos hpl]
      by_cases hpq : p = q
      · rw [if_pos hpq, if_pos hpq]
        by_cases h1 : S 0 6 = nI p
        · by_cases h2 : S 4 2 = 1
          · simp [h1, h2, hpl]
          · simp [h1, h2, hpl]
        · simp [h1, hpl]
      · rw [if_neg hpq, if_neg hpq]
        by_cases h1 : S 0 6 = nI q
        · simp [h1, hpl]
        · by_cases h2 : S 4 3 = 1
          · simp [h1, h2, hpl]
          · cases hb : bt (F 5 p) q
            · simp [h1, h2, hpl]
            · simp [h1, h2, hpl]
    · rw [if_neg hpl]
      simp [hpl]
  · rw [if_pos (show (if true = true then (0 : Int32) else 1) = 0 by decide)]
    simp
theorem nm_pl {F S : ST} {n a : Nat} (hn : n ≤ 10) (a4 : a ≤ 4) (hL : iL F S n) {i : Nat} (hi : i < 10) : bt (nmG S a) i = !decide (plS S a (nI i) = -1) := by
  have hb := nmG_b (S := S) hi a (fun j hj => line_p hn hL j (by omega))
  rcases pl_case S a4 (nI i) with ⟨z, hz⟩ | ⟨j, hj, hz, z⟩
  · have h2 : ¬ bt (nmG S a) i = true := fun q => by
      obtain ⟨j, hj, e⟩ := hb.mp q
      exact hz j hj e
    rw [z]
    cases hbt : bt (nmG S a) i
    · rfl
    · exact absurd hbt h2
  · rw [hb.mpr ⟨j, hj, hz⟩, z, decide_eq_false (nI_m1 (by omega))]
    rfl
theorem allow4 {F C S M : ST} {n a : Nat} (h : ctx F C S M n a) {p : Nat} (hp : p < n) : ∃ g, fX4_allowed (nI p) S F = some g ∧ (∀ i, i < n → bt g i = mayB F S a p i) ∧ (∀ i, n ≤ i → i < 32 → bt g i = false) := by
  obtain ⟨hn, hF, a1, a4, hA, hc, hiF, hiR, hiL, hiC⟩ := h
  obtain ⟨g0, e0⟩ : ∃ g0, g0 = (aliveG F &&& (nmG S a ^^^ (-1))) &&& (((1 : Int32) <<< (nI p &&& 31)) ^^^ (-1)) := ⟨_, rfl⟩
  have b0 : ∀ i, i < 32 → bt g0 i = ((decide (i < n) && !bt (F 0 5) i) && !bt (nmG S a) i && !decide (i = p)) := fun i hi => by
    rw [e0, b_and, b_and, alive_b hn hF hi, notBit _ hi, notBit _ hi, oneBit (by omega) hi]
  obtain ⟨g1, e1⟩ : ∃ g1, g1 = if S 4 3 = 0 then g0 &&& (F 5 p ^^^ (-1)) else g0 := ⟨_, rfl⟩
  have b1 : ∀ i, i < 32 → bt g1 i = (bt g0 i && (decide (S 4 3 = 1) || !bt (F 5 p) i)) := fun i hi => by
    rcases hiR.2.2.2.1 with z | z
    · rw [e1, if_pos z, b_and, notBit _ hi, z, decide_eq_false (show ¬ (0 : Int32) = 1 by decide), Bool.false_or]
    · rw [e1, if_neg (by rw [z]; decide), z, decide_eq_true (show (1 : Int32) = 1 from rfl), Bool.true_or, Bool.and_true]
  obtain ⟨g2, e2⟩ : ∃ g2, g2 = if S 0 6 = -1 then g1 else g1 &&& (((1 : Int32) <<< (S 0 6 &&& 31)) ^^^ (-1)) := ⟨_, rfl⟩
  have b2 : ∀ i, i < 32 → bt g2 i = (bt g1 i && !decide (S 0 6 = nI i)) := fun i hi => by
    rcases hiL.2.2.2.1 with z | ⟨s, hs, -, z⟩
    · rw [e2, if_pos z, decide_eq_false (by rw [z]; exact fun e => nI_m1 (by omega) e.symm), Bool.not_false, Bool.and_true]
    · have e3 : decide (S 0 6 = nI i) = decide (i = s) := decide_eq_decide.mpr (by rw [z]; exact ⟨fun e => (nI_inj (by omega) (by omega) e).symm, fun e => by rw [e]⟩)
      rw [e3, e2, if_neg (by rw [z]; exact nI_m1 (by omega)), b_and, notBit _ hi, z, oneBit (by omega) hi]
  have hall : fX4_allowed (nI p) S F = some (if S 0 6 = nI p ∧ S 4 2 = 1 ∧ plS S a (nI p) = -1 then g2 ||| ((1 : Int32) <<< (nI p &&& 31)) else g2) := by
    have e63 : ∀ y, fX4_allowed_63 S F (nI p) y = some (if S 0 6 = nI p ∧ S 4 2 = 1 ∧ plS S a (nI p) = -1 then y ||| ((1 : Int32) <<< (nI p &&& 31)) else y) := fun y => by
      unfold fX4_allowed_63
      rw [pl4 a4 hA, b1s, lts]
      by_cases z1 : S 0 6 = nI p
      · by_cases z2 : S 4 2 = 1
        · rcases pl_case S a4 (nI p) with ⟨z3, -⟩ | ⟨j, hj, -, z3⟩
          · rw [if_pos z1, if_pos z2, z3, if_neg m1_nle, if_pos ⟨z1, z2, rfl⟩]
          · rw [if_pos z1, if_pos z2, z3, if_pos (nI_pos' (by omega)), if_neg (fun h => nI_m1 (by omega) h.2.2)]
        · rw [if_pos z1, if_neg z2, if_neg (fun h => z2 h.2.1)]
      · rw [if_neg z1, if_neg (fun h => z1 h.1)]
    have e44 : fX4_allowed_44 S F (nI p) g1 = some (if S 0 6 = nI p ∧ S 4 2 = 1 ∧ plS S a (nI p) = -1 then g2 ||| ((1 : Int32) <<< (nI p &&& 31)) else g2) := by
      unfold fX4_allowed_44
      rw [lts, e63, e63, e2]
      by_cases z : S 0 6 = -1
      · rw [if_pos z, if_pos z]
      · rw [if_neg z, if_neg z]
    unfold fX4_allowed
    rw [show fX1_alive F = some (aliveG F) from rfl, b1s, show fX4_named S = some (nmG S a) from named_e a4 hA a 0 400 (by omega) (by omega), b1s, lts, ← e0, cks _ (vp_in_nI (show p < 10 by omega) (by decide)), nI_clamp (by omega), lts, ← e44, e1]
    by_cases z : S 4 3 = 0
    · rw [if_pos z, if_pos z]
    · rw [if_neg z, if_neg z]
  refine ⟨_, hall, fun i hi => ?_, fun i h1 h2 => ?_⟩
  · by_cases e : i = p
    · subst e
      have hb2 : bt g2 i = false := by
        rw [b2 i (by omega), b1 i (by omega), b0 i (by omega), decide_eq_true (show i = i from rfl)]
        simp
      by_cases hcnd : S 0 6 = nI i ∧ S 4 2 = 1 ∧ plS S a (nI i) = -1
      · have hd : bt (F 0 5) i = false := by
          rcases hiL.2.2.2.1 with z | ⟨s, hs, hd, z⟩
          · exact absurd (hcnd.1.symm.trans z) (nI_m1 (by omega))
          · have := nI_inj (by omega) (by omega) (hcnd.1.symm.trans z)
            rw [this]; exact hd
        rw [if_pos hcnd, b_or, hb2, oneBit (by omega) (by omega)]
        unfold mayB
        simp [hd, hcnd.1, hcnd.2.1, hcnd.2.2]
      · rw [if_neg hcnd, hb2]
        unfold mayB
        rw [if_pos rfl]
        by_cases z1 : S 0 6 = nI i
        · by_cases z2 : S 4 2 = 1
          · have z3 : ¬ plS S a (nI i) = -1 := fun z3 => hcnd ⟨z1, z2, z3⟩
            simp [z3]
          · simp [z2]
        · simp [z1]
    · have hfin : bt (if S 0 6 = nI p ∧ S 4 2 = 1 ∧ plS S a (nI p) = -1 then g2 ||| ((1 : Int32) <<< (nI p &&& 31)) else g2) i = bt g2 i := by
        by_cases hcnd : S 0 6 = nI p ∧ S 4 2 = 1 ∧ plS S a (nI p) = -1
        · rw [if_pos hcnd, b_or, oneBit (by omega) (by omega), decide_eq_false e, Bool.or_false]
        · rw [if_neg hcnd]
      rw [hfin, b2 i (by omega), b1 i (by omega), b0 i (by omega), nm_pl hn a4 hiL (by omega), decide_eq_true hi, decide_eq_false e]
      unfold mayB
      rw [if_neg (fun q => e q.symm)]
      cases bt (F 0 5) i <;> cases decide (plS S a (nI i) = -1) <;> cases decide (S 4 3 = 1) <;> cases bt (F 5 p) i <;> cases decide (S 0 6 = nI i) <;> rfl
  · have hg2 : bt g2 i = false := by rw [b2 i h2, b1 i h2, b0 i h2, decide_eq_false (show ¬ i < n by omega)]; rfl
    by_cases hcnd : S 0 6 = nI p ∧ S 4 2 = 1 ∧ plS S a (nI p) = -1
    · rw [if_pos hcnd, b_or, oneBit (by omega) h2, hg2, decide_eq_false (by omega)]; rfl
    · rw [if_neg hcnd, hg2]
theorem may34 {F C S M : ST} {n a : Nat} (h : ctx F C S M n a) {p : Nat} (hp : p < n) {g : Int32} (h1 : ∀ i, i < n → bt g i = mayB F S a p i) (h2 : ∀ i, n ≤ i → i < 32 → bt g i = false) : ∀ (r k f : Nat) (y : Int32), k + r = n → r < f → (∀ i, i < 32 → bt y i = (decide (i < k) && bt g i)) → fX8_may_34 f (nI p) y (nI k) M = some (g, M) := by
  have h' := h
  obtain ⟨hn, hF, a1, a4, hA, hc, -⟩ := h'
  have hM : M 1 0 = nI n := hc.1.1.trans hF
  intro r
  induction r with
  | zero =>
    intro k f y hk hf hy
    obtain ⟨f, rfl⟩ : ∃ f', f = f' + 1 := ⟨f - 1, by omega⟩
    show fX8_may_34_s (fX8_may_34 f) _ _ _ _ = _
    unfold fX8_may_34_s
    rw [hM, if_pos (nI_le (by omega) (by omega))]
    have : y = g := b_ext (fun i hi => by
      rw [hy i hi]
      by_cases e : i < n
      · rw [decide_eq_true (by omega)]; rfl
      · rw [h2 i (by omega) hi, Bool.and_false])
    rw [this]
  | succ r ih =>
    intro k f y hk hf hy
    obtain ⟨f, rfl⟩ : ∃ f', f = f' + 1 := ⟨f - 1, by omega⟩
    show fX8_may_34_s (fX8_may_34 f) _ _ _ _ = _
    unfold fX8_may_34_s
    rw [hM, if_neg (nI_ge (by omega) (by omega)), may8 h (by omega) (by omega), b1s, lts, lts, lts, lts, nI_1, ← h1 k (by omega)]
    cases hb : bt g k
    · rw [if_pos (show (if false = true then (1 : Int32) else 0) = 0 by decide)]
      refine ih (k + 1) f _ (by omega) (by omega) (fun i hi => ?_)
      rw [b_or, b_0, Bool.or_false, hy i hi]
      by_cases e : i = k
      · rw [e, hb, Bool.and_false, Bool.and_false]
      · rw [decide_eq_decide.mpr (show i < k ↔ i < k + 1 by omega)]
    · rw [if_neg (show ¬ (if true = true then (1 : Int32) else 0) = 0 by decide)]
      refine ih (k + 1) f _ (by omega) (by omega) (fun i hi => ?_)
      rw [b_or, hy i hi, oneBit (by omega) hi]
      by_cases e : i = k
      · rw [e, hb, decide_eq_true (show k = k from rfl), decide_eq_true (show k < k + 1 by omega), Bool.or_true]; rfl
      · rw [decide_eq_false e, Bool.or_false, decide_eq_decide.mpr (show i < k ↔ i < k + 1 by omega)]
theorem P_may_ok : P_may RR := by
  intro x1 Ma Fo Sc Se Tr Ch Us Ta Dr G0 N0 G1 N1 G2 N2 G3 N3 Fo2 Sc2 Se2 Tr2 Fo3 Sc3 Se3 Tr3 M N hR
  obtain ⟨n, a, h⟩ := ctx_of hR.1.1 hR.1.2.1
  have h' := h
  obtain ⟨hn, hF, a1, a4, hA, hc, -⟩ := h'
  unfold fX7_may fX8_may
  rw [isOne_e hn hF, isP_e (hc.1.1.trans hF), b1s, b1s]
  by_cases hx : x1 < 0 ∨ nI n ≤ x1
  · rw [if_pos hx, i00, i00, fd7_0, fd8_0, b2s, b2s]
    exact ⟨_, _, _, rfl, rfl, RR_f hR 0 (by decide)⟩
  rw [if_neg hx, i10, i10]
  obtain ⟨p, hp, rfl⟩ := in_n hn hx
  rw [isAl1 hn hF hp, isAl8 hc (by omega), b1s, b1s]
  cases hd : bt (Fo 0 5) p
  · rw [if_neg (show ¬ false = true by decide), i10, i10]
    obtain ⟨g, e, g1, g2⟩ := allow4 h hp
    rw [e, b1s, show (0 : Int32) = nI 0 from rfl, may34 h hp g1 g2 n 0 400 (nI 0) (by omega) (by omega) (fun i hi => by rw [show nI 0 = 0 from rfl, b_0, decide_eq_false (show ¬ i < 0 by omega), Bool.false_and])]
    exact ⟨_, _, _, rfl, rfl, hR⟩
  · rw [if_pos rfl, i00, i00, fd7_4, fd8_4, b2s, b2s]
    exact ⟨_, _, _, rfl, rfl, RR_f hR 4 (by decide)⟩
/-- the first that isn't -1 -/
def fnc (f : Nat → Int32) : Nat → Nat → Int32
  | 0, _ => -1
  | r + 1, k => if f k = -1 then fnc f r (k + 1) else f k
theorem fnc4 {S : ST} {a : Nat} (ha : a ≤ 4) (hA : S 4 0 = nI a) : ∀ (r k n : Nat), k + r = a → r < n → fX4_firstNamed_2 S n (nI k) = some (fnc (S 5) r k) := by
  intro r
  induction r with
  | zero =>
    intro k n hk hn
    obtain ⟨n, rfl⟩ : ∃ n', n = n' + 1 := ⟨n - 1, by omega⟩
    show fX4_firstNamed_2_s S (fX4_firstNamed_2 S n) (nI k) = _
    unfold fX4_firstNamed_2_s
    rw [hA, if_pos (nI_le (by omega) (by omega))]
    rfl
  | succ r ih =>
    intro k n hk hn
    obtain ⟨n, rfl⟩ : ∃ n', n = n' + 1 := ⟨n - 1, by omega⟩
    show fX4_firstNamed_2_s S (fX4_firstNamed_2 S n) (nI k) = _
    unfold fX4_firstNamed_2_s
    rw [hA, if_neg (nI_ge (by omega) (by omega)), cks _ (vp_in_nI (by omega) (by decide)), cks _ (vp_in_nI (by omega) (by decide)), nI_clamp (by omega), lts, nI_1, ih (k + 1) n (by omega) (by omega)]
    show _ = some (if S 5 k = -1 then fnc (S 5) r (k + 1) else S 5 k)
    by_cases h : S 5 k = -1
    · rw [if_pos h, if_pos h]
    · rw [if_neg h, if_neg h]
theorem fnc8 {F C S M : ST} {n a : Nat} (h : ctx F C S M n a) : ∀ (r k f : Nat), k + r = a → r < f → fX8_firstNamed_2 M f (nI k) = some (fnc (S 5) r k) := by
  obtain ⟨hn, hF, a1, a4, hA, hc, hiF, hiR, hiL, hiC⟩ := h
  have hA8 : M 1 4 = nI a := (hc.2.1 0 (by decide)).trans hA
  intro r
  induction r with
  | zero =>
    intro k f hk hf
    obtain ⟨f, rfl⟩ : ∃ n', f = n' + 1 := ⟨f - 1, by omega⟩
    show fX8_firstNamed_2_s M (fX8_firstNamed_2 M f) (nI k) = _
    unfold fX8_firstNamed_2_s
    rw [hA8, if_pos (nI_le (by omega) (by omega))]
    rfl
  | succ r ih =>
    intro k f hk hf
    obtain ⟨f, rfl⟩ : ∃ n', f = n' + 1 := ⟨f - 1, by omega⟩
    show fX8_firstNamed_2_s M (fX8_firstNamed_2 M f) (nI k) = _
    unfold fX8_firstNamed_2_s
    have e : 10 + nI k = nI (10 + k) := by rw [show (10 : Int32) = nI 10 from rfl, nI_add]
    rw [hA8, if_neg (nI_ge (by omega) (by omega)), e, cks _ (vp_in_nI (by omega) (by decide)), cks _ (vp_in_nI (by omega) (by decide)), nI_clamp (by omega), lts, nI_1, ih (k + 1) f (by omega) (by omega), hc.2.2.1 k (by omega)]
    show _ = some (if S 5 k = -1 then fnc (S 5) r (k + 1) else S 5 k)
    rcases line_p hn hiL k (by omega) with z | ⟨p, hp, z⟩
    · rw [z, if_pos m1_lt, if_pos rfl]
    · rw [z, if_neg (nI_pos (by omega)), if_neg (nI_m1 (by omega))]
def fnS (S : ST) (a : Nat) : Int32 := fnc (S 5) a 0
theorem fn4 {F C S M : ST} {n a : Nat} (h : ctx F C S M n a) : fX4_firstNamed S = some (fnS S a) := fnc4 h.2.2.2.1 h.2.2.2.2.1 a 0 400 (by omega) (by have := h.2.2.2.1; omega)
theorem fn8 {F C S M : ST} {n a : Nat} (h : ctx F C S M n a) : fX8_firstNamed M = some (fnS S a) := fnc8 h a 0 400 (by omega) (by have := h.2.2.2.1; omega)
theorem fnc_case {P : Int32 → Prop} (f : Nat → Int32) : ∀ (r k : Nat), (∀ j, k ≤ j → j < k + r → f j = -1 ∨ P (f j)) → fnc f r k = -1 ∨ P (fnc f r k) := by
  intro r
  induction r with
  | zero => intro k _; exact Or.inl rfl
  | succ r ih =>
    intro k h
    unfold fnc
    by_cases e : f k = -1
    · rw [if_pos e]; exact ih (k + 1) (fun j h1 h2 => h j (by omega) (by omega))
    · rw [if_neg e]
      rcases h k (by omega) (by omega) with z | z
      · exact absurd z e
      · exact Or.inr z
theorem fn_case {F C S M : ST} {n a : Nat} (h : ctx F C S M n a) : fnS S a = -1 ∨ ∃ q : Nat, q < n ∧ fnS S a = nI q := by
  obtain ⟨hn, hF, a1, a4, hA, hc, hiF, hiR, hiL, hiC⟩ := h
  refine fnc_case (P := fun x => ∃ q : Nat, q < n ∧ x = nI q) (S 5) a 0 (fun j _ hj => ?_)
  rcases hiL.1 j (by omega) with z | ⟨q, hq, -, z⟩
  · exact Or.inl z
  · exact Or.inr ⟨q, hq, z⟩
