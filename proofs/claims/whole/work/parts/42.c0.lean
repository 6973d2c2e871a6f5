-- the chair: frames, sorts
def fr1 (C M C' M' : ST) : Prop := (∀ b, b ≠ 2 → C' b = C b) ∧ (∀ b, b ≠ 26 → M' b = M b)
def fr2 (C M C' M' : ST) : Prop := (∀ b, b ≠ 2 → C' b = C b) ∧ (∀ b, b ≠ 12 → b ≠ 26 → M' b = M b)
theorem fr1_r (C M : ST) : fr1 C M C M := ⟨fun _ _ => rfl, fun _ _ => rfl⟩
theorem fr2_r (C M : ST) : fr2 C M C M := ⟨fun _ _ => rfl, fun _ _ _ => rfl⟩
theorem fr1_1 {C M C' M' : ST} (h : fr1 C M C' M') : M' 1 = M 1 := h.2 1 (by decide)
theorem fr2_1 {C M C' M' : ST} (h : fr2 C M C' M') : M' 1 = M 1 := h.2 1 (by decide) (by decide)
theorem fr1_0 {C M C' M' : ST} (h : fr1 C M C' M') : M' 0 = M 0 := h.2 0 (by decide)
theorem fr2_0 {C M C' M' : ST} (h : fr2 C M C' M') : M' 0 = M 0 := h.2 0 (by decide) (by decide)
theorem fr1_g {C M Ck Mk C' M' : ST} (h : fr1 C M Ck Mk) (h1 : ∀ b, b ≠ 2 → C' b = Ck b) (h2 : ∀ b, b ≠ 26 → M' b = Mk b) : fr1 C M C' M' := ⟨fun b hb => (h1 b hb).trans (h.1 b hb), fun b hb => (h2 b hb).trans (h.2 b hb)⟩
theorem fr2_g {C M Ck Mk C' M' : ST} (h : fr2 C M Ck Mk) (h1 : ∀ b, b ≠ 2 → C' b = Ck b) (h2 : ∀ b, b ≠ 26 → M' b = Mk b) : fr2 C M C' M' := ⟨fun b hb => (h1 b hb).trans (h.1 b hb), fun b hb hc => (h2 b hc).trans (h.2 b hb hc)⟩
def selB (F : ST) (w : Int32) (p k : Nat) : Bool := !decide (w = 4) || decide (F 4 k = F 4 p)
theorem ofSort_l {F : ST} {n : Nat} (hn : n ≤ 10) (hF : F 0 0 = nI n) (x : Int32) : ∀ (r k f : Nat) (y : Int32), k + r = n → r < f → (∀ i, i < 32 → bt y i = (decide (i < k) && decide (F 4 i = x))) → ∃ g, fX1_ofSort_4 F f x y (nI k) = some g ∧ ∀ i, i < 32 → bt g i = (decide (i < n) && decide (F 4 i = x)) := by
  intro r
  induction r with
  | zero =>
    intro k f y hk hf hy
    obtain ⟨f, rfl⟩ : ∃ f', f = f' + 1 := ⟨f - 1, by omega⟩
    refine ⟨y, ?_, fun i hi => by rw [hy i hi, show k = n by omega]⟩
    show fX1_ofSort_4_s F (fX1_ofSort_4 F f) _ _ _ = _
    unfold fX1_ofSort_4_s
    rw [hF, if_pos (nI_le (by omega) (by omega))]
  | succ r ih =>
    intro k f y hk hf hy
    obtain ⟨f, rfl⟩ : ∃ f', f = f' + 1 := ⟨f - 1, by omega⟩
    have E : fX1_ofSort_4 F (f + 1) x y (nI k) = fX1_ofSort_4_s F (fX1_ofSort_4 F f) x y (nI k) := rfl
    rw [E]
    unfold fX1_ofSort_4_s
    rw [hF, if_neg (nI_ge (by omega) (by omega)), cks _ (vp_in_nI (by omega) (by decide)), nI_clamp (by omega), lts, lts, lts, nI_1]
    by_cases e : F 4 k = x
    · rw [if_pos e]
      refine ih (k + 1) f _ (by omega) (by omega) (fun i hi => ?_)
      rw [b_or, hy i hi, oneBit (by omega) hi]
      by_cases q : i = k
      · rw [q, decide_eq_true e, decide_eq_true (show k = k from rfl), decide_eq_true (show k < k + 1 by omega), Bool.or_true]; rfl
      · rw [decide_eq_false q, Bool.or_false, decide_eq_decide.mpr (show i < k ↔ i < k + 1 by omega)]
    · rw [if_neg e]
      refine ih (k + 1) f _ (by omega) (by omega) (fun i hi => ?_)
      rw [hy i hi]
      by_cases q : i = k
      · rw [q, decide_eq_false e, Bool.and_false, Bool.and_false]
      · rw [decide_eq_decide.mpr (show i < k ↔ i < k + 1 by omega)]
theorem ofSort_e {F : ST} {n : Nat} (hn : n ≤ 10) (hF : F 0 0 = nI n) (x : Int32) : ∃ g, fX1_ofSort x F = some g ∧ ∀ i, i < 32 → bt g i = (decide (i < n) && decide (F 4 i = x)) := ofSort_l hn hF x n 0 400 0 (by omega) (by omega) (fun i hi => by rw [b_0, decide_eq_false (show ¬ i < 0 by omega), Bool.false_and])
theorem if10t : (if true = true then (1 : Int32) else 0) = 1 := rfl
theorem if10f : (if false = true then (1 : Int32) else 0) = 0 := rfl
/-- whom one would name is nobody, or one whom one may -/
def okz (F S : ST) (n a p : Nat) (z : Int32) : Prop := z = -1 ∨ ∃ j, j < n ∧ mayB F S a p j = true ∧ z = nI j
