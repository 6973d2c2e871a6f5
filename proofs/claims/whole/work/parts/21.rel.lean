-- THE RELATION between the class's states and the reference's
def okc (c : Int32) : Prop := (∃ v : Nat, v ≤ 9999 ∧ c = nI v) ∨ c = -109 ∨ c = -98 ∨ c = -116 ∨ c = -120 ∨ c = -115 ∨ c = -111 ∨ c = -34 ∨ c = -127 ∨ c = -125 ∨ c = -39 ∨ c = -61 ∨ c = -62 ∨ c = -63 ∨ c = -44 ∨ c = -46 ∨ c = -43 ∨ c = -48 ∨ c = -38
/-- 0 an operand, 1 a sign ahead of one, 2 a sign between two -/
def opk (c : Int32) : Nat := if 0 ≤ c then 0 else if c = -109 ∨ c = -98 ∨ c = -116 ∨ c = -120 ∨ c = -115 ∨ c = -111 then 0 else if c = -34 ∨ c = -127 then 1 else 2
/-- the class's code of a step as the reference's -/
def enS (c : Int32) : Int32 := if 0 ≤ c then c else if c = -109 then -10 else if c = -98 then -11 else if c = -116 then -12 else if c = -120 then -13 else if c = -115 then -14 else if c = -111 then -15 else if c = -34 then -20 else if c = -127 then -21 else 10000 + (-1 - c)
/-- how many lie on the stack behind k steps -/
def dpt (f : Nat → Int32) : Nat → Nat
  | 0 => 0
  | k + 1 => if opk (f k) = 0 then dpt f k + 1 else if opk (f k) = 1 then dpt f k else dpt f k - 1
def okT (f : Nat → Int32) (L : Nat) : Prop := (∀ k, k < L → okc (f k) ∧ opk (f k) ≤ dpt f k ∧ dpt f k < 80) ∧ (0 < L → dpt f L = 1)
def iC (C : ST) : Prop := ∃ L : Nat, L ≤ 80 ∧ C 0 2 = nI L ∧ okT (C 1) L
def iF (F : ST) (n : Nat) : Prop := (∀ p, p < 10 → (∃ k : Nat, k ≤ 6 ∧ F 2 p = nI k) ∧ (∃ a : Nat, a ≤ 99 ∧ F 3 p = nI a) ∧ (∃ t : Nat, t < 4 ∧ F 4 p = nI t)) ∧ (∀ p, n ≤ p → p < 32 → bt (F 0 5) p = false) ∧ (∀ p, n ≤ p → p < 10 → F 5 p = 0) ∧ (∀ p q, p < 10 → q < 10 → (n ≤ p ∨ n ≤ q ∨ p = q) → F 7 (10 * p + q) = 0)
def iR (S : ST) : Prop := (∃ a : Nat, 1 ≤ a ∧ a ≤ 4 ∧ S 4 0 = nI a) ∧ (∃ t : Nat, 1 ≤ t ∧ t ≤ 40 ∧ S 4 1 = nI t) ∧ (S 4 2 = 0 ∨ S 4 2 = 1) ∧ (S 4 3 = 0 ∨ S 4 3 = 1) ∧ (S 4 4 = 0 ∨ S 4 4 = 1 ∨ S 4 4 = 2) ∧ (∃ d : Nat, d ≤ 20 ∧ S 4 5 = nI d)
def iL (F S : ST) (n : Nat) : Prop := (∀ k, k < 4 → S 5 k = -1 ∨ ∃ q : Nat, q < n ∧ bt (F 0 5) q = false ∧ S 5 k = nI q) ∧ (∀ k, k < 4 → S 4 0 ≤ nI k → S 5 k = -1) ∧ (∀ k l, k < 4 → l < 4 → k ≠ l → S 5 k = S 5 l → S 5 k = -1) ∧ (S 0 6 = -1 ∨ ∃ q : Nat, q < n ∧ bt (F 0 5) q = false ∧ S 0 6 = nI q) ∧ (∀ p, n ≤ p → p < 10 → S 6 p = 0)
def inv (F C S : ST) : Prop := ∃ n : Nat, n ≤ 10 ∧ F 0 0 = nI n ∧ iF F n ∧ iR S ∧ iL F S n ∧ iC C
def core (F C S : ST) (m : Nat → Int32) : Prop :=
  (m 0 = F 0 0 ∧ m 1 = S 0 6 ∧ m 2 = S 0 7 ∧ m 3 = F 0 8) ∧ (∀ j, j < 6 → m (4 + j) = S 4 j) ∧ (∀ k, k < 4 → m (10 + k) = S 5 k) ∧
  (∀ p, p < 10 → m (14 + 6 * p) = F 2 p ∧ m (14 + 6 * p + 1) = F 3 p ∧ m (14 + 6 * p + 2) = F 4 p ∧ m (14 + 6 * p + 3) = F 5 p ∧ m (14 + 6 * p + 4) = S 6 p ∧ m (14 + 6 * p + 5) = if bt (F 0 5) p then 1 else 0) ∧
  (∀ j, j < 100 → m (74 + j) = F 7 j) ∧ (∀ j, j < 16 → m (174 + j) = F 8 j) ∧ m 190 = C 0 2 ∧ (∀ k, k < 80 → nI k < C 0 2 → m (191 + k) = enS (C 1 k))
def rCore (F C S : ST) (m : Nat → Int32) (w1 w2 fl : Int32) : Prop := core F C S m ∧ inv F C S ∧ S 0 8 = -1 ∧ S 0 9 = -1 ∧ w1 = -1 ∧ w2 = -1 ∧ fl = 0
def rKept (k : Int32) (F C S : ST) (q : Int32) (m : Nat → Int32) : Prop := q = k ∧ (k = 0 ∨ (k = 1 ∧ core F C S m ∧ inv F C S))
def rFind (f g : Nat → Int32) : Prop := (∀ j, j < 7 → g (j + 1) = f j) ∧ g 0 = f 0 + f 1 + f 2 + f 3 + f 4 + f 5 + f 6
def rTape (T : ST) (t : Int32) (g : Nat → Int32) : Prop := T 0 2 = t ∧ ∃ n : Nat, n ≤ 80 ∧ t = nI n ∧ ∀ k, k < n → g k = T 1 k ∧ ∃ v : Nat, v < 256 ∧ g k = nI v
def rSh (G : ST) (N : LT) (b l : Int32) (A : LT) (t : Nat) : Prop := ((G 0 0 = 0 ∧ b = -1) ∨ ((G 0 0 = 8 ∨ G 0 0 = 16 ∨ G 0 0 = 64) ∧ b = G 0 0)) ∧ (∃ n : Nat, n ≤ 40 ∧ G 0 1 = nI n) ∧ l = G 0 1 ∧ ∀ i, i < 40 → A (40 * t + i) = N i
def RR (Ma Fo Sc Se Tr Ch Us Ta Dr G0 : ST) (N0 : LT) (G1 : ST) (N1 : LT) (G2 : ST) (N2 : LT) (G3 : ST) (N3 : LT) (Fo2 Sc2 Se2 Tr2 Fo3 Sc3 Se3 Tr3 M : ST) (N : LT) : Prop :=
  rCore Fo Sc Se (M 1) (M 0 9) (M 0 10) (M 0 12) ∧ rKept (Ma 0 7) Fo2 Sc2 Se2 (M 0 2) (M 2) ∧ rFind (Ma 7) (M 4) ∧ rTape Ta (M 0 5) (M 5) ∧ rSh G0 N0 (M 7 0) (M 8 0) N 0 ∧ rSh G1 N1 (M 7 1) (M 8 1) N 1 ∧ rSh G2 N2 (M 7 2) (M 8 2) N 2 ∧ rSh G3 N3 (M 7 3) (M 8 3) N 3
-- rows that unfold the decompiled functions
theorem b1s {α β : Type} (a : α) (k : α → Option β) : dc_b1 (some a) k = k a := rfl
theorem b2s {α γ β : Type} (a : α) (b : γ) (k : α → γ → Option β) : dc_b2 (some (a, b)) k = k a b := rfl
theorem b3s {α γ δ β : Type} (a : α) (b : γ) (c : δ) (k : α → γ → δ → Option β) : dc_b3 (some (a, b, c)) k = k a b c := rfl
theorem b4s {α γ δ ε β : Type} (a : α) (b : γ) (c : δ) (d : ε) (k : α → γ → δ → ε → Option β) : dc_b4 (some (a, b, c, d)) k = k a b c d := rfl
theorem lts {α β : Type} (a : α) (k : α → Option β) : dc_lt a k = k a := rfl
theorem cks {β : Type} {i : Int32} {n : Nat} (k : Option β) (h : vp_in i n) : dc_ck i n k = k := if_neg h
theorem bl0 {β : Type} (k : Option β) : dc_bl 0 k = k := rfl
theorem bl1 {β : Type} (k : Option β) : dc_bl 1 k = k := rfl
theorem bli {β : Type} (c : Prop) [Decidable c] (k : Option β) : dc_bl (if c then 0 else 1) k = k := by by_cases h : c <;> simp [h, bl0, bl1]
theorem if01 (c : Prop) [Decidable c] : ((if c then (0 : Int32) else 1) = 0) ↔ c := by by_cases h : c <;> simp [h]
theorem if10 (c : Prop) [Decidable c] : ((if c then (1 : Int32) else 0) = 0) ↔ ¬ c := by by_cases h : c <;> simp [h]
theorem within_e (x a b : Int32) : fX7_within x a b = some (if x < a ∨ b < x then 0 else 1) := by
  unfold fX7_within
  by_cases h1 : x < a
  · simp [h1]
  · by_cases h2 : b < x <;> simp [h1, h2]
theorem isIn8_e (x a b : Int32) {A B : Int64} (ha : A = a.toInt64) (hb : B = b.toInt64) : fX8_isIn x.toInt64 A B = some (if x < a ∨ b < x then 0 else 1) := by
  subst ha; subst hb
  unfold fX8_isIn
  have e1 : (lg_cmp x.toInt64 a.toInt64 < 0) ↔ x < a := (lg_cmp_lt _ _).trans (fa_wide_lt x a)
  have e2 : (0 < lg_cmp x.toInt64 b.toInt64) ↔ b < x := (lg_cmp_gt _ _).trans (fa_wide_lt b x)
  by_cases h1 : x < a
  · rw [if_pos (e1.mpr h1), if_pos (Or.inl h1)]
  · rw [if_neg (fun h => h1 (e1.mp h))]
    by_cases h2 : b < x
    · rw [if_pos (e2.mpr h2), if_pos (Or.inr h2)]
    · rw [if_neg (fun h => h2 (e2.mp h)), if_neg (fun h => h.elim h1 h2)]
