-- primitive readings, on both sides
theorem bt_1 : ∀ i, i < 32 → bt 1 i = decide (i = 0) := by decide +kernel
theorem and1 (y : Int32) : y &&& 1 = if bt y 0 then 1 else 0 := by
  apply b_ext
  intro i hi
  rw [b_and, bt_1 i hi]
  by_cases h : i = 0
  · subst h
    cases hb : bt y 0
    · simp [b_0]
    · simp [bt_1 0 (by decide)]
  · cases hb : bt y 0
    · simp [b_0, h]
    · simp [bt_1 i hi, h]
theorem shr0 (g : Int32) {p : Nat} (hp : p < 32) : bt (g >>> (nI p &&& 31)) 0 = bt g p := by
  rw [b_sshr p hp g (by decide), if_pos (by omega)]
  rfl
theorem bitAt (g : Int32) {p : Nat} (hp : p < 32) : (g >>> (nI p &&& 31)) &&& 1 = if bt g p then 1 else 0 := by rw [and1, shr0 g hp]
theorem isIn7_e (g : Int32) {p : Nat} (hp : p < 10) : fX7_isIn g (nI p) = some (if bt g p then 1 else 0) := by
  unfold fX7_isIn
  rw [if_neg (nI_pos (by omega)), if_neg (show ¬ (10 : Int32) ≤ nI p from nI_ge (a := p) (b := 10) hp (by decide)), bitAt g (by omega)]
  cases bt g p <;> rfl
theorem isIn7_m1 (g : Int32) : fX7_isIn g (-1) = some 0 := rfl
theorem lowBits : ∀ n, n ≤ 10 → ∀ i, i < 32 → bt (((1 : Int32) <<< (nI n &&& 31)) - 1) i = decide (i < n) := by decide +kernel
theorem oneBit {p : Nat} (hp : p < 32) {i : Nat} (hi : i < 32) : bt ((1 : Int32) <<< (nI p &&& 31)) i = decide (i = p) := by
  rw [b_shl p hp 1 hi]
  by_cases h : p ≤ i
  · rw [bt_1 (i - p) (by omega)]
    by_cases e : i = p
    · subst e; simp
    · simp [h, e]; omega
  · simp [h]; omega
theorem notBit (x : Int32) {i : Nat} (hi : i < 32) : bt (x ^^^ (-1)) i = !bt x i := by rw [b_xor, b_m1 i hi]; simp
def aliveG (F : ST) : Int32 := (((1 : Int32) <<< ((F 0 0) &&& 31)) - 1) &&& ((F 0 5) ^^^ (-1))
theorem alive_b {F : ST} {n : Nat} (hn : n ≤ 10) (hF : F 0 0 = nI n) {i : Nat} (hi : i < 32) : bt (aliveG F) i = (decide (i < n) && !bt (F 0 5) i) := by
  unfold aliveG
  rw [hF, b_and, lowBits n hn i hi, notBit _ hi]
theorem isAl1 {F : ST} {n p : Nat} (hn : n ≤ 10) (hF : F 0 0 = nI n) (hp : p < n) : fX1_isAlive (nI p) F = some (if bt (F 0 5) p then 0 else 1) := by
  unfold fX1_isAlive fX1_alive
  rw [b1s]
  show dc_b1 (fX7_isIn (aliveG F) (nI p)) _ = _
  rw [isIn7_e _ (by omega), b1s, alive_b hn hF (by omega)]
  cases bt (F 0 5) p <;> simp [hp, bl0, bl1]
theorem isAl1_m1 {F : ST} : fX1_isAlive (-1) F = some 0 := rfl
theorem has0_e {M : ST} {p i : Nat} (hp : p < 10) (hi : i < 6) : fX8_has0 (nI p) (nI i) M = some (M 1 (14 + 6 * p + i)) := by
  unfold fX8_has0
  have e : (14 + 6 * nI p) + nI i = nI (14 + 6 * p + i) := by rw [show (6 : Int32) = nI 6 from rfl, show (14 : Int32) = nI 14 from rfl, pk_mul, nI_add, nI_add]
  rw [e, cks _ (vp_in_nI (by omega) (by decide)), nI_clamp (by omega)]
theorem has0_0 {M : ST} {p : Nat} (hp : p < 10) : fX8_has0 (nI p) 0 M = some (M 1 (14 + 6 * p)) := has0_e (i := 0) hp (by decide)
theorem has0_1 {M : ST} {p : Nat} (hp : p < 10) : fX8_has0 (nI p) 1 M = some (M 1 (14 + 6 * p + 1)) := has0_e (i := 1) hp (by decide)
theorem has0_2 {M : ST} {p : Nat} (hp : p < 10) : fX8_has0 (nI p) 2 M = some (M 1 (14 + 6 * p + 2)) := has0_e (i := 2) hp (by decide)
theorem has0_3 {M : ST} {p : Nat} (hp : p < 10) : fX8_has0 (nI p) 3 M = some (M 1 (14 + 6 * p + 3)) := has0_e (i := 3) hp (by decide)
theorem has0_4 {M : ST} {p : Nat} (hp : p < 10) : fX8_has0 (nI p) 4 M = some (M 1 (14 + 6 * p + 4)) := has0_e (i := 4) hp (by decide)
theorem has0_5 {M : ST} {p : Nat} (hp : p < 10) : fX8_has0 (nI p) 5 M = some (M 1 (14 + 6 * p + 5)) := has0_e (i := 5) hp (by decide)
theorem isAl8 {F C S M : ST} (hc : core F C S (M 1)) {p : Nat} (hp : p < 10) : fX8_isAlive (nI p) M = some (if bt (F 0 5) p then 0 else 1) := by
  unfold fX8_isAlive
  rw [has0_5 hp, b1s, (hc.2.2.2.1 p hp).2.2.2.2.2]
  cases bt (F 0 5) p <;> rfl
theorem lik8 {M : ST} {p q : Nat} (hp : p < 10) (hq : q < 10) : fX8_likesOf (nI p) (nI q) M = some (M 1 (74 + (10 * p + q))) := by
  unfold fX8_likesOf
  have e : (74 + 10 * nI p) + nI q = nI (74 + (10 * p + q)) := by rw [show (10 : Int32) = nI 10 from rfl, show (74 : Int32) = nI 74 from rfl, pk_mul, nI_add, nI_add, Nat.add_assoc]
  rw [e, cks _ (vp_in_nI (by omega) (by decide)), nI_clamp (by omega)]
theorem wor8 {M : ST} {a b : Nat} (ha : a < 4) (hb : b < 4) : fX8_worthOf (nI a) (nI b) M = some (M 1 (174 + (4 * a + b))) := by
  unfold fX8_worthOf
  have e : (174 + 4 * nI a) + nI b = nI (174 + (4 * a + b)) := by rw [show (4 : Int32) = nI 4 from rfl, show (174 : Int32) = nI 174 from rfl, pk_mul, nI_add, nI_add, Nat.add_assoc]
  rw [e, cks _ (vp_in_nI (by omega) (by decide)), nI_clamp (by omega)]
theorem wor1 {F : ST} {p b t : Nat} (hp : p < 10) (hb : b < 4) (ht : t < 4) (hs : F 4 p = nI t) : fX1_worthOf (nI p) (nI b) F = some (F 8 (4 * t + b)) := by
  unfold fX1_worthOf
  rw [cks _ (vp_in_nI hp (by decide)), nI_clamp (by omega), hs]
  have e : nI t * 4 + nI b = nI (4 * t + b) := by rw [show (4 : Int32) = nI 4 from rfl, pk_mul, nI_add, Nat.mul_comm]
  rw [e, cks _ (vp_in_nI (by omega) (by decide)), nI_clamp (by omega)]
/-- the first place of the line, below a, with a value -/
def plc (f : Nat → Int32) (x : Int32) : Nat → Nat → Int32
  | 0, _ => -1
  | r + 1, k => if f k = x then nI k else plc f x r (k + 1)
theorem plc4 {S : ST} {a : Nat} (ha : a ≤ 4) (hA : S 4 0 = nI a) (x : Int32) : ∀ (r k n : Nat), k + r = a → r < n → fX4_placeOf_2 S n x (nI k) = some (plc (S 5) x r k) := by
  intro r
  induction r with
  | zero =>
    intro k n hk hn
    obtain ⟨n, rfl⟩ : ∃ n', n = n' + 1 := ⟨n - 1, by omega⟩
    show fX4_placeOf_2_s S (fX4_placeOf_2 S n) x (nI k) = _
    unfold fX4_placeOf_2_s
    rw [hA, if_pos (nI_le (by omega) (by omega))]
    rfl
  | succ r ih =>
    intro k n hk hn
    obtain ⟨n, rfl⟩ : ∃ n', n = n' + 1 := ⟨n - 1, by omega⟩
    show fX4_placeOf_2_s S (fX4_placeOf_2 S n) x (nI k) = _
    unfold fX4_placeOf_2_s
    rw [hA, if_neg (nI_ge (by omega) (by omega)), cks _ (vp_in_nI (by omega) (by decide)), nI_clamp (by omega), lts, nI_1, ih (k + 1) n (by omega) (by omega)]
    show _ = some (if S 5 k = x then nI k else plc (S 5) x r (k + 1))
    by_cases h : S 5 k = x
    · rw [if_pos h, if_pos h]
    · rw [if_neg h, if_neg h]
theorem plc8 {M : ST} {a : Nat} (ha : a ≤ 4) (hA : M 1 4 = nI a) (x : Int32) : ∀ (r k n : Nat), k + r = a → r < n → fX8_placeOf_2 M n x (nI k) = some (plc (fun j => M 1 (10 + j)) x r k) := by
  intro r
  induction r with
  | zero =>
    intro k n hk hn
    obtain ⟨n, rfl⟩ : ∃ n', n = n' + 1 := ⟨n - 1, by omega⟩
    show fX8_placeOf_2_s M (fX8_placeOf_2 M n) x (nI k) = _
    unfold fX8_placeOf_2_s
    rw [hA, if_pos (nI_le (by omega) (by omega))]
    rfl
  | succ r ih =>
    intro k n hk hn
    obtain ⟨n, rfl⟩ : ∃ n', n = n' + 1 := ⟨n - 1, by omega⟩
    show fX8_placeOf_2_s M (fX8_placeOf_2 M n) x (nI k) = _
    unfold fX8_placeOf_2_s
    have e : 10 + nI k = nI (10 + k) := by rw [show (10 : Int32) = nI 10 from rfl, nI_add]
    rw [hA, if_neg (nI_ge (by omega) (by omega)), e, cks _ (vp_in_nI (by omega) (by decide)), nI_clamp (by omega), lts, nI_1, ih (k + 1) n (by omega) (by omega)]
    show _ = some (if M 1 (10 + k) = x then nI k else plc (fun j => M 1 (10 + j)) x r (k + 1))
    by_cases h : M 1 (10 + k) = x
    · rw [if_pos h, if_pos h]
    · rw [if_neg h, if_neg h]
theorem plc_cong {f g : Nat → Int32} (x : Int32) : ∀ (r k : Nat), (∀ j, k ≤ j → j < k + r → f j = g j) → plc f x r k = plc g x r k := by
  intro r
  induction r with
  | zero => intro k _; rfl
  | succ r ih =>
    intro k h
    unfold plc
    rw [h k (by omega) (by omega), ih (k + 1) (fun j h1 h2 => h j (by omega) (by omega))]
/-- the place of one in the line -/
def plS (S : ST) (a : Nat) (x : Int32) : Int32 := plc (S 5) x a 0
theorem pl4 {S : ST} {a : Nat} (ha : a ≤ 4) (hA : S 4 0 = nI a) (x : Int32) : fX4_placeOf x S = some (plS S a x) := plc4 ha hA x a 0 400 (by omega) (by omega)
theorem pl8 {F C S M : ST} (hc : core F C S (M 1)) {a : Nat} (ha : a ≤ 4) (hA : S 4 0 = nI a) (x : Int32) : fX8_placeOf x M = some (plS S a x) := by
  have hA8 : M 1 4 = nI a := (hc.2.1 0 (by decide)).trans hA
  have h := plc8 (M := M) ha hA8 x a 0 400 (by omega) (by omega)
  rw [plc_cong (g := S 5) x a 0 (fun j _ hj => hc.2.2.1 j (by omega))] at h
  exact h
theorem plc_spec (f : Nat → Int32) (x : Int32) : ∀ (r k : Nat), k + r < 2 ^ 31 → (plc f x r k = -1 ∧ ∀ j, k ≤ j → j < k + r → f j ≠ x) ∨ ∃ j, k ≤ j ∧ j < k + r ∧ f j = x ∧ plc f x r k = nI j := by
  intro r
  induction r with
  | zero => intro k _; exact Or.inl ⟨rfl, fun j h1 h2 => by omega⟩
  | succ r ih =>
    intro k hk
    unfold plc
    by_cases h : f k = x
    · exact Or.inr ⟨k, by omega, by omega, h, if_pos h⟩
    · rw [if_neg h]
      rcases ih (k + 1) (by omega) with ⟨h1, h2⟩ | ⟨j, h1, h2, h3, h4⟩
      · refine Or.inl ⟨h1, fun j j1 j2 => ?_⟩
        by_cases e : j = k
        · rw [e]; exact h
        · exact h2 j (by omega) (by omega)
      · exact Or.inr ⟨j, by omega, by omega, h3, h4⟩
