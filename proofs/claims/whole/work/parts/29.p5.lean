-- what agrees where it matters; image, undo
def agF (F F' : ST) : Prop := F' 0 0 = F 0 0 ∧ F' 0 5 = F 0 5 ∧ F' 0 8 = F 0 8 ∧ (∀ p, p < 10 → F' 2 p = F 2 p ∧ F' 3 p = F 3 p ∧ F' 4 p = F 4 p ∧ F' 5 p = F 5 p) ∧ (∀ j, j < 100 → F' 7 j = F 7 j) ∧ (∀ j, j < 16 → F' 8 j = F 8 j)
def agS (S S' : ST) : Prop := S' 0 6 = S 0 6 ∧ S' 0 7 = S 0 7 ∧ (∀ j, j < 6 → S' 4 j = S 4 j) ∧ (∀ k, k < 4 → S' 5 k = S 5 k) ∧ (∀ p, p < 10 → S' 6 p = S 6 p)
def agC (C C' : ST) : Prop := C' 0 2 = C 0 2 ∧ (∀ k, k < 80 → C' 1 k = C 1 k)
theorem agF_r (F : ST) : agF F F := ⟨rfl, rfl, rfl, fun _ _ => ⟨rfl, rfl, rfl, rfl⟩, fun _ _ => rfl, fun _ _ => rfl⟩
theorem agS_r (S : ST) : agS S S := ⟨rfl, rfl, fun _ _ => rfl, fun _ _ => rfl, fun _ _ => rfl⟩
theorem agC_r (C : ST) : agC C C := ⟨rfl, fun _ _ => rfl⟩
theorem core_ag {F C S F' C' S' : ST} {m : Nat → Int32} (hF : agF F F') (hC : agC C C') (hS : agS S S') (h : core F C S m) : core F' C' S' m := by
  obtain ⟨⟨a1, a2, a3, a4⟩, b, c, d, e, f, g, h⟩ := h
  obtain ⟨f1, f2, f3, f4, f5, f6⟩ := hF
  obtain ⟨s1, s2, s3, s4, s5⟩ := hS
  refine ⟨⟨a1.trans f1.symm, a2.trans s1.symm, a3.trans s2.symm, a4.trans f3.symm⟩, fun j hj => (b j hj).trans (s3 j hj).symm, fun k hk => (c k hk).trans (s4 k hk).symm, fun p hp => ?_, fun j hj => (e j hj).trans (f5 j hj).symm, fun j hj => (f j hj).trans (f6 j hj).symm, g.trans hC.1.symm, fun k hk hk2 => ?_⟩
  · rw [f2, (f4 p hp).1, (f4 p hp).2.1, (f4 p hp).2.2.1, (f4 p hp).2.2.2, s5 p hp]
    exact d p hp
  · rw [hC.2 k hk]
    exact h k hk (by rw [← hC.1]; exact hk2)
theorem dpt_cong {f g : Nat → Int32} : ∀ k, (∀ i, i < k → f i = g i) → dpt f k = dpt g k := by
  intro k
  induction k with
  | zero => intro _; rfl
  | succ k ih =>
    intro h
    unfold dpt
    rw [h k (by omega), ih (fun i hi => h i (by omega))]
theorem okT_cong {f g : Nat → Int32} {L : Nat} (h : ∀ i, i < L → f i = g i) (hT : okT f L) : okT g L := by
  refine ⟨fun k hk => ?_, fun hL => ?_⟩
  · rw [← h k hk, ← dpt_cong k (fun i hi => h i (by omega))]
    exact hT.1 k hk
  · rw [← dpt_cong L h]
    exact hT.2 hL
theorem inv_ag {F C S F' C' S' : ST} (hF : agF F F') (hC : agC C C') (hS : agS S S') (h : inv F C S) : inv F' C' S' := by
  obtain ⟨n, hn, h0, ⟨i1, i2, i3, i4⟩, ⟨⟨a, a1, a2, a3⟩, ⟨t, t1, t2, t3⟩, r2, r3, r4, ⟨d, d1, d2⟩⟩, ⟨l1, l2, l3, l4, l5⟩, ⟨L, hL, hc, hT⟩⟩ := h
  obtain ⟨f1, f2, f3, f4, f5, f6⟩ := hF
  obtain ⟨s1, s2, s3, s4, s5⟩ := hS
  refine ⟨n, hn, f1.trans h0, ⟨fun p hp => ?_, fun p hp hp2 => ?_, fun p hp hp2 => ?_, fun p q hp hq hpq => ?_⟩, ⟨⟨a, a1, a2, (s3 0 (by decide)).trans a3⟩, ⟨t, t1, t2, (s3 1 (by decide)).trans t3⟩, ?_, ?_, ?_, ⟨d, d1, (s3 5 (by decide)).trans d2⟩⟩, ⟨fun k hk => ?_, fun k hk hk2 => ?_, fun k l hk hl hkl he => ?_, ?_, fun p hp hp2 => ?_⟩, ⟨L, hL, hC.1.trans hc, okT_cong (fun i hi => (hC.2 i (by omega)).symm) hT⟩⟩
  · rw [(f4 p hp).1, (f4 p hp).2.1, (f4 p hp).2.2.1]; exact i1 p hp
  · rw [f2]; exact i2 p hp hp2
  · rw [(f4 p hp2).2.2.2]; exact i3 p hp hp2
  · rw [f5 _ (by omega)]; exact i4 p q hp hq hpq
  · rw [s3 2 (by decide)]; exact r2
  · rw [s3 3 (by decide)]; exact r3
  · rw [s3 4 (by decide)]; exact r4
  · rw [s4 k hk, f2]; exact l1 k hk
  · rw [s4 k hk]; exact l2 k hk (by rw [← s3 0 (by decide)]; exact hk2)
  · rw [s4 k hk]; exact l3 k l hk hl hkl (by rw [← s4 k hk, ← s4 l hl]; exact he)
  · rw [s1, f2]; exact l4
  · rw [s5 p hp2]; exact l5 p hp hp2
theorem cpy0 {f g : Nat → Int32} {n j : Nat} (h : j < n) : va_cpy f g 0 0 n j = f j := by
  unfold va_cpy
  rw [if_pos ⟨Nat.zero_le _, by omega⟩, Nat.zero_add, Nat.sub_zero]
/-- a copy of the folk, of the script, of the seat -/
theorem takeF (F O : ST) : ∃ F', fX1_takeFrom F O = some F' ∧ agF O F' := by
  refine ⟨_, rfl, rfl, rfl, rfl, fun p hp => ⟨cpy0 hp, cpy0 hp, cpy0 hp, cpy0 hp⟩, fun j hj => cpy0 hj, fun j hj => cpy0 hj⟩
theorem takeC (C O : ST) : ∃ C', fX3_takeFrom C O = some C' ∧ agC O C' ∧ C' 2 = C 2 := by
  refine ⟨_, rfl, ⟨rfl, fun k hk => cpy0 hk⟩, rfl⟩
theorem takeS (S O : ST) : ∃ S', fX4_takeFrom S O = some S' ∧ agS O S' ∧ S' 0 8 = -1 ∧ S' 0 9 = -1 := by
  refine ⟨_, rfl, ⟨rfl, rfl, fun j hj => cpy0 hj, fun k hk => cpy0 hk, fun p hp => cpy0 hp⟩, rfl, rfl⟩
/-- the row is laid by, and back -/
theorem lay_loop {f : Nat → Int32} : True := trivial
theorem img8 {M : ST} : ∀ (r k n : Nat) (K : Nat → Int32), k + r = 271 → r < n → (∀ i, i < k → K i = M 1 i) → ∃ K', fX8_image_2 n (nI k) (va_up M 2 K) = some (1, sti (va_up M 2 K') 0 2 1) ∧ ∀ i, i < 271 → K' i = M 1 i := by
  intro r
  induction r with
  | zero =>
    intro k n K hk hn hK
    obtain ⟨n, rfl⟩ : ∃ n', n = n' + 1 := ⟨n - 1, by omega⟩
    refine ⟨K, ?_, fun i hi => hK i (by omega)⟩
    show fX8_image_2_s (fX8_image_2 n) (nI k) (va_up M 2 K) = _
    unfold fX8_image_2_s
    rw [if_pos (show (271 : Int32) ≤ nI k from nI_le (a := 271) (by omega) (by omega)), lts]
  | succ r ih =>
    intro k n K hk hn hK
    obtain ⟨n, rfl⟩ : ∃ n', n = n' + 1 := ⟨n - 1, by omega⟩
    obtain ⟨K', h1, h2⟩ := ih (k + 1) n (upd K k (M 1 k)) (by omega) (by omega) (fun i hi => by
      by_cases e : i = k
      · rw [e, upd_s]
      · rw [upd_n e]; exact hK i (by omega))
    refine ⟨K', ?_, h2⟩
    rw [← h1]
    show fX8_image_2_s (fX8_image_2 n) (nI k) (va_up M 2 K) = _
    unfold fX8_image_2_s
    rw [if_neg (show ¬ (271 : Int32) ≤ nI k from nI_ge (b := 271) (by omega) (by decide)), cks _ (vp_in_nI (by omega) (by decide)), cks _ (vp_in_nI (by omega) (by decide)), lts, lts, nI_clamp (by omega), nI_1]
    congr 1
    funext a
    unfold sti va_up
    by_cases e : a = 2
    · rw [if_pos e, if_pos e]; rfl
    · rw [if_neg e, if_neg e, if_neg e]
