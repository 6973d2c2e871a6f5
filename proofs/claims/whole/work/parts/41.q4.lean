-- copy
theorem nn_nI {x : Int32} (h : ¬ x < 0) : ∃ a : Nat, a < 2 ^ 31 ∧ x = nI a := by
  rcases pk_ix x (n := 2 ^ 31 - 1) (by decide) with h1 | h1 | ⟨j, hj, e⟩
  · exact absurd h1 h
  · refine ⟨2 ^ 31 - 1, by decide, ?_⟩
    rw [fa_le] at h1
    rw [fa_eq]
    have e1 : (nI (2 ^ 31 - 1)).toInt = ((2 ^ 31 - 1 : Nat) : Int) := nI_toInt (by decide)
    have e2 := Int32.toInt_lt x
    omega
  · exact ⟨j, by omega, e⟩
theorem holds_e {G : ST} {n a c : Nat} (hn : n ≤ 40) (hG : G 0 1 = nI n) (ha : a < 2 ^ 31) (hc : c < 2 ^ 31) : fX5_holds (nI a) (nI c) G = some (if a + c ≤ n then 1 else 0) := by
  unfold fX5_holds
  rw [if_neg (nI_pos ha), if_neg (nI_pos hc), hG, nI_l ha, nI_l hc, nI_l (by omega), show lN a + lN c = lN (a + c) from (Int64.ofNat_add a c).symm]
  have e : (0 < lg_cmp (lN (a + c)) (lN n)) ↔ n < a + c := (lg_cmp_gt _ _).trans (pk_lLT (by omega) (by omega))
  by_cases h : a + c ≤ n
  · rw [if_neg (fun q => by have := e.mp q; omega), if_pos h]
  · rw [if_pos (e.mpr (by omega)), if_neg h]
theorem sub_ti {n a : Nat} (hn : n ≤ 40) (ha : a < 2 ^ 31) : (nI n - nI a).toInt = (n : Int) - a := by
  rw [Int32.toInt_sub, nI_toInt (by omega), nI_toInt ha]
  exact Int.bmod_eq_of_le (by omega) (by omega)
theorem sub_l {n a c : Nat} (hn : n ≤ 40) (ha : a < 2 ^ 31) (hc : c < 2 ^ 31) : (nI n - nI a < nI c) ↔ n < a + c := by
  rw [fa_lt, sub_ti hn ha, nI_toInt hc]
  omega
theorem sub_g {n a c : Nat} (hn : n ≤ 40) (ha : a < 2 ^ 31) (hc : c < 2 ^ 31) : (nI c ≤ nI n - nI a) ↔ a + c ≤ n := by
  rw [fa_le, sub_ti hn ha, nI_toInt hc]
  omega
/-- what the class does once the two sheets are there and of one kind -/
def cpT {β : Type} (x2 x4 x5 : Int32) (G H : ST) (N P : LT) (bad : Option β) (k : LT → Option β) : Option β :=
  dc_b1 (fX5_holds x2 x5 G) (fun r => (if r = 0 then bad else dc_b1 (fX5_holds x4 x5 H) (fun r2 => (if r2 = 0 then bad else dc_cp x2 x4 x5 40 40 (dc_lt (va_cpy N P (Int32.toNatClampNeg x2) (Int32.toNatClampNeg x4) (Int32.toNatClampNeg x5)) k)))))
theorem cpT_bad {β : Type} {x2 x4 x5 : Int32} {G H : ST} {N P : LT} {bad : Option β} {k : LT → Option β} {n m : Nat} (hn : n ≤ 40) (hm : m ≤ 40) (hG : G 0 1 = nI n) (hH : H 0 1 = nI m) (h : x2 < 0 ∨ x4 < 0 ∨ x5 < 0) : cpT x2 x4 x5 G H N P bad k = bad := by
  have z : ∀ (x : Int32) (K : ST), x < 0 → fX5_holds x x5 K = some 0 := fun x K h => by unfold fX5_holds; rw [if_pos h]
  have z5 : ∀ (x : Int32) (K : ST), x5 < 0 → fX5_holds x x5 K = some 0 := fun x K h => by
    unfold fX5_holds
    by_cases hx : x < 0
    · rw [if_pos hx]
    · rw [if_neg hx, if_pos h]
  unfold cpT
  by_cases h2 : x2 < 0
  · rw [z x2 G h2, b1s, if_pos rfl]
  by_cases h5 : x5 < 0
  · rw [z5 x2 G h5, b1s, if_pos rfl]
  have h4 : x4 < 0 := by rcases h with h | h | h; exact absurd h h2; exact h; exact absurd h h5
  obtain ⟨a, ha, rfl⟩ := nn_nI h2
  obtain ⟨c, hc, rfl⟩ := nn_nI h5
  rw [holds_e hn hG ha hc, b1s, z x4 H h4, b1s, if_pos rfl]
  by_cases q : a + c ≤ n
  · rw [if_pos q, i10]
  · rw [if_neg q, i00]
theorem cpT_e {β : Type} {a b c : Nat} {G H : ST} {N P : LT} {bad : Option β} {k : LT → Option β} {n m : Nat} (hn : n ≤ 40) (hm : m ≤ 40) (hG : G 0 1 = nI n) (hH : H 0 1 = nI m) (ha : a < 2 ^ 31) (hb : b < 2 ^ 31) (hc : c < 2 ^ 31) : cpT (nI a) (nI b) (nI c) G H N P bad k = if a + c ≤ n ∧ b + c ≤ m then k (va_cpy N P a b c) else bad := by
  unfold cpT
  rw [holds_e hn hG ha hc, b1s, holds_e hm hH hb hc, b1s, nI_clamp ha, nI_clamp hb, nI_clamp hc, lts]
  by_cases q : a + c ≤ n
  · rw [if_pos q, i10]
    by_cases q2 : b + c ≤ m
    · rw [if_pos q2, i10, if_pos ⟨q, q2⟩]
      unfold dc_cp
      rw [nI_clamp ha, nI_clamp hb, nI_clamp hc, if_pos ⟨nI_pos ha, nI_pos hb, nI_pos hc, by omega, by omega⟩]
    · rw [if_neg q2, i00, if_neg (fun h => q2 h.2)]
  · rw [if_neg q, i00, if_neg (fun h => q h.1)]
/-- forward: the first k are moved -/
def cpF (N : LT) (s d k : Nat) : LT := fun i => if d ≤ i ∧ i < d + k then N (s + (i - d)) else N i
/-- backward: the last k of c are moved -/
def cpB (N : LT) (s d c k : Nat) : LT := fun i => if d + (c - k) ≤ i ∧ i < d + c then N (s + (i - d)) else N i
theorem cp8F {M : ST} {N : LT} {s d c : Nat} (hs : s + c ≤ 160) (hd : d + c ≤ 160) (hds : d ≤ s) : ∀ (r k f : Nat), k + r = c → r < f → fX8_copy_137 f (nI c) (nI s) (nI d) (nI k) M (cpF N s d k) = some (nI c, M, cpF N s d c) := by
  intro r
  induction r with
  | zero =>
    intro k f hk hf
    obtain ⟨f, rfl⟩ : ∃ f', f = f' + 1 := ⟨f - 1, by omega⟩
    show fX8_copy_137_s (fX8_copy_137 f) _ _ _ _ _ _ = _
    unfold fX8_copy_137_s
    rw [if_pos (nI_le (by omega) (by omega)), show k = c by omega]
  | succ r ih =>
    intro k f hk hf
    obtain ⟨f, rfl⟩ : ∃ f', f = f' + 1 := ⟨f - 1, by omega⟩
    have ih := ih (k + 1) f (by omega) (by omega)
    show fX8_copy_137_s (fX8_copy_137 f) _ _ _ _ _ _ = _
    unfold fX8_copy_137_s fX8_copy_163
    rw [if_neg (nI_ge (by omega) (by omega)), if_pos (nI_le hds (by omega)), nI_add, nI_add, cks _ (vp_in_nI (n := s + k) (by omega) (by decide)), cks _ (vp_in_nI (n := d + k) (by omega) (by decide)), lts, lts, nI_clamp (n := s + k) (by omega), nI_clamp (n := d + k) (by omega), nI_1]
    have e : vp_updL (cpF N s d k) (d + k) (cpF N s d k (s + k)) = cpF N s d (k + 1) := by
      funext i
      unfold vp_updL cpF
      by_cases h : i = d + k
      · rw [if_pos h, if_neg (by omega), if_pos (by omega), show s + (i - d) = s + k by omega]
      · rw [if_neg h]
        by_cases h2 : d ≤ i ∧ i < d + k
        · rw [if_pos h2, if_pos (by omega)]
        · rw [if_neg h2, if_neg (by omega)]
    rw [e]
    exact ih
theorem cp8B {M : ST} {N : LT} {s d c : Nat} (hs : s + c ≤ 160) (hd : d + c ≤ 160) (hds : s < d) : ∀ (r k f : Nat), k + r = c → r < f → fX8_copy_137 f (nI c) (nI s) (nI d) (nI k) M (cpB N s d c k) = some (nI c, M, cpB N s d c c) := by
  intro r
  induction r with
  | zero =>
    intro k f hk hf
    obtain ⟨f, rfl⟩ : ∃ f', f = f' + 1 := ⟨f - 1, by omega⟩
    show fX8_copy_137_s (fX8_copy_137 f) _ _ _ _ _ _ = _
    unfold fX8_copy_137_s
    rw [if_pos (nI_le (by omega) (by omega)), show k = c by omega]
  | succ r ih =>
    intro k f hk hf
    obtain ⟨f, rfl⟩ : ∃ f', f = f' + 1 := ⟨f - 1, by omega⟩
    have ih := ih (k + 1) f (by omega) (by omega)
    show fX8_copy_137_s (fX8_copy_137 f) _ _ _ _ _ _ = _
    unfold fX8_copy_137_s fX8_copy_163
    have e1 : nI c - 1 - nI k = nI (c - 1 - k) := by rw [show (1 : Int32) = nI 1 from rfl, pk_sub (by omega), pk_sub (by omega)]
    rw [if_neg (nI_ge (by omega) (by omega)), if_neg (nI_ge hds (by omega)), e1, nI_add, nI_add, cks _ (vp_in_nI (n := s + (c - 1 - k)) (by omega) (by decide)), cks _ (vp_in_nI (n := d + (c - 1 - k)) (by omega) (by decide)), lts, lts, nI_clamp (n := s + (c - 1 - k)) (by omega), nI_clamp (n := d + (c - 1 - k)) (by omega), nI_1]
    have e : vp_updL (cpB N s d c k) (d + (c - 1 - k)) (cpB N s d c k (s + (c - 1 - k))) = cpB N s d c (k + 1) := by
      funext i
      unfold vp_updL cpB
      by_cases h : i = d + (c - 1 - k)
      · rw [if_pos h, if_neg (by omega), if_pos (by omega), show s + (i - d) = s + (c - 1 - k) by omega]
      · rw [if_neg h]
        by_cases h2 : d + (c - k) ≤ i ∧ i < d + c
        · rw [if_pos h2, if_pos (by omega)]
        · rw [if_neg h2, if_neg (by omega)]
    rw [e]
    exact ih
theorem cp8 {M : ST} {N : LT} {s d c : Nat} (hs : s + c ≤ 160) (hd : d + c ≤ 160) (hc : c ≤ 40) : fX8_copy_137 400 (nI c) (nI s) (nI d) 0 M N = some (nI c, M, cpF N s d c) := by
  by_cases h : d ≤ s
  · have e : cpF N s d 0 = N := by funext i; exact if_neg (by omega)
    have q := cp8F (M := M) (N := N) hs hd h c 0 400 (by omega) (by omega)
    rw [e] at q
    exact q
  · have e : cpB N s d c 0 = N := by funext i; exact if_neg (by omega)
    have e2 : cpB N s d c c = cpF N s d c := by
      funext i
      unfold cpB cpF
      rw [show d + (c - c) = d by omega]
    have q := cp8B (M := M) (N := N) hs hd (by omega) c 0 400 (by omega) (by omega)
    rw [e, e2] at q
    exact q
theorem rSh_cp {G H : ST} {N P : LT} {b l b' l' : Int32} {A : LT} {s d a b2 c : Nat} (hG : rSh G N b l A s) (hH : rSh H P b' l' A d) (h1 : a + c ≤ 40) (h2 : b2 + c ≤ 40) : rSh H (va_cpy N P a b2 c) b' l' (cpF A (40 * s + a) (40 * d + b2) c) d := by
  refine ⟨hH.1, hH.2.1, hH.2.2.1, fun i hi => ?_⟩
  unfold cpF
  by_cases h : b2 ≤ i ∧ i < b2 + c
  · rw [if_pos (by omega), pk_cpy_in h.1 h.2, show 40 * s + a + (40 * d + i - (40 * d + b2)) = 40 * s + (a + (i - b2)) by omega]
    exact hG.2.2.2 _ (by omega)
  · rw [if_neg (by omega), pk_cpy_out (by omega)]
    exact hH.2.2.2 i hi
theorem cpF_out (A : LT) {s d u b2 c i : Nat} (hu : u ≠ d) (h2 : b2 + c ≤ 40) (hi : i < 40) : cpF A s (40 * d + b2) c (40 * u + i) = A (40 * u + i) := if_neg (by omega)
/-- what the reference does -/
theorem copy8 {M : ST} {N : LT} {s d : Nat} (hs : s < 4) (hd : d < 4) (x2 x4 x5 : Int32) : fX8_copy (nI s) x2 (nI d) x4 x5 M N = (if M 7 s < 0 then some (-1000000006, fM 5 M, N) else if 0 ≤ M 7 d then (if M 7 s = M 7 d then (if x2 < 0 then some (-1000000001, fM 0 M, N) else if x4 < 0 then some (-1000000001, fM 0 M, N) else if x5 < 0 then some (-1000000001, fM 0 M, N) else if M 8 s - x2 < x5 then some (-1000000001, fM 0 M, N) else if x5 ≤ M 8 d - x4 then fX8_copy_137 400 x5 (40 * nI s + x2) (40 * nI d + x4) 0 M N else some (-1000000001, fM 0 M, N)) else some (-1000000003, fM 2 M, N)) else some (-1000000006, fM 5 M, N)) := by
  have n3 : ∀ t, t < 4 → ¬ (nI t < 0 ∨ (3 : Int32) < nI t) := fun t ht q => q.elim (nI_pos (by omega)) (fun z => nI_nlt (a := 3) (b := t) (by omega) (by decide) z)
  unfold fX8_copy fX8_copy_14 fX8_copy_39 fX8_copy_110
  rw [isSh8_e, isSh8_e, b1s, b1s, if_neg (n3 s hs), if_neg (n3 d hd), i10, i10, fd8_5, fd8_0, fd8_2, b2s, b2s, b2s]
  have v1 : vp_in (nI s) 4 := vp_in_nI hs (by decide)
  have v2 : vp_in (nI d) 4 := vp_in_nI hd (by decide)
  have k1 : Int32.toNatClampNeg (nI s) = s := nI_clamp (by omega)
  have k2 : Int32.toNatClampNeg (nI d) = d := nI_clamp (by omega)
  have c1 : ∀ {β : Type} (k : Option β), dc_ck (nI s) 4 k = k := fun k => cks k v1
  have c2 : ∀ {β : Type} (k : Option β), dc_ck (nI d) 4 k = k := fun k => cks k v2
  simp only [c1, c2, k1, k2, lts]
theorem P_copy_ok : P_copy RR := by
  intro x1 x2 x3 x4 x5 Ma Fo Sc Se Tr Ch Us Ta Dr G0 N0 G1 N1 G2 N2 G3 N3 Fo2 Sc2 Se2 Tr2 Fo3 Sc3 Se3 Tr3 M N hR
  by_cases c1 : x1 < 0 ∨ 3 < x1
  · refine ⟨-1000000001, fMa 0 Ma, N0, N1, N2, N3, fM 0 M, N, ?_, ?_, RR_f hR 0 (by decide)⟩
    · unfold fX7_copy
      rw [isSh7_e, b1s, if_pos c1, if_pos rfl]
      unfold fX7_copy_14
      rw [fd7_0, b2s]
    · unfold fX8_copy
      rw [isSh8_e, b1s, if_pos c1, if_pos rfl]
      unfold fX8_copy_14
      rw [fd8_0, b2s]
  by_cases c2 : x3 < 0 ∨ 3 < x3
  · refine ⟨-1000000001, fMa 0 Ma, N0, N1, N2, N3, fM 0 M, N, ?_, ?_, RR_f hR 0 (by decide)⟩
    · unfold fX7_copy
      rw [isSh7_e, b1s, if_neg c1, if_neg (show ¬ (1 : Int32) = 0 by decide), isSh7_e, b1s, if_pos c2, if_pos rfl]
      unfold fX7_copy_14
      rw [fd7_0, b2s]
    · unfold fX8_copy
      rw [isSh8_e, b1s, if_neg c1, if_neg (show ¬ (1 : Int32) = 0 by decide), isSh8_e, b1s, if_pos c2, if_pos rfl]
      unfold fX8_copy_14
      rw [fd8_0, b2s]
  unfold fX7_copy
  rw [isSh7_e, b1s, if_neg c1, if_neg (show ¬ (1 : Int32) = 0 by decide), isSh7_e, b1s, if_neg c2, if_neg (show ¬ (1 : Int32) = 0 by decide)]
  obtain ⟨s0, s1, s2, s3⟩ := hR.2.2.2.2
  have ref : ∀ (s d : Nat) (G H : ST) (P Q : LT), s < 4 → d < 4 → rSh G P (M 7 s) (M 8 s) N s → rSh H Q (M 7 d) (M 8 d) N d → ∀ (k : LT → Option (Int32 × ST × LT × LT × LT × LT)), (∃ z Maz, (dc_b1 (fX5_isMissing G) (fun r11 => (if r11 = 0 then dc_b1 (fX5_isMissing H) (fun r18 => (if r18 = 0 then (if (G 0 0) = (H 0 0) then cpT x2 x4 x5 G H P Q (fX7_copy_112 G0 G1 G2 G3 Ma N0 N1 N2 N3) k else dc_b2 (fX7_finding (-1000000003) Ma) (fun r33 Ma_34 => some (r33, Ma_34, N0, N1, N2, N3))) else fX7_copy_45 G0 G1 G2 G3 Ma N0 N1 N2 N3)) else fX7_copy_45 G0 G1 G2 G3 Ma N0 N1 N2 N3))) = some (z, Maz, N0, N1, N2, N3) ∧ ∃ j, j < 7 ∧ Maz = fMa j Ma ∧ fX8_copy (nI s) x2 (nI d) x4 x5 M N = some (z, fM j M, N)) ∨ ∃ a b c : Nat, a + c ≤ 40 ∧ b + c ≤ 40 ∧ x5 = nI c ∧ (dc_b1 (fX5_isMissing G) (fun r11 => (if r11 = 0 then dc_b1 (fX5_isMissing H) (fun r18 => (if r18 = 0 then (if (G 0 0) = (H 0 0) then cpT x2 x4 x5 G H P Q (fX7_copy_112 G0 G1 G2 G3 Ma N0 N1 N2 N3) k else dc_b2 (fX7_finding (-1000000003) Ma) (fun r33 Ma_34 => some (r33, Ma_34, N0, N1, N2, N3))) else fX7_copy_45 G0 G1 G2 G3 Ma N0 N1 N2 N3)) else fX7_copy_45 G0 G1 G2 G3 Ma N0 N1 N2 N3))) = k (va_cpy P Q a b c) ∧ fX8_copy (nI s) x2 (nI d) x4 x5 M N = some (nI c, M, cpF N (40 * s + a) (40 * d + b) c) := by
    intro s d G H P Q hs hd hG hH k
    obtain ⟨n, hn, hl⟩ := hG.2.1
    obtain ⟨m, hm, hlm⟩ := hH.2.1
    have e8 : M 8 s = nI n := hG.2.2.1.trans hl
    have e9 : M 8 d = nI m := hH.2.2.1.trans hlm
    have neg : ∀ {b : Int32}, ¬ 0 ≤ b → b < 0 := fun h => fa_of_nle h
    rw [copy8 hs hd, miss7 hG, b1s, miss7 hH, b1s]
    unfold fX7_copy_45 fX7_copy_112
    rw [fd7_5, fd7_2, fd7_0, b2s, b2s, b2s, e8, e9]
    by_cases q1 : 0 ≤ M 7 s
    rotate_left
    · rw [if_neg q1, if_neg (show ¬ (1 : Int32) = 0 by decide), if_pos (neg q1)]
      exact Or.inl ⟨_, _, rfl, 5, by decide, rfl, rfl⟩
    rw [if_pos q1, i00, if_neg (fun z => (fa_of_lt z).2.1 q1)]
    by_cases q2 : 0 ≤ M 7 d
    rotate_left
    · rw [if_neg q2, if_neg (show ¬ (1 : Int32) = 0 by decide), if_neg q2]
      exact Or.inl ⟨_, _, rfl, 5, by decide, rfl, rfl⟩
    rw [if_pos q2, i00, if_pos q2]
    have eb : ∀ {K : ST} {R : LT} {t : Nat} {b l : Int32}, rSh K R b l N t → 0 ≤ b → b = K 0 0 := fun h hb => by
      rcases h.1 with ⟨_, z⟩ | ⟨_, z⟩
      · rw [z] at hb; exact absurd hb (by decide)
      · exact z
    rw [← eb hG q1, ← eb hH q2]
    by_cases q3 : M 7 s = M 7 d
    rotate_left
    · rw [if_neg q3, if_neg q3]
      exact Or.inl ⟨_, _, rfl, 2, by decide, rfl, rfl⟩
    rw [if_pos q3, if_pos q3]
    by_cases q4 : x2 < 0 ∨ x4 < 0 ∨ x5 < 0
    · rw [cpT_bad hn hm hl hlm q4]
      refine Or.inl ⟨_, _, rfl, 0, by decide, rfl, ?_⟩
      by_cases y2 : x2 < 0
      · rw [if_pos y2]
      · rw [if_neg y2]
        by_cases y4 : x4 < 0
        · rw [if_pos y4]
        · rw [if_neg y4, if_pos (q4.elim (fun z => absurd z y2) (fun z => z.elim (fun z => absurd z y4) id))]
    have y2 : ¬ x2 < 0 := fun z => q4 (Or.inl z)
    have y4 : ¬ x4 < 0 := fun z => q4 (Or.inr (Or.inl z))
    have y5 : ¬ x5 < 0 := fun z => q4 (Or.inr (Or.inr z))
    rw [if_neg y2, if_neg y4, if_neg y5]
    obtain ⟨a, ha, rfl⟩ := nn_nI y2
    obtain ⟨b, hb, rfl⟩ := nn_nI y4
    obtain ⟨c, hc, rfl⟩ := nn_nI y5
    rw [cpT_e hn hm hl hlm ha hb hc]
    by_cases q5 : a + c ≤ n ∧ b + c ≤ m
    · refine Or.inr ⟨a, b, c, by omega, by omega, rfl, by rw [if_pos q5], ?_⟩
      rw [if_neg (fun z => by rw [sub_l hn ha hc] at z; omega), if_pos ((sub_g hm hb hc).mpr q5.2), show (40 : Int32) * nI s + nI a = nI (40 * s + a) by rw [show (40 : Int32) = nI 40 from rfl, pk_mul, nI_add], show (40 : Int32) * nI d + nI b = nI (40 * d + b) by rw [show (40 : Int32) = nI 40 from rfl, pk_mul, nI_add], cp8 (by omega) (by omega) (by omega)]
    · refine Or.inl ⟨_, _, by rw [if_neg q5], 0, by decide, rfl, ?_⟩
      by_cases q6 : nI n - nI a < nI c
      · rw [if_pos q6]
      · rw [if_neg q6, if_neg (fun z => q5 ⟨by rw [sub_l hn ha hc] at q6; omega, (sub_g hm hb hc).mp z⟩)]
  rcases four c1 with rfl | rfl | rfl | rfl
  · rw [if_pos (show (0 : Int32) = 0 from rfl)]
    rcases four c2 with rfl | rfl | rfl | rfl
    · have pk : ∀ {α : Type} (a b c d e : α), (if (0 : Int32) = 0 then a else if (0 : Int32) = 1 then b else if (0 : Int32) = 2 then c else if (0 : Int32) = 3 then d else e) = a := fun a b c d e => by rw [if_pos (show (0 : Int32) = 0 from rfl)]
      rw [pk]
      rcases ref 0 0 G0 G0 N0 N0 (by decide) (by decide) s0 s0 (fun V => some (x5, Ma, V, N1, N2, N3)) with ⟨z, Maz, h1, j, hj, rfl, h2⟩ | ⟨a, b, c, h1, h2, rfl, h3, h4⟩
      · exact ⟨z, _, N0, N1, N2, N3, _, N, h1, h2, RR_f hR j hj⟩
      · exact ⟨nI c, Ma, va_cpy N0 N0 a b c, N1, N2, N3, M, _, h3, h4, RR_sh hR (fun a _ _ => rfl) (rSh_cp s0 s0 h1 h2) (rSh_keep s1 (fun i hi => cpF_out N (by decide) h2 hi)) (rSh_keep s2 (fun i hi => cpF_out N (by decide) h2 hi)) (rSh_keep s3 (fun i hi => cpF_out N (by decide) h2 hi))⟩
    · have pk : ∀ {α : Type} (a b c d e : α), (if (1 : Int32) = 0 then a else if (1 : Int32) = 1 then b else if (1 : Int32) = 2 then c else if (1 : Int32) = 3 then d else e) = b := fun a b c d e => by rw [if_neg (show ¬ (1 : Int32) = 0 by decide), if_pos (show (1 : Int32) = 1 from rfl)]
      rw [pk]
      rcases ref 0 1 G0 G1 N0 N1 (by decide) (by decide) s0 s1 (fun V => some (x5, Ma, N0, V, N2, N3)) with ⟨z, Maz, h1, j, hj, rfl, h2⟩ | ⟨a, b, c, h1, h2, rfl, h3, h4⟩
      · exact ⟨z, _, N0, N1, N2, N3, _, N, h1, h2, RR_f hR j hj⟩
      · exact ⟨nI c, Ma, N0, va_cpy N0 N1 a b c, N2, N3, M, _, h3, h4, RR_sh hR (fun a _ _ => rfl) (rSh_keep s0 (fun i hi => cpF_out N (by decide) h2 hi)) (rSh_cp s0 s1 h1 h2) (rSh_keep s2 (fun i hi => cpF_out N (by decide) h2 hi)) (rSh_keep s3 (fun i hi => cpF_out N (by decide) h2 hi))⟩
    · have pk : ∀ {α : Type} (a b c d e : α), (if (2 : Int32) = 0 then a else if (2 : Int32) = 1 then b else if (2 : Int32) = 2 then c else if (2 : Int32) = 3 then d else e) = c := fun a b c d e => by rw [if_neg (show ¬ (2 : Int32) = 0 by decide), if_neg (show ¬ (2 : Int32) = 1 by decide), if_pos (show (2 : Int32) = 2 from rfl)]
      rw [pk]
      rcases ref 0 2 G0 G2 N0 N2 (by decide) (by decide) s0 s2 (fun V => some (x5, Ma, N0, N1, V, N3)) with ⟨z, Maz, h1, j, hj, rfl, h2⟩ | ⟨a, b, c, h1, h2, rfl, h3, h4⟩
      · exact ⟨z, _, N0, N1, N2, N3, _, N, h1, h2, RR_f hR j hj⟩
      · exact ⟨nI c, Ma, N0, N1, va_cpy N0 N2 a b c, N3, M, _, h3, h4, RR_sh hR (fun a _ _ => rfl) (rSh_keep s0 (fun i hi => cpF_out N (by decide) h2 hi)) (rSh_keep s1 (fun i hi => cpF_out N (by decide) h2 hi)) (rSh_cp s0 s2 h1 h2) (rSh_keep s3 (fun i hi => cpF_out N (by decide) h2 hi))⟩
    · have pk : ∀ {α : Type} (a b c d e : α), (if (3 : Int32) = 0 then a else if (3 : Int32) = 1 then b else if (3 : Int32) = 2 then c else if (3 : Int32) = 3 then d else e) = d := fun a b c d e => by rw [if_neg (show ¬ (3 : Int32) = 0 by decide), if_neg (show ¬ (3 : Int32) = 1 by decide), if_neg (show ¬ (3 : Int32) = 2 by decide), if_pos (show (3 : Int32) = 3 from rfl)]
      rw [pk]
      rcases ref 0 3 G0 G3 N0 N3 (by decide) (by decide) s0 s3 (fun V => some (x5, Ma, N0, N1, N2, V)) with ⟨z, Maz, h1, j, hj, rfl, h2⟩ | ⟨a, b, c, h1, h2, rfl, h3, h4⟩
      · exact ⟨z, _, N0, N1, N2, N3, _, N, h1, h2, RR_f hR j hj⟩
      · exact ⟨nI c, Ma, N0, N1, N2, va_cpy N0 N3 a b c, M, _, h3, h4, RR_sh hR (fun a _ _ => rfl) (rSh_keep s0 (fun i hi => cpF_out N (by decide) h2 hi)) (rSh_keep s1 (fun i hi => cpF_out N (by decide) h2 hi)) (rSh_keep s2 (fun i hi => cpF_out N (by decide) h2 hi)) (rSh_cp s0 s3 h1 h2)⟩
  · rw [if_neg (show ¬ (1 : Int32) = 0 by decide), if_pos (show (1 : Int32) = 1 from rfl)]
    rcases four c2 with rfl | rfl | rfl | rfl
    · have pk : ∀ {α : Type} (a b c d e : α), (if (0 : Int32) = 0 then a else if (0 : Int32) = 1 then b else if (0 : Int32) = 2 then c else if (0 : Int32) = 3 then d else e) = a := fun a b c d e => by rw [if_pos (show (0 : Int32) = 0 from rfl)]
      rw [pk]
      rcases ref 1 0 G1 G0 N1 N0 (by decide) (by decide) s1 s0 (fun V => some (x5, Ma, V, N1, N2, N3)) with ⟨z, Maz, h1, j, hj, rfl, h2⟩ | ⟨a, b, c, h1, h2, rfl, h3, h4⟩
      · exact ⟨z, _, N0, N1, N2, N3, _, N, h1, h2, RR_f hR j hj⟩
      · exact ⟨nI c, Ma, va_cpy N1 N0 a b c, N1, N2, N3, M, _, h3, h4, RR_sh hR (fun a _ _ => rfl) (rSh_cp s1 s0 h1 h2) (rSh_keep s1 (fun i hi => cpF_out N (by decide) h2 hi)) (rSh_keep s2 (fun i hi => cpF_out N (by decide) h2 hi)) (rSh_keep s3 (fun i hi => cpF_out N (by decide) h2 hi))⟩
    · have pk : ∀ {α : Type} (a b c d e : α), (if (1 : Int32) = 0 then a else if (1 : Int32) = 1 then b else if (1 : Int32) = 2 then c else if (1 : Int32) = 3 then d else e) = b := fun a b c d e => by rw [if_neg (show ¬ (1 : Int32) = 0 by decide), if_pos (show (1 : Int32) = 1 from rfl)]
      rw [pk]
      rcases ref 1 1 G1 G1 N1 N1 (by decide) (by decide) s1 s1 (fun V => some (x5, Ma, N0, V, N2, N3)) with ⟨z, Maz, h1, j, hj, rfl, h2⟩ | ⟨a, b, c, h1, h2, rfl, h3, h4⟩
      · exact ⟨z, _, N0, N1, N2, N3, _, N, h1, h2, RR_f hR j hj⟩
      · exact ⟨nI c, Ma, N0, va_cpy N1 N1 a b c, N2, N3, M, _, h3, h4, RR_sh hR (fun a _ _ => rfl) (rSh_keep s0 (fun i hi => cpF_out N (by decide) h2 hi)) (rSh_cp s1 s1 h1 h2) (rSh_keep s2 (fun i hi => cpF_out N (by decide) h2 hi)) (rSh_keep s3 (fun i hi => cpF_out N (by decide) h2 hi))⟩
    · have pk : ∀ {α : Type} (a b c d e : α), (if (2 : Int32) = 0 then a else if (2 : Int32) = 1 then b else if (2 : Int32) = 2 then c else if (2 : Int32) = 3 then d else e) = c := fun a b c d e => by rw [if_neg (show ¬ (2 : Int32) = 0 by decide), if_neg (show ¬ (2 : Int32) = 1 by decide), if_pos (show (2 : Int32) = 2 from rfl)]
      rw [pk]
      rcases ref 1 2 G1 G2 N1 N2 (by decide) (by decide) s1 s2 (fun V => some (x5, Ma, N0, N1, V, N3)) with ⟨z, Maz, h1, j, hj, rfl, h2⟩ | ⟨a, b, c, h1, h2, rfl, h3, h4⟩
      · exact ⟨z, _, N0, N1, N2, N3, _, N, h1, h2, RR_f hR j hj⟩
      · exact ⟨nI c, Ma, N0, N1, va_cpy N1 N2 a b c, N3, M, _, h3, h4, RR_sh hR (fun a _ _ => rfl) (rSh_keep s0 (fun i hi => cpF_out N (by decide) h2 hi)) (rSh_keep s1 (fun i hi => cpF_out N (by decide) h2 hi)) (rSh_cp s1 s2 h1 h2) (rSh_keep s3 (fun i hi => cpF_out N (by decide) h2 hi))⟩
    · have pk : ∀ {α : Type} (a b c d e : α), (if (3 : Int32) = 0 then a else if (3 : Int32) = 1 then b else if (3 : Int32) = 2 then c else if (3 : Int32) = 3 then d else e) = d := fun a b c d e => by rw [if_neg (show ¬ (3 : Int32) = 0 by decide), if_neg (show ¬ (3 : Int32) = 1 by decide), if_neg (show ¬ (3 : Int32) = 2 by decide), if_pos (show (3 : Int32) = 3 from rfl)]
      rw [pk]
      rcases ref 1 3 G1 G3 N1 N3 (by decide) (by decide) s1 s3 (fun V => some (x5, Ma, N0, N1, N2, V)) with ⟨z, Maz, h1, j, hj, rfl, h2⟩ | ⟨a, b, c, h1, h2, rfl, h3, h4⟩
      · exact ⟨z, _, N0, N1, N2, N3, _, N, h1, h2, RR_f hR j hj⟩
      · exact ⟨nI c, Ma, N0, N1, N2, va_cpy N1 N3 a b c, M, _, h3, h4, RR_sh hR (fun a _ _ => rfl) (rSh_keep s0 (fun i hi => cpF_out N (by decide) h2 hi)) (rSh_keep s1 (fun i hi => cpF_out N (by decide) h2 hi)) (rSh_keep s2 (fun i hi => cpF_out N (by decide) h2 hi)) (rSh_cp s1 s3 h1 h2)⟩
  · rw [if_neg (show ¬ (2 : Int32) = 0 by decide), if_neg (show ¬ (2 : Int32) = 1 by decide), if_pos (show (2 : Int32) = 2 from rfl)]
    rcases four c2 with rfl | rfl | rfl | rfl
    · have pk : ∀ {α : Type} (a b c d e : α), (if (0 : Int32) = 0 then a else if (0 : Int32) = 1 then b else if (0 : Int32) = 2 then c else if (0 : Int32) = 3 then d else e) = a := fun a b c d e => by rw [if_pos (show (0 : Int32) = 0 from rfl)]
      rw [pk]
      rcases ref 2 0 G2 G0 N2 N0 (by decide) (by decide) s2 s0 (fun V => some (x5, Ma, V, N1, N2, N3)) with ⟨z, Maz, h1, j, hj, rfl, h2⟩ | ⟨a, b, c, h1, h2, rfl, h3, h4⟩
      · exact ⟨z, _, N0, N1, N2, N3, _, N, h1, h2, RR_f hR j hj⟩
      · exact ⟨nI c, Ma, va_cpy N2 N0 a b c, N1, N2, N3, M, _, h3, h4, RR_sh hR (fun a _ _ => rfl) (rSh_cp s2 s0 h1 h2) (rSh_keep s1 (fun i hi => cpF_out N (by decide) h2 hi)) (rSh_keep s2 (fun i hi => cpF_out N (by decide) h2 hi)) (rSh_keep s3 (fun i hi => cpF_out N (by decide) h2 hi))⟩
    · have pk : ∀ {α : Type} (a b c d e : α), (if (1 : Int32) = 0 then a else if (1 : Int32) = 1 then b else if (1 : Int32) = 2 then c else if (1 : Int32) = 3 then d else e) = b := fun a b c d e => by rw [if_neg (show ¬ (1 : Int32) = 0 by decide), if_pos (show (1 : Int32) = 1 from rfl)]
      rw [pk]
      rcases ref 2 1 G2 G1 N2 N1 (by decide) (by decide) s2 s1 (fun V => some (x5, Ma, N0, V, N2, N3)) with ⟨z, Maz, h1, j, hj, rfl, h2⟩ | ⟨a, b, c, h1, h2, rfl, h3, h4⟩
      · exact ⟨z, _, N0, N1, N2, N3, _, N, h1, h2, RR_f hR j hj⟩
      · exact ⟨nI c, Ma, N0, va_cpy N2 N1 a b c, N2, N3, M, _, h3, h4, RR_sh hR (fun a _ _ => rfl) (rSh_keep s0 (fun i hi => cpF_out N (by decide) h2 hi)) (rSh_cp s2 s1 h1 h2) (rSh_keep s2 (fun i hi => cpF_out N (by decide) h2 hi)) (rSh_keep s3 (fun i hi => cpF_out N (by decide) h2 hi))⟩
    · have pk : ∀ {α : Type} (a b c d e : α), (if (2 : Int32) = 0 then a else if (2 : Int32) = 1 then b else if (2 : Int32) = 2 then c else if (2 : Int32) = 3 then d else e) = c := fun a b c d e => by rw [if_neg (show ¬ (2 : Int32) = 0 by decide), if_neg (show ¬ (2 : Int32) = 1 by decide), if_pos (show (2 : Int32) = 2 from rfl)]
      rw [pk]
      rcases ref 2 2 G2 G2 N2 N2 (by decide) (by decide) s2 s2 (fun V => some (x5, Ma, N0, N1, V, N3)) with ⟨z, Maz, h1, j, hj, rfl, h2⟩ | ⟨a, b, c, h1, h2, rfl, h3, h4⟩
      · exact ⟨z, _, N0, N1, N2, N3, _, N, h1, h2, RR_f hR j hj⟩
      · exact ⟨nI c, Ma, N0, N1, va_cpy N2 N2 a b c, N3, M, _, h3, h4, RR_sh hR (fun a _ _ => rfl) (rSh_keep s0 (fun i hi => cpF_out N (by decide) h2 hi)) (rSh_keep s1 (fun i hi => cpF_out N (by decide) h2 hi)) (rSh_cp s2 s2 h1 h2) (rSh_keep s3 (fun i hi => cpF_out N (by decide) h2 hi))⟩
    · have pk : ∀ {α : Type} (a b c d e : α), (if (3 : Int32) = 0 then a else if (3 : Int32) = 1 then b else if (3 : Int32) = 2 then c else if (3 : Int32) = 3 then d else e) = d := fun a b c d e => by rw [if_neg (show ¬ (3 : Int32) = 0 by decide), if_neg (show ¬ (3 : Int32) = 1 by decide), if_neg (show ¬ (3 : Int32) = 2 by decide), if_pos (show (3 : Int32) = 3 from rfl)]
      rw [pk]
      rcases ref 2 3 G2 G3 N2 N3 (by decide) (by decide) s2 s3 (fun V => some (x5, Ma, N0, N1, N2, V)) with ⟨z, Maz, h1, j, hj, rfl, h2⟩ | ⟨a, b, c, h1, h2, rfl, h3, h4⟩
      · exact ⟨z, _, N0, N1, N2, N3, _, N, h1, h2, RR_f hR j hj⟩
      · exact ⟨nI c, Ma, N0, N1, N2, va_cpy N2 N3 a b c, M, _, h3, h4, RR_sh hR (fun a _ _ => rfl) (rSh_keep s0 (fun i hi => cpF_out N (by decide) h2 hi)) (rSh_keep s1 (fun i hi => cpF_out N (by decide) h2 hi)) (rSh_keep s2 (fun i hi => cpF_out N (by decide) h2 hi)) (rSh_cp s2 s3 h1 h2)⟩
  · rw [if_neg (show ¬ (3 : Int32) = 0 by decide), if_neg (show ¬ (3 : Int32) = 1 by decide), if_neg (show ¬ (3 : Int32) = 2 by decide), if_pos (show (3 : Int32) = 3 from rfl)]
    rcases four c2 with rfl | rfl | rfl | rfl
    · have pk : ∀ {α : Type} (a b c d e : α), (if (0 : Int32) = 0 then a else if (0 : Int32) = 1 then b else if (0 : Int32) = 2 then c else if (0 : Int32) = 3 then d else e) = a := fun a b c d e => by rw [if_pos (show (0 : Int32) = 0 from rfl)]
      rw [pk]
      rcases ref 3 0 G3 G0 N3 N0 (by decide) (by decide) s3 s0 (fun V => some (x5, Ma, V, N1, N2, N3)) with ⟨z, Maz, h1, j, hj, rfl, h2⟩ | ⟨a, b, c, h1, h2, rfl, h3, h4⟩
      · exact ⟨z, _, N0, N1, N2, N3, _, N, h1, h2, RR_f hR j hj⟩
      · exact ⟨nI c, Ma, va_cpy N3 N0 a b c, N1, N2, N3, M, _, h3, h4, RR_sh hR (fun a _ _ => rfl) (rSh_cp s3 s0 h1 h2) (rSh_keep s1 (fun i hi => cpF_out N (by decide) h2 hi)) (rSh_keep s2 (fun i hi => cpF_out N (by decide) h2 hi)) (rSh_keep s3 (fun i hi => cpF_out N (by decide) h2 hi))⟩
    · have pk : ∀ {α : Type} (a b c d e : α), (if (1 : Int32) = 0 then a else if (1 : Int32) = 1 then b else if (1 : Int32) = 2 then c else if (1 : Int32) = 3 then d else e) = b := fun a b c d e => by rw [if_neg (show ¬ (1 : Int32) = 0 by decide), if_pos (show (1 : Int32) = 1 from rfl)]
      rw [pk]
      rcases ref 3 1 G3 G1 N3 N1 (by decide) (by decide) s3 s1 (fun V => some (x5, Ma, N0, V, N2, N3)) with ⟨z, Maz, h1, j, hj, rfl, h2⟩ | ⟨a, b, c, h1, h2, rfl, h3, h4⟩
      · exact ⟨z, _, N0, N1, N2, N3, _, N, h1, h2, RR_f hR j hj⟩
      · exact ⟨nI c, Ma, N0, va_cpy N3 N1 a b c, N2, N3, M, _, h3, h4, RR_sh hR (fun a _ _ => rfl) (rSh_keep s0 (fun i hi => cpF_out N (by decide) h2 hi)) (rSh_cp s3 s1 h1 h2) (rSh_keep s2 (fun i hi => cpF_out N (by decide) h2 hi)) (rSh_keep s3 (fun i hi => cpF_out N (by decide) h2 hi))⟩
    · have pk : ∀ {α : Type} (a b c d e : α), (if (2 : Int32) = 0 then a else if (2 : Int32) = 1 then b else if (2 : Int32) = 2 then c else if (2 : Int32) = 3 then d else e) = c := fun a b c d e => by rw [if_neg (show ¬ (2 : Int32) = 0 by decide), if_neg (show ¬ (2 : Int32) = 1 by decide), if_pos (show (2 : Int32) = 2 from rfl)]
      rw [pk]
      rcases ref 3 2 G3 G2 N3 N2 (by decide) (by decide) s3 s2 (fun V => some (x5, Ma, N0, N1, V, N3)) with ⟨z, Maz, h1, j, hj, rfl, h2⟩ | ⟨a, b, c, h1, h2, rfl, h3, h4⟩
      · exact ⟨z, _, N0, N1, N2, N3, _, N, h1, h2, RR_f hR j hj⟩
      · exact ⟨nI c, Ma, N0, N1, va_cpy N3 N2 a b c, N3, M, _, h3, h4, RR_sh hR (fun a _ _ => rfl) (rSh_keep s0 (fun i hi => cpF_out N (by decide) h2 hi)) (rSh_keep s1 (fun i hi => cpF_out N (by decide) h2 hi)) (rSh_cp s3 s2 h1 h2) (rSh_keep s3 (fun i hi => cpF_out N (by decide) h2 hi))⟩
    · have pk : ∀ {α : Type} (a b c d e : α), (if (3 : Int32) = 0 then a else if (3 : Int32) = 1 then b else if (3 : Int32) = 2 then c else if (3 : Int32) = 3 then d else e) = d := fun a b c d e => by rw [if_neg (show ¬ (3 : Int32) = 0 by decide), if_neg (show ¬ (3 : Int32) = 1 by decide), if_neg (show ¬ (3 : Int32) = 2 by decide), if_pos (show (3 : Int32) = 3 from rfl)]
      rw [pk]
      rcases ref 3 3 G3 G3 N3 N3 (by decide) (by decide) s3 s3 (fun V => some (x5, Ma, N0, N1, N2, V)) with ⟨z, Maz, h1, j, hj, rfl, h2⟩ | ⟨a, b, c, h1, h2, rfl, h3, h4⟩
      · exact ⟨z, _, N0, N1, N2, N3, _, N, h1, h2, RR_f hR j hj⟩
      · exact ⟨nI c, Ma, N0, N1, N2, va_cpy N3 N3 a b c, M, _, h3, h4, RR_sh hR (fun a _ _ => rfl) (rSh_keep s0 (fun i hi => cpF_out N (by decide) h2 hi)) (rSh_keep s1 (fun i hi => cpF_out N (by decide) h2 hi)) (rSh_keep s2 (fun i hi => cpF_out N (by decide) h2 hi)) (rSh_cp s3 s3 h1 h2)⟩
