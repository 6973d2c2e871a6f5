-- CHAIRS, one behind the other; laying by and back
abbrev S3 : Type := ST × ST × ST
def nS (F : ST) (x : S3) : Int32 × S3 := (fX4_next 1 x.1 F x.2.1 x.2.2).getD (0, x)
def itS (F : ST) (x : S3) : Nat → S3
  | 0 => x
  | k + 1 => (nS F (itS F x k)).2
def itR (F : ST) (x : S3) (k : Nat) : Int32 := (nS F (itS F x k)).1
def nM (M : ST) : Int32 × ST := (fX8_comes M).getD (0, M)
def itM (M : ST) : Nat → ST
  | 0 => M
  | k + 1 => (nM (itM M k)).2
theorem frN2_r (C S M : ST) : frN2 C S M C S M := ⟨fun _ _ => rfl, fun _ _ _ _ => rfl, fun _ _ => rfl, rfl, rfl, rfl⟩
theorem frN2_t {C S M C1 S1 M1 C2 S2 M2 : ST} (f : frN2 C S M C1 S1 M1) (g : frN2 C1 S1 M1 C2 S2 M2) : frN2 C S M C2 S2 M2 := ⟨fun b hb => (g.1 b hb).trans (f.1 b hb), fun b h1 h2 h3 => (g.2.1 b h1 h2 h3).trans (f.2.1 b h1 h2 h3), fun i hi => (g.2.2.1 i hi).trans (f.2.2.1 i hi), g.2.2.2.1.trans f.2.2.2.1, g.2.2.2.2.1.trans f.2.2.2.2.1, g.2.2.2.2.2.trans f.2.2.2.2.2⟩
theorem lvl_fr {C S M C' S' M' : ST} {n : Nat} (h : lvl S M n) (f : frN2 C S M C' S' M') : lvl S' M' n := by
  unfold lvl at h ⊢
  rw [f.2.2.2.1, f.2.2.2.2.1, f.2.1 0 (by decide) (by decide) (by decide)]
  exact h
theorem it_one {F M : ST} {x : S3} {n a : Nat} (h : ctx F x.2.1 x.1 M n a) (hl : lvl x.1 M n) : fX4_next 1 x.1 F x.2.1 x.2.2 = some (nS F x) ∧ fX8_comes M = some ((nS F x).1, (nM M).2) ∧ ctx F (nS F x).2.2.1 (nS F x).2.1 (nM M).2 n a ∧ frN2 x.2.1 x.1 M (nS F x).2.2.1 (nS F x).2.1 (nM M).2 ∧ ((nS F x).1 = -1 ∨ ∃ s, s < n ∧ (nS F x).1 = nI s) ∧ (nS F x).2.1 0 6 = (nS F x).1 := by
  obtain ⟨r, C', S', Tr', M', e1, e2, e3, e4, e5, e6⟩ := nxto h hl x.2.2
  have z : nS F x = (r, S', C', Tr') := by unfold nS; rw [e1]; rfl
  have y : nM M = (r, M') := by unfold nM; rw [e2]; rfl
  rw [z, y]
  exact ⟨e1, e2, e3, e4, e5, e6⟩
theorem it_ok {F M : ST} {x : S3} {n a : Nat} (h : ctx F x.2.1 x.1 M n a) (hl : lvl x.1 M n) : ∀ k, ctx F (itS F x k).2.1 (itS F x k).1 (itM M k) n a ∧ lvl (itS F x k).1 (itM M k) n ∧ frN2 x.2.1 x.1 M (itS F x k).2.1 (itS F x k).1 (itM M k) := by
  intro k
  induction k with
  | zero => exact ⟨h, hl, frN2_r _ _ _⟩
  | succ k ih =>
    obtain ⟨h1, h2, h3⟩ := ih
    obtain ⟨-, -, e3, e4, -, -⟩ := it_one h1 h2
    exact ⟨e3, lvl_fr h2 e4, frN2_t h3 e4⟩
theorem it_st {F M : ST} {x : S3} {n a : Nat} (h : ctx F x.2.1 x.1 M n a) (hl : lvl x.1 M n) (k : Nat) : fX4_next 1 (itS F x k).1 F (itS F x k).2.1 (itS F x k).2.2 = some (itR F x k, (itS F x (k + 1)).1, (itS F x (k + 1)).2.1, (itS F x (k + 1)).2.2) ∧ fX8_comes (itM M k) = some (itR F x k, itM M (k + 1)) ∧ (itR F x k = -1 ∨ ∃ s, s < n ∧ itR F x k = nI s) ∧ (itS F x (k + 1)).1 0 6 = itR F x k := by
  obtain ⟨h1, h2, -⟩ := it_ok h hl k
  obtain ⟨e1, e2, -, -, e5, e6⟩ := it_one h1 h2
  exact ⟨e1, e2, e5, e6⟩
theorem lby_l {M : ST} : ∀ (r k f : Nat) (K : Nat → Int32), k + r = 74 → r < f → (∀ i, i < k → K i = M 1 i) → ∃ K', fX8_laysBy_2 f (nI k) (va_up M 14 K) = some (va_up M 14 K') ∧ ∀ i, i < 74 → K' i = M 1 i := by
  intro r
  induction r with
  | zero =>
    intro k f K hk hf hK
    obtain ⟨f, rfl⟩ : ∃ n', f = n' + 1 := ⟨f - 1, by omega⟩
    refine ⟨K, ?_, fun i hi => hK i (by omega)⟩
    show fX8_laysBy_2_s (fX8_laysBy_2 f) _ _ = _
    unfold fX8_laysBy_2_s
    rw [if_pos (show (74 : Int32) ≤ nI k from nI_le (a := 74) (by omega) (by omega))]
  | succ r ih =>
    intro k f K hk hf hK
    obtain ⟨f, rfl⟩ : ∃ n', f = n' + 1 := ⟨f - 1, by omega⟩
    obtain ⟨K', h1, h2⟩ := ih (k + 1) f (upd K k (M 1 k)) (by omega) (by omega) (fun i hi => by
      by_cases e : i = k
      · rw [e, upd_s]
      · rw [upd_n e]; exact hK i (by omega))
    refine ⟨K', ?_, h2⟩
    rw [← h1]
    show fX8_laysBy_2_s (fX8_laysBy_2 f) _ _ = _
    have e : sti (va_up M 14 K) 14 k ((va_up M 14 K) 1 k) = va_up M 14 (upd K k (M 1 k)) := by
      funext b
      unfold sti
      by_cases e : b = 14
      · rw [e, vup_s, vup_s, vup_s, vup_o (by decide)]
      · rw [vup_o e, vup_o e, vup_o e]
    unfold fX8_laysBy_2_s
    rw [if_neg (show ¬ (74 : Int32) ≤ nI k from nI_ge (b := 74) (by omega) (by decide)), cks _ (vp_in_nI (by omega) (by decide)), cks _ (vp_in_nI (by omega) (by decide)), lts, lts, nI_clamp (by omega), nI_1, e]
theorem lay_by (M : ST) : ∃ K, fX8_laysBy M = some (va_up M 14 K) ∧ ∀ i, i < 74 → K i = M 1 i := by
  obtain ⟨K, k1, k2⟩ := lby_l (M := M) 74 0 400 (M 14) (by omega) (by omega) (fun i hi => by omega)
  rw [vup_same] at k1
  exact ⟨K, k1, k2⟩
theorem lbk_l : ∀ (r k f : Nat) (M : ST), k + r = 74 → r < f → fX8_laysBack_2 f (nI k) M = some (va_up M 1 (fun i => if k ≤ i ∧ i < 74 then M 14 i else M 1 i)) := by
  intro r
  induction r with
  | zero =>
    intro k f M hk hf
    obtain ⟨f, rfl⟩ : ∃ n', f = n' + 1 := ⟨f - 1, by omega⟩
    show fX8_laysBack_2_s (fX8_laysBack_2 f) _ _ = _
    unfold fX8_laysBack_2_s
    rw [if_pos (show (74 : Int32) ≤ nI k from nI_le (a := 74) (by omega) (by omega))]
    congr 1
    funext b
    by_cases e : b = 1
    · rw [e, vup_s]
      funext i
      rw [if_neg (by omega)]
    · rw [vup_o e]
  | succ r ih =>
    intro k f M hk hf
    obtain ⟨f, rfl⟩ : ∃ n', f = n' + 1 := ⟨f - 1, by omega⟩
    show fX8_laysBack_2_s (fX8_laysBack_2 f) _ _ = _
    unfold fX8_laysBack_2_s
    rw [if_neg (show ¬ (74 : Int32) ≤ nI k from nI_ge (b := 74) (by omega) (by decide)), cks _ (vp_in_nI (by omega) (by decide)), cks _ (vp_in_nI (by omega) (by decide)), lts, lts, nI_clamp (by omega), nI_1, ih (k + 1) f _ (by omega) (by omega)]
    congr 1
    funext b
    by_cases e : b = 1
    · rw [e, vup_s, vup_s]
      funext i
      rw [sti_o (by decide), sti_s]
      by_cases q : i = k
      · rw [q, upd_s, if_neg (by omega), if_pos (by omega)]
      · rw [upd_n q]
        by_cases q2 : k + 1 ≤ i ∧ i < 74
        · rw [if_pos q2, if_pos (by omega)]
        · rw [if_neg q2, if_neg (by omega)]
    · rw [vup_o e, vup_o e, sti_o e]
theorem lay_ok {M M' : ST} {K : Nat → Int32} (hK : ∀ i, i < 74 → K i = M 1 i) (h14 : M' 14 = K) (h1 : ∀ i, 74 ≤ i → M' 1 i = M 1 i) : ∃ Mz, fX8_laysBack M' = some Mz ∧ Mz 1 = M 1 ∧ Mz 14 = K ∧ ∀ b, b ≠ 1 → Mz b = M' b := by
  refine ⟨_, lbk_l 74 0 400 M' (by omega) (by omega), ?_, ?_, fun b hb => vup_o hb⟩
  · rw [vup_s]
    funext i
    by_cases q : i < 74
    · rw [if_pos ⟨Nat.zero_le i, q⟩, h14, hK i q]
    · rw [if_neg (by omega), h1 i (by omega)]
  · rw [vup_o (by decide)]; exact h14
theorem ctx_ag {F C S M U M1 : ST} {n a : Nat} (h : ctx F C S M n a) (t2 : agS S U) (mm1 : M1 1 = M 1) : ctx F C U M1 n a := by
  have h' := h
  obtain ⟨hn, hF, a1, a4, hA, hc, i1, i2, i3, i4⟩ := h'
  have hi := inv_ag (agF_r F) (agC_r C) t2 (ctx_inv h).2
  obtain ⟨n', hn', hF', j1, j2, j3, j4⟩ := hi
  have en : n' = n := nI_inj (by omega) (by omega) (hF'.symm.trans hF)
  subst en
  exact ⟨hn, hF, a1, a4, (t2.2.2.1 0 (by decide)).trans hA, by rw [mm1]; exact core_ag (agF_r F) (agC_r C) t2 hc, j1, j2, j3, j4⟩
theorem start_e (Ch Se Us : ST) : ∃ U, fX0_start Ch Se Us = some U ∧ agS Se U ∧ U 0 8 = -1 ∧ U 0 9 = -1 := by
  obtain ⟨U, u1, u2⟩ := takeS Us Se
  exact ⟨U, by unfold fX0_start; rw [u1, b1s], u2⟩
theorem in_1k (k : Nat) (hk : k < 2 ^ 30) {x : Int32} (h : ¬ (x < 1 ∨ nI k < x)) : ∃ p : Nat, 1 ≤ p ∧ p ≤ k ∧ x = nI p := by
  have h0 : ¬ (x < 0 ∨ nI k < x) := fun q => h (q.elim (fun q => Or.inl (by rw [fa_lt] at q ⊢; exact Int.lt_trans q (by decide))) Or.inr)
  obtain ⟨p, hp, e⟩ := in_k k hk h0
  refine ⟨p, ?_, hp, e⟩
  rcases Nat.eq_zero_or_pos p with z | z
  · exfalso; apply h; rw [e, z]; exact Or.inl (by decide)
  · exact z
theorem isCh7_e (x : Int32) : fX7_isChairs x = some (if x < 1 ∨ 200 < x then 0 else 1) := by
  unfold fX7_isChairs
  rw [within_e, b1s, bli]
theorem isCh8_e (x : Int32) : fX8_isChairs x = some (if x < 1 ∨ 200 < x then 0 else 1) := by
  unfold fX8_isChairs
  rw [isIn8_e x 1 200 (by decide) (by decide), b1s, bli]
/-- the words of the state that stands: none is kept -/
theorem RR_lvl {Ma Fo Sc Se Tr Ch Us Ta Dr G0 : ST} {N0 : LT} {G1 : ST} {N1 : LT} {G2 : ST} {N2 : LT} {G3 : ST} {N3 : LT} {Fo2 Sc2 Se2 Tr2 Fo3 Sc3 Se3 Tr3 M : ST} {N : LT} (hR : RR Ma Fo Sc Se Tr Ch Us Ta Dr G0 N0 G1 N1 G2 N2 G3 N3 Fo2 Sc2 Se2 Tr2 Fo3 Sc3 Se3 Tr3 M N) {U M1 : ST} {n : Nat} (h8 : U 0 8 = -1) (h9 : U 0 9 = -1) (h0 : M1 0 = M 0) : lvl U M1 n := by
  obtain ⟨⟨-, -, -, -, w1, w2, fl⟩, -⟩ := hR
  unfold lvl
  rw [h0]
  exact ⟨fl, Or.inl ⟨h8, h9, w1, w2⟩⟩
