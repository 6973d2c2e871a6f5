-- the sheets: sheet, write
theorem rSh_keep {G : ST} {N : LT} {b l : Int32} {A A' : LT} {t : Nat} (h : rSh G N b l A t) (e : ∀ i, i < 40 → A' (40 * t + i) = A (40 * t + i)) : rSh G N b l A' t := ⟨h.1, h.2.1, h.2.2.1, fun i hi => (e i hi).trans (h.2.2.2 i hi)⟩
theorem RR_sh {Ma Fo Sc Se Tr Ch Us Ta Dr G0 : ST} {N0 : LT} {G1 : ST} {N1 : LT} {G2 : ST} {N2 : LT} {G3 : ST} {N3 : LT} {Fo2 Sc2 Se2 Tr2 Fo3 Sc3 Se3 Tr3 M : ST} {N : LT} (hR : RR Ma Fo Sc Se Tr Ch Us Ta Dr G0 N0 G1 N1 G2 N2 G3 N3 Fo2 Sc2 Se2 Tr2 Fo3 Sc3 Se3 Tr3 M N) {M' : ST} {N' : LT} {G0z : ST} {N0z : LT} {G1z : ST} {N1z : LT} {G2z : ST} {N2z : LT} {G3z : ST} {N3z : LT} (h4 : ∀ a, a ≠ 7 → a ≠ 8 → M' a = M a) (s0 : rSh G0z N0z (M' 7 0) (M' 8 0) N' 0) (s1 : rSh G1z N1z (M' 7 1) (M' 8 1) N' 1) (s2 : rSh G2z N2z (M' 7 2) (M' 8 2) N' 2) (s3 : rSh G3z N3z (M' 7 3) (M' 8 3) N' 3) : RR Ma Fo Sc Se Tr Ch Us Ta Dr G0z N0z G1z N1z G2z N2z G3z N3z Fo2 Sc2 Se2 Tr2 Fo3 Sc3 Se3 Tr3 M' N' := by
  unfold RR
  rw [h4 1 (by decide) (by decide), h4 2 (by decide) (by decide), h4 4 (by decide) (by decide), h4 0 (by decide) (by decide), h4 5 (by decide) (by decide)]
  obtain ⟨h, h2, h3, h5, -⟩ := hR
  exact ⟨h, h2, h3, h5, s0, s1, s2, s3⟩
theorem isSh8_e (x : Int32) : fX8_isSheet x = some (if x < 0 ∨ 3 < x then 0 else 1) := by
  unfold fX8_isSheet
  by_cases h1 : x < 0
  · rw [if_pos h1, if_pos (Or.inl h1)]
  · rw [if_neg h1]
    have e : (4 : Int32) ≤ x ↔ 3 < x := by
      rw [fa_le, fa_lt]
      have h4 : (4 : Int32).toInt = 4 := by decide
      have h3 : (3 : Int32).toInt = 3 := by decide
      omega
    by_cases h2 : (4 : Int32) ≤ x
    · rw [if_pos h2, if_pos (Or.inr (e.mp h2))]
    · rw [if_neg h2, if_neg (fun q => q.elim h1 (fun z => h2 (e.mpr z)))]
theorem isSh7_e (x : Int32) : fX7_isSheet x = some (if x < 0 ∨ 3 < x then 0 else 1) := by
  unfold fX7_isSheet
  rw [within_e, b1s, bli]
def zrN (N : LT) (t k : Nat) : LT := fun i => if 40 * t + k ≤ i ∧ i < 40 * t + 40 then 0 else N i
theorem zrN_at (N : LT) {t i : Nat} (hi : i < 40) : zrN N t 0 (40 * t + i) = 0 := if_pos ⟨by omega, by omega⟩
theorem zrN_out (N : LT) {t u i : Nat} (hu : u ≠ t) (hi : i < 40) : zrN N t 0 (40 * u + i) = N (40 * u + i) := if_neg (by omega)
theorem zrN_step (N : LT) {t k : Nat} (hk : k < 40) : zrN (vp_updL N (40 * t + k) 0) t (k + 1) = zrN N t k := by
  funext i
  unfold zrN vp_updL
  by_cases h : i = 40 * t + k
  · rw [if_neg (by omega), if_pos h, if_pos (by omega)]
  · rw [if_neg h]
    by_cases h2 : 40 * t + k ≤ i ∧ i < 40 * t + 40
    · rw [if_pos (by omega), if_pos h2]
    · rw [if_neg (by omega), if_neg h2]
theorem sheet94 {M : ST} {t : Nat} (ht : t < 4) : ∀ (r k f : Nat) (N : LT), k + r = 40 → r < f → fX8_sheet_94 f (nI t) (nI k) M N = some (M 8 t, M, zrN N t k) := by
  intro r
  induction r with
  | zero =>
    intro k f N hk hf
    obtain ⟨f, rfl⟩ : ∃ f', f = f' + 1 := ⟨f - 1, by omega⟩
    show fX8_sheet_94_s (fX8_sheet_94 f) _ _ _ _ = _
    unfold fX8_sheet_94_s
    have e : zrN N t k = N := by
      funext i
      exact if_neg (by omega)
    rw [if_pos (show (40 : Int32) ≤ nI k from nI_le (a := 40) (by omega) (by omega)), cks _ (vp_in_nI (by omega) (by decide)), nI_clamp (by omega), e]
  | succ r ih =>
    intro k f N hk hf
    obtain ⟨f, rfl⟩ : ∃ f', f = f' + 1 := ⟨f - 1, by omega⟩
    show fX8_sheet_94_s (fX8_sheet_94 f) _ _ _ _ = _
    unfold fX8_sheet_94_s
    have e : (40 : Int32) * nI t + nI k = nI (40 * t + k) := by rw [show (40 : Int32) = nI 40 from rfl, pk_mul, nI_add]
    rw [if_neg (show ¬ (40 : Int32) ≤ nI k from nI_ge (b := 40) (by omega) (by decide)), e, cks _ (vp_in_nI (n := 40 * t + k) (by omega) (by decide)), lts, lts, nI_clamp (by omega), nI_1, ih (k + 1) f _ (by omega) (by omega), zrN_step N (by omega)]
theorem fill40 : ∀ (r k f : Nat) (N : LT), k + r = 40 → r < f → fJ7_fill_d0a16_6 f 0 (nI k) 40 N = some (zrN N 0 k) := by
  intro r
  induction r with
  | zero =>
    intro k f N hk hf
    obtain ⟨f, rfl⟩ : ∃ f', f = f' + 1 := ⟨f - 1, by omega⟩
    show fJ7_fill_d0a16_6_s (fJ7_fill_d0a16_6 f) _ _ _ _ = _
    unfold fJ7_fill_d0a16_6_s
    have e : zrN N 0 k = N := by
      funext i
      exact if_neg (by omega)
    rw [if_pos (show (40 : Int32) ≤ nI k from nI_le (a := 40) (by omega) (by omega)), e]
  | succ r ih =>
    intro k f N hk hf
    obtain ⟨f, rfl⟩ : ∃ f', f = f' + 1 := ⟨f - 1, by omega⟩
    show fJ7_fill_d0a16_6_s (fJ7_fill_d0a16_6 f) _ _ _ _ = _
    unfold fJ7_fill_d0a16_6_s
    rw [if_neg (show ¬ (40 : Int32) ≤ nI k from nI_ge (b := 40) (by omega) (by decide)), cks _ (vp_in_nI (n := k) (by omega) (by decide)), lts, lts, nI_clamp (by omega), nI_1, ih (k + 1) f _ (by omega) (by omega)]
    have := zrN_step N (t := 0) (k := k) (by omega)
    rw [show 40 * 0 + k = k by omega] at this
    rw [this]
theorem lay_e (x l : Int32) (G : ST) (N : LT) : fX5_lay x l G N = some (sti (sti G 0 0 x) 0 1 l, zrN N 0 0) := by
  unfold fX5_lay fJ7_fill_d0a16
  rw [lts, lts, show fJ7_fill_d0a16_6 400 0 0 40 N = some (zrN N 0 0) from fill40 40 0 400 N (by omega) (by omega), b1s]
/-- the kind that the reference keeps, and the length -/
def shB (x : Int32) : Int32 := if x = 0 then -1 else x
def shL (x l : Int32) : Int32 := if x = 0 then 0 else l
theorem sheet8 {M : ST} {N : LT} {t : Nat} (ht : t < 4) (x l : Int32) (h0 : 0 ≤ l) (h1 : l ≤ 40) : fX8_sheet_36 (nI t) x l M N = some (shL x l, sti (sti M 7 t (shB x)) 8 t (shL x l), zrN N t 0) := by
  unfold fX8_sheet_36 fX8_sheet_75 shB shL
  have hs : ∀ (M' : ST), fX8_sheet_94 400 (nI t) 0 M' N = some (M' 8 t, M', zrN N t 0) := fun M' => sheet94 ht 40 0 400 N (by omega) (by omega)
  have u : ∀ (M' : ST) (v : Int32), (sti M' 8 t v) 8 t = v := fun M' v => upd_s
  rw [if_pos h0, if_pos h1]
  by_cases hx : x = 0
  · simp only [if_pos hx]
    rw [cks _ (vp_in_nI ht (by decide)), lts, cks _ (vp_in_nI ht (by decide)), lts, nI_clamp (by omega), hs, u]
  · simp only [if_neg hx]
    rw [cks _ (vp_in_nI ht (by decide)), lts, cks _ (vp_in_nI ht (by decide)), lts, nI_clamp (by omega), hs, u]
theorem rSh_new {G : ST} {N : LT} {N' : LT} {t : Nat} {x l : Int32} (hx : x = 0 ∨ x = 8 ∨ x = 16 ∨ x = 64) (h0 : 0 ≤ l) (h1 : l ≤ 40) (hN : ∀ i, i < 40 → N' (40 * t + i) = 0) : rSh (sti (sti G 0 0 x) 0 1 (shL x l)) (zrN N 0 0) (shB x) (shL x l) N' t := by
  refine ⟨?_, ?_, rfl, fun i hi => (hN i hi).trans (by have := zrN_at N (t := 0) hi; rw [show 40 * 0 + i = i by omega] at this; exact this.symm)⟩
  · show (x = 0 ∧ shB x = -1) ∨ ((x = 8 ∨ x = 16 ∨ x = 64) ∧ shB x = x)
    rcases hx with rfl | h
    · exact Or.inl ⟨rfl, rfl⟩
    · refine Or.inr ⟨h, if_neg ?_⟩
      rcases h with rfl | rfl | rfl <;> decide
  · show ∃ n : Nat, n ≤ 40 ∧ shL x l = nI n
    unfold shL
    by_cases e : x = 0
    · exact ⟨0, by decide, if_pos e⟩
    · rw [if_neg e]
      have hl : ¬ (l < 0 ∨ nI 40 < l) := fun q => q.elim (fun z => (fa_of_lt z).2.1 h0) (fun z => (fa_of_lt z).2.1 h1)
      obtain ⟨p, hp, e2⟩ := in_k 40 (by decide) hl
      exact ⟨p, hp, e2⟩
theorem four {x : Int32} (h : ¬ (x < 0 ∨ 3 < x)) : x = 0 ∨ x = 1 ∨ x = 2 ∨ x = 3 := by
  obtain ⟨p, hp, rfl⟩ := in_k 3 (by decide) h
  rcases (show p = 0 ∨ p = 1 ∨ p = 2 ∨ p = 3 by omega) with rfl | rfl | rfl | rfl
  · exact Or.inl rfl
  · exact Or.inr (Or.inl rfl)
  · exact Or.inr (Or.inr (Or.inl rfl))
  · exact Or.inr (Or.inr (Or.inr rfl))
theorem P_sheet_ok : P_sheet RR := by
  intro x1 x2 x3 Ma Fo Sc Se Tr Ch Us Ta Dr G0 N0 G1 N1 G2 N2 G3 N3 Fo2 Sc2 Se2 Tr2 Fo3 Sc3 Se3 Tr3 M N hR
  unfold fX7_sheet fX8_sheet fX7_sheet_29 fX8_sheet_29
  rw [isSh7_e, isSh8_e, b1s, b1s, fd7_0, fd8_0, b2s, b2s]
  by_cases c1 : x1 < 0 ∨ 3 < x1
  · exact ⟨-1000000001, fMa 0 Ma, G0, N0, G1, N1, G2, N2, G3, N3, fM 0 M, N, by rw [if_pos c1, if_pos rfl], by rw [if_pos c1, if_pos rfl], RR_f hR 0 (by decide)⟩
  rw [if_neg c1, i10, i10]
  by_cases c2 : x2 = 0 ∨ x2 = 8 ∨ x2 = 16 ∨ x2 = 64
  rotate_left
  · have a1 : ¬ x2 = 0 := fun h => c2 (Or.inl h)
    have a2 : ¬ x2 = 8 := fun h => c2 (Or.inr (Or.inl h))
    have a3 : ¬ x2 = 16 := fun h => c2 (Or.inr (Or.inr (Or.inl h)))
    have a4 : ¬ x2 = 64 := fun h => c2 (Or.inr (Or.inr (Or.inr h)))
    exact ⟨-1000000001, fMa 0 Ma, G0, N0, G1, N1, G2, N2, G3, N3, fM 0 M, N, by rw [if_neg a1, if_neg a2, if_neg a3, if_neg a4], by rw [if_neg a1, if_neg a2, if_neg a3, if_neg a4], RR_f hR 0 (by decide)⟩
  have pick : ∀ {α : Type} (a b : α), (if x2 = 0 then a else if x2 = 8 then a else if x2 = 16 then a else if x2 = 64 then a else b) = a := fun {α} a b => by
    rcases c2 with h | h | h | h
    · rw [if_pos h]
    · rw [if_neg (by rw [h]; decide), if_pos h]
    · rw [if_neg (by rw [h]; decide), if_neg (by rw [h]; decide), if_pos h]
    · rw [if_neg (by rw [h]; decide), if_neg (by rw [h]; decide), if_neg (by rw [h]; decide), if_pos h]
  rw [pick, pick]
  by_cases c3 : 0 ≤ x3
  rotate_left
  · unfold fX7_sheet_36 fX8_sheet_36
    rw [if_neg c3, if_neg c3, fd7_6, fd8_6, b2s, b2s]
    exact ⟨-1000000007, fMa 6 Ma, G0, N0, G1, N1, G2, N2, G3, N3, fM 6 M, N, rfl, rfl, RR_f hR 6 (by decide)⟩
  by_cases c4 : x3 ≤ 40
  rotate_left
  · unfold fX7_sheet_36 fX8_sheet_36
    rw [if_pos c3, if_pos c3, if_neg c4, if_neg c4, fd7_0, fd8_0, b2s, b2s]
    exact ⟨-1000000001, fMa 0 Ma, G0, N0, G1, N1, G2, N2, G3, N3, fM 0 M, N, rfl, rfl, RR_f hR 0 (by decide)⟩
  have hl : ∀ (G : ST) (N : LT) {β : Type} (k : ST → LT → Option β), (if x2 = 0 then dc_b2 (fX5_lay x2 0 G N) k else dc_b2 (fX5_lay x2 x3 G N) k) = k (sti (sti G 0 0 x2) 0 1 (shL x2 x3)) (zrN N 0 0) := fun G N {β} k => by
    unfold shL
    by_cases e : x2 = 0
    · rw [if_pos e, if_pos e, lay_e, b2s]
    · rw [if_neg e, if_neg e, lay_e, b2s]
  obtain ⟨s0, s1, s2, s3⟩ := hR.2.2.2.2
  rcases four c1 with rfl | rfl | rfl | rfl
  · refine ⟨shL x2 x3, Ma, sti (sti G0 0 0 x2) 0 1 (shL x2 x3), zrN N0 0 0, G1, N1, G2, N2, G3, N3, sti (sti M 7 0 (shB x2)) 8 0 (shL x2 x3), zrN N 0 0, ?_, sheet8 (t := 0) (by decide) x2 x3 c3 c4, RR_sh hR (fun a a7 a8 => by unfold sti va_up; rw [if_neg a8, if_neg a7]) (rSh_new c2 c3 c4 (fun i hi => zrN_at N hi)) (rSh_keep s1 (fun i hi => zrN_out N (by decide) hi)) (rSh_keep s2 (fun i hi => zrN_out N (by decide) hi)) (rSh_keep s3 (fun i hi => zrN_out N (by decide) hi))⟩
    unfold fX7_sheet_36
    rw [if_pos c3, if_pos c4, if_pos (show (0 : Int32) = 0 from rfl)]
    exact hl G0 N0 _
  · refine ⟨shL x2 x3, Ma, G0, N0, sti (sti G1 0 0 x2) 0 1 (shL x2 x3), zrN N1 0 0, G2, N2, G3, N3, sti (sti M 7 1 (shB x2)) 8 1 (shL x2 x3), zrN N 1 0, ?_, sheet8 (t := 1) (by decide) x2 x3 c3 c4, RR_sh hR (fun a a7 a8 => by unfold sti va_up; rw [if_neg a8, if_neg a7]) (rSh_keep s0 (fun i hi => zrN_out N (by decide) hi)) (rSh_new c2 c3 c4 (fun i hi => zrN_at N hi)) (rSh_keep s2 (fun i hi => zrN_out N (by decide) hi)) (rSh_keep s3 (fun i hi => zrN_out N (by decide) hi))⟩
    unfold fX7_sheet_36
    rw [if_pos c3, if_pos c4, if_neg (show ¬ (1 : Int32) = 0 by decide), if_pos (show (1 : Int32) = 1 from rfl)]
    exact hl G1 N1 _
  · refine ⟨shL x2 x3, Ma, G0, N0, G1, N1, sti (sti G2 0 0 x2) 0 1 (shL x2 x3), zrN N2 0 0, G3, N3, sti (sti M 7 2 (shB x2)) 8 2 (shL x2 x3), zrN N 2 0, ?_, sheet8 (t := 2) (by decide) x2 x3 c3 c4, RR_sh hR (fun a a7 a8 => by unfold sti va_up; rw [if_neg a8, if_neg a7]) (rSh_keep s0 (fun i hi => zrN_out N (by decide) hi)) (rSh_keep s1 (fun i hi => zrN_out N (by decide) hi)) (rSh_new c2 c3 c4 (fun i hi => zrN_at N hi)) (rSh_keep s3 (fun i hi => zrN_out N (by decide) hi))⟩
    unfold fX7_sheet_36
    rw [if_pos c3, if_pos c4, if_neg (show ¬ (2 : Int32) = 0 by decide), if_neg (show ¬ (2 : Int32) = 1 by decide), if_pos (show (2 : Int32) = 2 from rfl)]
    exact hl G2 N2 _
  · refine ⟨shL x2 x3, Ma, G0, N0, G1, N1, G2, N2, sti (sti G3 0 0 x2) 0 1 (shL x2 x3), zrN N3 0 0, sti (sti M 7 3 (shB x2)) 8 3 (shL x2 x3), zrN N 3 0, ?_, sheet8 (t := 3) (by decide) x2 x3 c3 c4, RR_sh hR (fun a a7 a8 => by unfold sti va_up; rw [if_neg a8, if_neg a7]) (rSh_keep s0 (fun i hi => zrN_out N (by decide) hi)) (rSh_keep s1 (fun i hi => zrN_out N (by decide) hi)) (rSh_keep s2 (fun i hi => zrN_out N (by decide) hi)) (rSh_new c2 c3 c4 (fun i hi => zrN_at N hi))⟩
    unfold fX7_sheet_36
    rw [if_pos c3, if_pos c4, if_neg (show ¬ (3 : Int32) = 0 by decide), if_neg (show ¬ (3 : Int32) = 1 by decide), if_neg (show ¬ (3 : Int32) = 2 by decide), if_pos (show (3 : Int32) = 3 from rfl)]
    exact hl G3 N3 _
theorem in_len {n : Nat} (hn : n ≤ 40) {x : Int32} (h : ¬ (x < 0 ∨ nI n - 1 < x)) : ∃ p : Nat, p < n ∧ x = nI p := by
  rw [sub1_lt (by omega)] at h
  rcases pk_ix x (n := n) (by omega) with h1 | h1 | h1
  · exact absurd (Or.inl h1) h
  · exact absurd (Or.inr h1) h
  · exact h1
theorem miss7 {G : ST} {N : LT} {b l : Int32} {A : LT} {t : Nat} (h : rSh G N b l A t) : fX5_isMissing G = some (if 0 ≤ b then 0 else 1) := by
  unfold fX5_isMissing
  rcases h.1 with ⟨h1, h2⟩ | ⟨h1, h2⟩
  · rw [if_pos h1, h2]; rfl
  · rw [h2]
    rcases h1 with e | e | e <;> rw [e] <;> rfl
theorem low_e {G : ST} {N : LT} {b l : Int32} {A : LT} {t : Nat} (h : rSh G N b l A t) (x : Int64) (hb : 0 ≤ b) : ∃ z, fX5_lowest x G = some z ∧ fX8_narrow b x = some z := by
  rcases h.1 with ⟨h1, h2⟩ | ⟨h1, h2⟩
  · rw [h2] at hb; exact absurd hb (by decide)
  · unfold fX5_lowest fX8_narrow
    rw [h2]
    by_cases e8 : G 0 0 = 8
    · rw [if_pos e8]; exact ⟨_, rfl, rfl⟩
    · rw [if_neg e8]
      by_cases e16 : G 0 0 = 16
      · rw [if_pos e16]; exact ⟨_, rfl, rfl⟩
      · rw [if_neg e16]; exact ⟨_, rfl, rfl⟩
theorem updL_out (N : LT) {t u p i : Nat} (x : Int64) (hu : u ≠ t) (hp : p < 40) (hi : i < 40) : vp_updL N (40 * t + p) x (40 * u + i) = N (40 * u + i) := if_neg (by omega)
theorem rSh_upd {G : ST} {N : LT} {b l : Int32} {A : LT} {t p : Nat} (h : rSh G N b l A t) (hp : p < 40) (x : Int64) : rSh G (vp_updL N p x) b l (vp_updL A (40 * t + p) x) t := by
  refine ⟨h.1, h.2.1, h.2.2.1, fun i hi => ?_⟩
  unfold vp_updL
  by_cases e : i = p
  · rw [if_pos (by omega), if_pos e]
  · rw [if_neg (by omega), if_neg e]; exact h.2.2.2 i hi
theorem P_write_ok : P_write RR := by
  intro x1 x2 x3 Ma Fo Sc Se Tr Ch Us Ta Dr G0 N0 G1 N1 G2 N2 G3 N3 Fo2 Sc2 Se2 Tr2 Fo3 Sc3 Se3 Tr3 M N hR
  unfold fX7_write fX8_write
  rw [isSh7_e, isSh8_e, b1s, b1s]
  by_cases c1 : x1 < 0 ∨ 3 < x1
  · exact ⟨(-1000000001 : Int32).toInt64, fMa 0 Ma, N0, N1, N2, N3, fM 0 M, N, by rw [if_pos c1, if_pos rfl, fd7_0, b2s], by rw [if_pos c1, if_pos rfl, fd8_0, b2s], RR_f hR 0 (by decide)⟩
  rw [if_neg c1, i10, i10]
  obtain ⟨s0, s1, s2, s3⟩ := hR.2.2.2.2
  have e40 : ∀ t p : Nat, (40 : Int32) * nI t + nI p = nI (40 * t + p) := fun t p => by rw [show (40 : Int32) = nI 40 from rfl, pk_mul, nI_add]
  rcases four c1 with rfl | rfl | rfl | rfl
  · have v4 : vp_in (0 : Int32) 4 := vp_in_nI (n := 0) (by decide) (by decide)
    have cl : Int32.toNatClampNeg (0 : Int32) = 0 := nI_clamp (n := 0) (by decide)
    have e4 : ∀ p : Nat, (40 : Int32) * (0 : Int32) + nI p = nI (40 * 0 + p) := fun p => e40 0 p
    rw [if_pos (show (0 : Int32) = 0 from rfl), miss7 s0, b1s, cks _ v4, cl]
    by_cases c2 : 0 ≤ M 7 0
    rotate_left
    · exact ⟨(-1000000006 : Int32).toInt64, fMa 5 Ma, N0, N1, N2, N3, fM 5 M, N, by rw [if_neg c2, if_neg (show ¬ (1 : Int32) = 0 by decide), fd7_5, b2s], by rw [if_neg c2, fd8_5, b2s], RR_f hR 5 (by decide)⟩
    obtain ⟨n, hn, hl⟩ := s0.2.1
    have hl8 : M 8 0 = nI n := s0.2.2.1.trans hl
    have j1 : fX8_isIn x2.toInt64 0 (nI n - 1).toInt64 = some (if x2 < 0 ∨ nI n - 1 < x2 then 0 else 1) := isIn8_e x2 0 (nI n - 1) (by decide) rfl
    rw [if_pos c2, if_pos rfl, if_pos c2, hl, hl8, within_e, b1s, cks _ v4, j1, b1s]
    by_cases c3 : x2 < 0 ∨ nI n - 1 < x2
    · exact ⟨(-1000000001 : Int32).toInt64, fMa 0 Ma, N0, N1, N2, N3, fM 0 M, N, by rw [if_pos c3, if_pos rfl, fd7_0, b2s], by rw [if_pos c3, if_pos rfl, fd8_0, b2s], RR_f hR 0 (by decide)⟩
    obtain ⟨p, hp, rfl⟩ := in_len hn c3
    obtain ⟨z, z1, z2⟩ := low_e s0 x3 c2
    refine ⟨N0 p, Ma, vp_updL N0 p z, N1, N2, N3, M, vp_updL N (40 * 0 + p) z, ?_, ?_, RR_sh hR (fun a _ _ => rfl) (rSh_upd s0 (by omega) z) (rSh_keep s1 (fun i hi => updL_out N (t := 0) z (by decide) (by omega) hi)) (rSh_keep s2 (fun i hi => updL_out N (t := 0) z (by decide) (by omega) hi)) (rSh_keep s3 (fun i hi => updL_out N (t := 0) z (by decide) (by omega) hi))⟩
    · rw [if_neg c3, i10, cks _ (vp_in_nI (by omega) (by decide)), lts, nI_clamp (by omega), z1, b1s, cks _ (vp_in_nI (by omega) (by decide)), lts]
    · rw [if_neg c3, i10, e4, cks _ (vp_in_nI (n := 40 * 0 + p) (by omega) (by decide)), lts, cks _ v4, z2, b1s, cks _ (vp_in_nI (n := 40 * 0 + p) (by omega) (by decide)), lts, nI_clamp (by omega), s0.2.2.2 p (by omega)]
  · have v4 : vp_in (1 : Int32) 4 := vp_in_nI (n := 1) (by decide) (by decide)
    have cl : Int32.toNatClampNeg (1 : Int32) = 1 := nI_clamp (n := 1) (by decide)
    have e4 : ∀ p : Nat, (40 : Int32) * (1 : Int32) + nI p = nI (40 * 1 + p) := fun p => e40 1 p
    rw [if_neg (show ¬ (1 : Int32) = 0 by decide), if_pos (show (1 : Int32) = 1 from rfl), miss7 s1, b1s, cks _ v4, cl]
    by_cases c2 : 0 ≤ M 7 1
    rotate_left
    · exact ⟨(-1000000006 : Int32).toInt64, fMa 5 Ma, N0, N1, N2, N3, fM 5 M, N, by rw [if_neg c2, if_neg (show ¬ (1 : Int32) = 0 by decide), fd7_5, b2s], by rw [if_neg c2, fd8_5, b2s], RR_f hR 5 (by decide)⟩
    obtain ⟨n, hn, hl⟩ := s1.2.1
    have hl8 : M 8 1 = nI n := s1.2.2.1.trans hl
    have j1 : fX8_isIn x2.toInt64 0 (nI n - 1).toInt64 = some (if x2 < 0 ∨ nI n - 1 < x2 then 0 else 1) := isIn8_e x2 0 (nI n - 1) (by decide) rfl
    rw [if_pos c2, if_pos rfl, if_pos c2, hl, hl8, within_e, b1s, cks _ v4, j1, b1s]
    by_cases c3 : x2 < 0 ∨ nI n - 1 < x2
    · exact ⟨(-1000000001 : Int32).toInt64, fMa 0 Ma, N0, N1, N2, N3, fM 0 M, N, by rw [if_pos c3, if_pos rfl, fd7_0, b2s], by rw [if_pos c3, if_pos rfl, fd8_0, b2s], RR_f hR 0 (by decide)⟩
    obtain ⟨p, hp, rfl⟩ := in_len hn c3
    obtain ⟨z, z1, z2⟩ := low_e s1 x3 c2
    refine ⟨N1 p, Ma, N0, vp_updL N1 p z, N2, N3, M, vp_updL N (40 * 1 + p) z, ?_, ?_, RR_sh hR (fun a _ _ => rfl) (rSh_keep s0 (fun i hi => updL_out N (t := 1) z (by decide) (by omega) hi)) (rSh_upd s1 (by omega) z) (rSh_keep s2 (fun i hi => updL_out N (t := 1) z (by decide) (by omega) hi)) (rSh_keep s3 (fun i hi => updL_out N (t := 1) z (by decide) (by omega) hi))⟩
    · rw [if_neg c3, i10, cks _ (vp_in_nI (by omega) (by decide)), lts, nI_clamp (by omega), z1, b1s, cks _ (vp_in_nI (by omega) (by decide)), lts]
    · rw [if_neg c3, i10, e4, cks _ (vp_in_nI (n := 40 * 1 + p) (by omega) (by decide)), lts, cks _ v4, z2, b1s, cks _ (vp_in_nI (n := 40 * 1 + p) (by omega) (by decide)), lts, nI_clamp (by omega), s1.2.2.2 p (by omega)]
  · have v4 : vp_in (2 : Int32) 4 := vp_in_nI (n := 2) (by decide) (by decide)
    have cl : Int32.toNatClampNeg (2 : Int32) = 2 := nI_clamp (n := 2) (by decide)
    have e4 : ∀ p : Nat, (40 : Int32) * (2 : Int32) + nI p = nI (40 * 2 + p) := fun p => e40 2 p
    rw [if_neg (show ¬ (2 : Int32) = 0 by decide), if_neg (show ¬ (2 : Int32) = 1 by decide), if_pos (show (2 : Int32) = 2 from rfl), miss7 s2, b1s, cks _ v4, cl]
    by_cases c2 : 0 ≤ M 7 2
    rotate_left
    · exact ⟨(-1000000006 : Int32).toInt64, fMa 5 Ma, N0, N1, N2, N3, fM 5 M, N, by rw [if_neg c2, if_neg (show ¬ (1 : Int32) = 0 by decide), fd7_5, b2s], by rw [if_neg c2, fd8_5, b2s], RR_f hR 5 (by decide)⟩
    obtain ⟨n, hn, hl⟩ := s2.2.1
    have hl8 : M 8 2 = nI n := s2.2.2.1.trans hl
    have j1 : fX8_isIn x2.toInt64 0 (nI n - 1).toInt64 = some (if x2 < 0 ∨ nI n - 1 < x2 then 0 else 1) := isIn8_e x2 0 (nI n - 1) (by decide) rfl
    rw [if_pos c2, if_pos rfl, if_pos c2, hl, hl8, within_e, b1s, cks _ v4, j1, b1s]
    by_cases c3 : x2 < 0 ∨ nI n - 1 < x2
    · exact ⟨(-1000000001 : Int32).toInt64, fMa 0 Ma, N0, N1, N2, N3, fM 0 M, N, by rw [if_pos c3, if_pos rfl, fd7_0, b2s], by rw [if_pos c3, if_pos rfl, fd8_0, b2s], RR_f hR 0 (by decide)⟩
    obtain ⟨p, hp, rfl⟩ := in_len hn c3
    obtain ⟨z, z1, z2⟩ := low_e s2 x3 c2
    refine ⟨N2 p, Ma, N0, N1, vp_updL N2 p z, N3, M, vp_updL N (40 * 2 + p) z, ?_, ?_, RR_sh hR (fun a _ _ => rfl) (rSh_keep s0 (fun i hi => updL_out N (t := 2) z (by decide) (by omega) hi)) (rSh_keep s1 (fun i hi => updL_out N (t := 2) z (by decide) (by omega) hi)) (rSh_upd s2 (by omega) z) (rSh_keep s3 (fun i hi => updL_out N (t := 2) z (by decide) (by omega) hi))⟩
    · rw [if_neg c3, i10, cks _ (vp_in_nI (by omega) (by decide)), lts, nI_clamp (by omega), z1, b1s, cks _ (vp_in_nI (by omega) (by decide)), lts]
    · rw [if_neg c3, i10, e4, cks _ (vp_in_nI (n := 40 * 2 + p) (by omega) (by decide)), lts, cks _ v4, z2, b1s, cks _ (vp_in_nI (n := 40 * 2 + p) (by omega) (by decide)), lts, nI_clamp (by omega), s2.2.2.2 p (by omega)]
  · have v4 : vp_in (3 : Int32) 4 := vp_in_nI (n := 3) (by decide) (by decide)
    have cl : Int32.toNatClampNeg (3 : Int32) = 3 := nI_clamp (n := 3) (by decide)
    have e4 : ∀ p : Nat, (40 : Int32) * (3 : Int32) + nI p = nI (40 * 3 + p) := fun p => e40 3 p
    rw [if_neg (show ¬ (3 : Int32) = 0 by decide), if_neg (show ¬ (3 : Int32) = 1 by decide), if_neg (show ¬ (3 : Int32) = 2 by decide), if_pos (show (3 : Int32) = 3 from rfl), miss7 s3, b1s, cks _ v4, cl]
    by_cases c2 : 0 ≤ M 7 3
    rotate_left
    · exact ⟨(-1000000006 : Int32).toInt64, fMa 5 Ma, N0, N1, N2, N3, fM 5 M, N, by rw [if_neg c2, if_neg (show ¬ (1 : Int32) = 0 by decide), fd7_5, b2s], by rw [if_neg c2, fd8_5, b2s], RR_f hR 5 (by decide)⟩
    obtain ⟨n, hn, hl⟩ := s3.2.1
    have hl8 : M 8 3 = nI n := s3.2.2.1.trans hl
    have j1 : fX8_isIn x2.toInt64 0 (nI n - 1).toInt64 = some (if x2 < 0 ∨ nI n - 1 < x2 then 0 else 1) := isIn8_e x2 0 (nI n - 1) (by decide) rfl
    rw [if_pos c2, if_pos rfl, if_pos c2, hl, hl8, within_e, b1s, cks _ v4, j1, b1s]
    by_cases c3 : x2 < 0 ∨ nI n - 1 < x2
    · exact ⟨(-1000000001 : Int32).toInt64, fMa 0 Ma, N0, N1, N2, N3, fM 0 M, N, by rw [if_pos c3, if_pos rfl, fd7_0, b2s], by rw [if_pos c3, if_pos rfl, fd8_0, b2s], RR_f hR 0 (by decide)⟩
    obtain ⟨p, hp, rfl⟩ := in_len hn c3
    obtain ⟨z, z1, z2⟩ := low_e s3 x3 c2
    refine ⟨N3 p, Ma, N0, N1, N2, vp_updL N3 p z, M, vp_updL N (40 * 3 + p) z, ?_, ?_, RR_sh hR (fun a _ _ => rfl) (rSh_keep s0 (fun i hi => updL_out N (t := 3) z (by decide) (by omega) hi)) (rSh_keep s1 (fun i hi => updL_out N (t := 3) z (by decide) (by omega) hi)) (rSh_keep s2 (fun i hi => updL_out N (t := 3) z (by decide) (by omega) hi)) (rSh_upd s3 (by omega) z)⟩
    · rw [if_neg c3, i10, cks _ (vp_in_nI (by omega) (by decide)), lts, nI_clamp (by omega), z1, b1s, cks _ (vp_in_nI (by omega) (by decide)), lts]
    · rw [if_neg c3, i10, e4, cks _ (vp_in_nI (n := 40 * 3 + p) (by omega) (by decide)), lts, cks _ v4, z2, b1s, cks _ (vp_in_nI (n := 40 * 3 + p) (by omega) (by decide)), lts, nI_clamp (by omega), s3.2.2.2 p (by omega)]
