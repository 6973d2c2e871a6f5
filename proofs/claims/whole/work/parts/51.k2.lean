-- tallies: share, has, but
def ind (F : ST) (x : Int32) (t : Nat) : Int32 := if x < 0 then 0 else if F 4 x.toNatClampNeg = nI t then 1 else 0
def wv (F : ST) (x : Int32) (t : Nat) : Int32 := if x < 0 then 0 else F 8 (4 * (F 4 x.toNatClampNeg).toNatClampNeg + t)
theorem ind_m (F : ST) (t : Nat) : ind F (-1) t = 0 := if_pos m1_lt
theorem wv_m (F : ST) (t : Nat) : wv F (-1) t = 0 := if_pos m1_lt
theorem ind_e {F : ST} {s u t : Nat} (hs : s < 10) (e : F 4 s = nI u) (hu : u < 4) (ht : t < 4) : ind F (nI s) t = if u = t then 1 else 0 := by
  unfold ind
  rw [if_neg (nI_pos (by omega)), nI_clamp (by omega), e]
  by_cases q : u = t
  · rw [if_pos q, if_pos (by rw [q])]
  · rw [if_neg q, if_neg (fun z => q (nI_inj (by omega) (by omega) z))]
theorem wv_e {F : ST} {s u t : Nat} (hs : s < 10) (e : F 4 s = nI u) (hu : u < 4) : wv F (nI s) t = F 8 (4 * u + t) := by
  unfold wv
  rw [if_neg (nI_pos (by omega)), nI_clamp (by omega), e, nI_clamp (by omega)]
theorem sm_1 (f : Nat → Int32) (k : Nat) : sm f (k + 1) = sm f k + f k := rfl
theorem tal_l {F M : ST} {x : S3} {n a N : Nat} (h : ctx F x.2.1 x.1 M n a) (hl : lvl x.1 M n) (hN : N ≤ 200) : ∀ (r k f : Nat) (Ch : ST), k + r = N → r < f → (∀ t, t < 4 → Ch 3 t = sm (fun j => ind F (itR F x j) t) k) → ∃ Ch', fX0_tally_10 F f (nI N) (nI k) Ch (itS F x k).2.1 (itS F x k).2.2 (itS F x k).1 = some (Ch', (itS F x N).2.1, (itS F x N).2.2, (itS F x N).1) ∧ (∀ c, c ≠ 3 → Ch' c = Ch c) ∧ ∀ t, t < 4 → Ch' 3 t = sm (fun j => ind F (itR F x j) t) N := by
  intro r
  induction r with
  | zero =>
    intro k f Ch hk hf hC
    obtain ⟨f, rfl⟩ : ∃ n', f = n' + 1 := ⟨f - 1, by omega⟩
    have ek : k = N := by omega
    subst ek
    refine ⟨Ch, ?_, fun _ _ => rfl, hC⟩
    show fX0_tally_10_s F (fX0_tally_10 F f) _ _ _ _ _ _ = _
    unfold fX0_tally_10_s
    rw [if_pos (nI_le (by omega) (by omega))]
  | succ r ih =>
    intro k f Ch hk hf hC
    obtain ⟨f, rfl⟩ : ∃ n', f = n' + 1 := ⟨f - 1, by omega⟩
    have E : fX0_tally_10 F (f + 1) (nI N) (nI k) Ch (itS F x k).2.1 (itS F x k).2.2 (itS F x k).1 = fX0_tally_10_s F (fX0_tally_10 F f) (nI N) (nI k) Ch (itS F x k).2.1 (itS F x k).2.2 (itS F x k).1 := rfl
    rw [E]
    unfold fX0_tally_10_s
    obtain ⟨s1, s2, s3, s4⟩ := it_st h hl k
    rw [if_neg (nI_ge (by omega) (by omega)), s1, b4s]
    rcases s3 with e | ⟨s, hs, e⟩
    · rw [if_pos e, lts, nI_1]
      refine ih (k + 1) f Ch (by omega) (by omega) (fun t ht => ?_)
      rw [sm_1, e, ind_m, Int32.add_zero]; exact hC t ht
    · have hn := h.1
      obtain ⟨u, hu, eu⟩ := (h.2.2.2.2.2.2.1.1 s (by omega)).2.2
      rw [e, if_neg (nI_m1 (by omega)), cks _ (vp_in_nI (show s < 10 by omega) (by decide)), nI_clamp (show s < 2 ^ 31 by omega), eu, cks _ (vp_in_nI hu (by decide)), cks _ (vp_in_nI hu (by decide)), nI_clamp (show u < 2 ^ 31 by omega), lts, lts, nI_1]
      obtain ⟨Ch', c1, c2, c3⟩ := ih (k + 1) f (sti Ch 3 u (Ch 3 u + 1)) (by omega) (by omega) (fun t ht => by
        rw [sm_1, e, ind_e (by omega) eu hu ht, sti_s]
        by_cases q : t = u
        · rw [q, upd_s, if_pos rfl, hC u hu]
        · rw [upd_n q, if_neg (fun z => q z.symm), Int32.add_zero]; exact hC t ht)
      exact ⟨Ch', c1, fun c hc => by rw [c2 c hc, sti_o hc], c3⟩
theorem fill4 (f : Nat → Int32) : ∃ g, fJ7_fill_53178 0 f = some g ∧ ∀ k, k < 4 → g k = 0 := by
  refine ⟨upd (upd (upd (upd f 0 0) 1 0) 2 0) 3 0, rfl, fun k hk => ?_⟩
  match k, hk with
  | 0, _ => rfl
  | 1, _ => rfl
  | 2, _ => rfl
  | 3, _ => rfl
theorem tal_e {F M : ST} {x : S3} {n a N : Nat} (h : ctx F x.2.1 x.1 M n a) (hl : lvl x.1 M n) (hN : N ≤ 200) (Ch : ST) : ∃ Ch', fX0_tally (nI N) Ch F x.2.1 x.2.2 x.1 = some (Ch', (itS F x N).2.1, (itS F x N).2.2, (itS F x N).1) ∧ (∀ c, c ≠ 3 → Ch' c = Ch c) ∧ ∀ t, t < 4 → Ch' 3 t = sm (fun j => ind F (itR F x j) t) N := by
  obtain ⟨g, g1, g2⟩ := fill4 (Ch 3)
  obtain ⟨Ch', c1, c2, c3⟩ := tal_l h hl hN N 0 400 (va_up Ch 3 g) (by omega) (by omega) (fun t ht => by rw [vup_s]; exact g2 t ht)
  refine ⟨Ch', ?_, fun c hc => by rw [c2 c hc, vup_o hc], c3⟩
  unfold fX0_tally
  rw [g1, b1s, lts]
  exact c1
theorem wf_l {Ch F : ST} {t : Nat} (ht : t < 4) : ∀ (r k f : Nat), k + r = 4 → r < f → fX0_worthFor_4 Ch F f (nI t) (sm (fun s => Ch 3 s * F 8 (4 * s + t)) k) (nI k) = some (sm (fun s => Ch 3 s * F 8 (4 * s + t)) 4) := by
  intro r
  induction r with
  | zero =>
    intro k f hk hf
    obtain ⟨f, rfl⟩ : ∃ n', f = n' + 1 := ⟨f - 1, by omega⟩
    show fX0_worthFor_4_s Ch F (fX0_worthFor_4 Ch F f) _ _ _ = _
    unfold fX0_worthFor_4_s
    rw [if_pos (show (4 : Int32) ≤ nI k from nI_le (a := 4) (by omega) (by omega)), show k = 4 by omega]
  | succ r ih =>
    intro k f hk hf
    obtain ⟨f, rfl⟩ : ∃ n', f = n' + 1 := ⟨f - 1, by omega⟩
    have ih := ih (k + 1) f (by omega) (by omega)
    show fX0_worthFor_4_s Ch F (fX0_worthFor_4 Ch F f) _ _ _ = _
    unfold fX0_worthFor_4_s
    have e : nI k * 4 + nI t = nI (4 * k + t) := by rw [show (4 : Int32) = nI 4 from rfl, pk_mul, nI_add, Nat.mul_comm]
    rw [if_neg (show ¬ (4 : Int32) ≤ nI k from nI_ge (b := 4) (by omega) (by decide)), e, cks _ (vp_in_nI (by omega) (by decide)), cks _ (vp_in_nI (by omega) (by decide)), nI_clamp (by omega), nI_clamp (by omega), lts, lts, nI_1]
    exact ih
theorem wf_e {Ch F : ST} {t : Nat} (ht : t < 4) : fX0_worthFor (nI t) Ch F = some (sm (fun s => Ch 3 s * F 8 (4 * s + t)) 4) := wf_l ht 4 0 400 (by omega) (by omega)
theorem sm_add (f g : Nat → Int32) : ∀ k, sm (fun s => f s + g s) k = sm f k + sm g k := by
  intro k
  induction k with
  | zero => rfl
  | succ k ih =>
    rw [sm_1, sm_1, sm_1, ih]
    ac_rfl
theorem sm_ind {F : ST} {s u t : Nat} (hs : s < 10) (e : F 4 s = nI u) (hu : u < 4) : sm (fun r => ind F (nI s) r * F 8 (4 * r + t)) 4 = F 8 (4 * u + t) := by
  rw [sm_1, sm_1, sm_1, sm_1]
  show (((0 + ind F (nI s) 0 * F 8 (4 * 0 + t)) + ind F (nI s) 1 * F 8 (4 * 1 + t)) + ind F (nI s) 2 * F 8 (4 * 2 + t)) + ind F (nI s) 3 * F 8 (4 * 3 + t) = _
  rw [ind_e hs e hu (by decide), ind_e hs e hu (by decide), ind_e hs e hu (by decide), ind_e hs e hu (by decide)]
  rcases (show u = 0 ∨ u = 1 ∨ u = 2 ∨ u = 3 by omega) with q | q | q | q <;> subst q <;> simp
theorem tw {F : ST} {rs : Nat → Int32} {t N : Nat} (h : ∀ j, j < N → rs j = -1 ∨ ∃ s u, s < 10 ∧ u < 4 ∧ F 4 s = nI u ∧ rs j = nI s) : sm (fun s => sm (fun j => ind F (rs j) s) N * F 8 (4 * s + t)) 4 = sm (fun j => wv F (rs j) t) N := by
  induction N with
  | zero =>
    show (((0 + 0 * _) + 0 * _) + 0 * _) + 0 * _ = (0 : Int32)
    simp
  | succ N ih =>
    have ih := ih (fun j hj => h j (by omega))
    rw [sm_1 (fun j => wv F (rs j) t) N, ← ih]
    have e : ∀ s, s < 4 → sm (fun j => ind F (rs j) s) (N + 1) * F 8 (4 * s + t) = sm (fun j => ind F (rs j) s) N * F 8 (4 * s + t) + ind F (rs N) s * F 8 (4 * s + t) := fun s _ => by rw [sm_1, Int32.add_mul]
    rw [sm_cong 4 e, sm_add]
    congr 1
    rcases h N (by omega) with z | ⟨s, u, hs, hu, eu, z⟩
    · rw [z, wv_m]
      show (((0 + ind F (-1) 0 * _) + ind F (-1) 1 * _) + ind F (-1) 2 * _) + ind F (-1) 3 * _ = (0 : Int32)
      rw [ind_m, ind_m, ind_m, ind_m]
      simp
    · rw [z, sm_ind hs eu hu, wv_e hs eu hu]
theorem it_rs {F M : ST} {x : S3} {n a : Nat} (h : ctx F x.2.1 x.1 M n a) (hl : lvl x.1 M n) (j : Nat) : itR F x j = -1 ∨ ∃ s u, s < 10 ∧ u < 4 ∧ F 4 s = nI u ∧ itR F x j = nI s := by
  rcases (it_st h hl j).2.2.1 with e | ⟨s, hs, e⟩
  · exact Or.inl e
  · have hn := h.1
    obtain ⟨u, hu, eu⟩ := (h.2.2.2.2.2.2.1.1 s (by omega)).2.2
    exact Or.inr ⟨s, u, by omega, hu, eu, e⟩
theorem hi_l {F M : ST} {x : S3} {n a N t : Nat} (h : ctx F x.2.1 x.1 M n a) (hl : lvl x.1 M n) (hN : N ≤ 200) (ht : t < 4) : ∀ (r k f : Nat), k + r = N → r < f → fX8_hasIn_5 f (nI t) (nI N) (sm (fun j => wv F (itR F x j) t) k) (nI k) (itM M k) = some (sm (fun j => wv F (itR F x j) t) N, itM M N) := by
  intro r
  induction r with
  | zero =>
    intro k f hk hf
    obtain ⟨f, rfl⟩ : ∃ n', f = n' + 1 := ⟨f - 1, by omega⟩
    show fX8_hasIn_5_s (fX8_hasIn_5 f) _ _ _ _ _ = _
    unfold fX8_hasIn_5_s
    rw [if_pos (nI_le (by omega) (by omega)), show k = N by omega]
  | succ r ih =>
    intro k f hk hf
    obtain ⟨f, rfl⟩ : ∃ n', f = n' + 1 := ⟨f - 1, by omega⟩
    have ih := ih (k + 1) f (by omega) (by omega)
    show fX8_hasIn_5_s (fX8_hasIn_5 f) _ _ _ _ _ = _
    unfold fX8_hasIn_5_s
    have hc := (it_ok h hl (k + 1)).1.2.2.2.2.2.1
    rw [if_neg (nI_ge (by omega) (by omega)), (it_st h hl k).2.1, b2s]
    rw [sm_1] at ih
    rcases it_rs h hl k with e | ⟨s, u, hs, hu, eu, e⟩
    · rw [e, wv_m] at ih
      rw [e, if_neg m1_nle, lts, lts, nI_1]
      exact ih
    · rw [e, wv_e hs eu hu] at ih
      rw [e, if_pos (nI_pos' (by omega)), has0_2 hs, b1s, (hc.2.2.2.1 s hs).2.2.1, eu, wor8 hu ht, b1s, hc.2.2.2.2.2.1 _ (by omega), lts, lts, nI_1]
      exact ih
theorem hi_e {F M : ST} {x : S3} {n a N t : Nat} (h : ctx F x.2.1 x.1 M n a) (hl : lvl x.1 M n) (hN : N ≤ 200) (ht : t < 4) : fX8_hasIn (nI t) (nI N) M = some (sm (fun j => wv F (itR F x j) t) N, itM M N) := hi_l h hl hN ht N 0 400 (by omega) (by omega)
theorem sh8_l {F M : ST} {x : S3} {n a N t : Nat} (h : ctx F x.2.1 x.1 M n a) (hl : lvl x.1 M n) (hN : N ≤ 200) (ht : t < 4) : ∀ (r k f : Nat), k + r = N → r < f → fX8_share_35 f (nI t) (nI N) (sm (fun j => ind F (itR F x j) t) k) (nI k) (itM M k) = dc_b1 (fX8_laysBack (itM M N)) (fun M_13 => some (sm (fun j => ind F (itR F x j) t) N, M_13)) := by
  intro r
  induction r with
  | zero =>
    intro k f hk hf
    obtain ⟨f, rfl⟩ : ∃ n', f = n' + 1 := ⟨f - 1, by omega⟩
    show fX8_share_35_s (fX8_share_35 f) _ _ _ _ _ = _
    unfold fX8_share_35_s
    rw [if_pos (nI_le (by omega) (by omega)), show k = N by omega]
  | succ r ih =>
    intro k f hk hf
    obtain ⟨f, rfl⟩ : ∃ n', f = n' + 1 := ⟨f - 1, by omega⟩
    have ih := ih (k + 1) f (by omega) (by omega)
    show fX8_share_35_s (fX8_share_35 f) _ _ _ _ _ = _
    unfold fX8_share_35_s
    have hc := (it_ok h hl (k + 1)).1.2.2.2.2.2.1
    rw [if_neg (nI_ge (by omega) (by omega)), (it_st h hl k).2.1, b2s]
    rw [sm_1] at ih
    rcases it_rs h hl k with e | ⟨s, u, hs, hu, eu, e⟩
    · rw [e, ind_m] at ih
      rw [e, if_pos m1_lt, lts, lts, nI_1]
      exact ih
    · rw [e, ind_e hs eu hu ht] at ih
      rw [e, if_neg (nI_pos (by omega)), has0_2 hs, b1s, (hc.2.2.2.1 s hs).2.2.1, eu]
      simp only [lts]
      rw [nI_1]
      by_cases q : u = t
      · rw [if_pos q] at ih
        rw [if_pos (by rw [q])]
        exact ih
      · rw [if_neg q] at ih
        rw [if_neg (fun z => q (nI_inj (by omega) (by omega) z))]
        exact ih
theorem P_share_ok : P_share RR := by
  intro x1 x2 Ma Fo Sc Se Tr Ch Us Ta Dr G0 N0 G1 N1 G2 N2 G3 N3 Fo2 Sc2 Se2 Tr2 Fo3 Sc3 Se3 Tr3 M N hR
  obtain ⟨n, a, h⟩ := ctx_of hR.1.1 hR.1.2.1
  unfold fX7_share fX8_share fX7_share_14 fX8_share_19
  rw [fd7_0, fd8_0, b2s, b2s, isSort_e, isIn8_e x1 0 3 (by decide) (by decide), b1s, b1s]
  by_cases hy : x1 < 0 ∨ 3 < x1
  · rw [if_pos hy, i00, i00]
    exact ⟨_, _, _, _, _, _, _, rfl, rfl, RR_f hR 0 (by decide)⟩
  rw [if_neg hy, i10, i10, isCh7_e, isCh8_e, b1s, b1s]
  by_cases hx : x2 < 1 ∨ 200 < x2
  · rw [if_pos hx, i00, i00]
    exact ⟨_, _, _, _, _, _, _, rfl, rfl, RR_f hR 0 (by decide)⟩
  rw [if_neg hx, i10, i10]
  obtain ⟨t, ht, rfl⟩ := in_k 3 (by decide) hy
  obtain ⟨m, m1, m2, rfl⟩ := in_1k 200 (by decide) hx
  obtain ⟨U, K, u1, u2, u3, u4, u5, -⟩ := trial hR h Ch Us
  obtain ⟨Ch', c1, c2, c3⟩ := tal_e (x := (U, Sc, Tr)) u3 u4 m2 Ch
  have e8 := sh8_l (x := (U, Sc, Tr)) (t := t) u3 u4 m2 (by omega) m 0 400 (by omega) (by omega)
  obtain ⟨Mz, z1, -, -, -, z5⟩ := RR_tr hR u5 (C0 := Sc) (S0 := U) (M0 := va_up M 14 K) (fun _ _ => rfl) (fun _ _ => rfl) (fun i _ => by rw [vup_o (by decide)]) (it_ok (x := (U, Sc, Tr)) u3 u4 m).2.2
  rw [z1, b1s] at e8
  have c1' : fX0_tally (nI m) Ch Fo Sc Tr U = some (Ch', (itS Fo (U, Sc, Tr) m).2.1, (itS Fo (U, Sc, Tr) m).2.2, (itS Fo (U, Sc, Tr) m).1) := c1
  rw [u1, u2, b1s, b1s, c1', b4s, cks _ (vp_in_nI (show t < 4 by omega) (by decide)), nI_clamp (by omega), c3 t (by omega)]
  exact ⟨_, _, _, _, _, _, _, rfl, e8, z5 _ _ _⟩
theorem P_has_ok : P_has RR := by
  intro x1 x2 Ma Fo Sc Se Tr Ch Us Ta Dr G0 N0 G1 N1 G2 N2 G3 N3 Fo2 Sc2 Se2 Tr2 Fo3 Sc3 Se3 Tr3 M N hR
  obtain ⟨n, a, h⟩ := ctx_of hR.1.1 hR.1.2.1
  unfold fX7_has fX8_has fX7_has_14 fX8_has_19
  rw [fd7_0, fd8_0, b2s, b2s, isSort_e, isIn8_e x1 0 3 (by decide) (by decide), b1s, b1s]
  by_cases hy : x1 < 0 ∨ 3 < x1
  · rw [if_pos hy, i00, i00]
    exact ⟨_, _, _, _, _, _, _, rfl, rfl, RR_f hR 0 (by decide)⟩
  rw [if_neg hy, i10, i10, isCh7_e, isCh8_e, b1s, b1s]
  by_cases hx : x2 < 1 ∨ 200 < x2
  · rw [if_pos hx, i00, i00]
    exact ⟨_, _, _, _, _, _, _, rfl, rfl, RR_f hR 0 (by decide)⟩
  rw [if_neg hx, i10, i10]
  obtain ⟨t, ht, rfl⟩ := in_k 3 (by decide) hy
  obtain ⟨m, m1, m2, rfl⟩ := in_1k 200 (by decide) hx
  obtain ⟨U, K, u1, u2, u3, u4, u5, -⟩ := trial hR h Ch Us
  obtain ⟨Ch', c1, c2, c3⟩ := tal_e (x := (U, Sc, Tr)) u3 u4 m2 Ch
  have e8 := hi_e (x := (U, Sc, Tr)) (t := t) u3 u4 m2 (by omega)
  obtain ⟨Mz, z1, -, -, -, z5⟩ := RR_tr hR u5 (C0 := Sc) (S0 := U) (M0 := va_up M 14 K) (fun _ _ => rfl) (fun _ _ => rfl) (fun i _ => by rw [vup_o (by decide)]) (it_ok (x := (U, Sc, Tr)) u3 u4 m).2.2
  have c1' : fX0_tally (nI m) Ch Fo Sc Tr U = some (Ch', (itS Fo (U, Sc, Tr) m).2.1, (itS Fo (U, Sc, Tr) m).2.2, (itS Fo (U, Sc, Tr) m).1) := c1
  have cw : sm (fun s => Ch' 3 s * Fo 8 (4 * s + t)) 4 = sm (fun j => wv Fo (itR Fo (U, Sc, Tr) j) t) m := by
    rw [← tw (fun j _ => it_rs (x := (U, Sc, Tr)) u3 u4 j)]
    exact sm_cong 4 (fun s hs => by rw [c3 s hs])
  rw [u1, u2, b1s, b1s, c1', b4s, wf_e (by omega), b1s, cw, e8, b2s, z1, b1s]
  exact ⟨_, _, _, _, _, _, _, rfl, rfl, z5 _ _ _⟩
theorem P_but_ok : P_but RR := by
  intro x0 x1 x2 Ma Fo Sc Se Tr Ch Us Ta Dr G0 N0 G1 N1 G2 N2 G3 N3 Fo2 Sc2 Se2 Tr2 Fo3 Sc3 Se3 Tr3 M N hR
  obtain ⟨n, a, h⟩ := ctx_of hR.1.1 hR.1.2.1
  unfold fX7_but fX8_but fX7_but_31 fX8_but_31
  rw [cks _ (show vp_in 0 6 from vp_in_nI (n := 0) (by decide) (by decide)), cks _ (show vp_in 0 6 from vp_in_nI (n := 0) (by decide) (by decide)), show tabL (Int32.toNatClampNeg 0) = 1 from rfl, show tabM (Int32.toNatClampNeg 0) = 4 from rfl, fd7_0, fd8_0, b2s, b2s, within_e, isIn8_e x0 1 4 (by decide) (by decide), b1s, b1s]
  by_cases hv : x0 < 1 ∨ 4 < x0
  · rw [if_pos hv, i00, i00]
    exact ⟨_, _, _, _, _, _, _, rfl, rfl, RR_f hR 0 (by decide)⟩
  rw [if_neg hv, i10, i10, isSort_e, isIn8_e x1 0 3 (by decide) (by decide), b1s, b1s]
  by_cases hy : x1 < 0 ∨ 3 < x1
  · rw [if_pos hy, i00, i00]
    exact ⟨_, _, _, _, _, _, _, rfl, rfl, RR_f hR 0 (by decide)⟩
  rw [if_neg hy, i10, i10, isCh7_e, isCh8_e, b1s, b1s]
  by_cases hx : x2 < 1 ∨ 200 < x2
  · rw [if_pos hx, i00, i00]
    exact ⟨_, _, _, _, _, _, _, rfl, rfl, RR_f hR 0 (by decide)⟩
  rw [if_neg hx, i10, i10]
  obtain ⟨v, v1, v2, rfl⟩ := in_1k 4 (by decide) hv
  obtain ⟨t, ht, rfl⟩ := in_k 3 (by decide) hy
  obtain ⟨m, m1, m2, rfl⟩ := in_1k 200 (by decide) hx
  obtain ⟨U, K, u1, u2, u3, u4, u5, -, u8, u9⟩ := trial hR h Ch Us
  obtain ⟨U2, w1, w2, w3, w4⟩ := ahead_set (ctx_inv u3).1 (ctx_inv u3).2 v1 v2
  obtain ⟨M0, eM0⟩ : ∃ M0, M0 = va_up (sti (va_up M 14 K) 1 4 (nI v)) 1 (cut v ((sti (va_up M 14 K) 1 4 (nI v)) 1)) := ⟨_, rfl⟩
  have hcut : fX8_cutsLine (sti (va_up M 14 K) 1 4 (nI v)) = some M0 := by
    unfold fX8_cutsLine
    rw [lts, sti_s, upd_s, cut8 (4 - v) v 400 _ (by omega) (by omega), eM0]
  have m01 : M0 1 = cut v (upd ((va_up M 14 K) 1) 4 (nI v)) := by rw [eM0, vup_s, sti_s]
  have m0b : ∀ b, b ≠ 1 → M0 b = va_up M 14 K b := fun b hb => by rw [eM0, vup_o hb, sti_o hb]
  obtain ⟨n', a', h2⟩ := ctx_of (M := M0) (by rw [m01]; exact w2) w3
  have l2 : lvl U2 M0 n' := RR_lvl hR (by rw [w4]; exact u8) (by rw [w4]; exact u9) (by rw [m0b 0 (by decide), vup_o (by decide)])
  obtain ⟨Ch', c1, c2, c3⟩ := tal_e (x := (U2, Sc, Tr)) h2 l2 m2 Ch
  have e8 := hi_e (x := (U2, Sc, Tr)) (t := t) h2 l2 m2 (by omega)
  obtain ⟨Mz, z1, -, -, -, z5⟩ := RR_tr hR u5 (C0 := Sc) (S0 := U2) (M0 := M0) (fun _ _ => rfl) m0b (fun i hi => by rw [m01]; unfold cut; rw [if_neg (by omega), upd_n (by omega), vup_o (by decide)]) (it_ok (x := (U2, Sc, Tr)) h2 l2 m).2.2
  have c1' : fX0_tally (nI m) Ch Fo Sc Tr U2 = some (Ch', (itS Fo (U2, Sc, Tr) m).2.1, (itS Fo (U2, Sc, Tr) m).2.2, (itS Fo (U2, Sc, Tr) m).1) := c1
  have cw : sm (fun s => Ch' 3 s * Fo 8 (4 * s + t)) 4 = sm (fun j => wv Fo (itR Fo (U2, Sc, Tr) j) t) m := by
    rw [← tw (fun j _ => it_rs (x := (U2, Sc, Tr)) h2 l2 j)]
    exact sm_cong 4 (fun s hs => by rw [c3 s hs])
  rw [u1, u2, b1s, b1s, w1, b1s, c1', b4s, wf_e (by omega), b1s, cw, lts, hcut, b1s, e8, b2s, z1, b1s]
  exact ⟨_, _, _, _, _, _, _, rfl, rfl, z5 _ _ _⟩
