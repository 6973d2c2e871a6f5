-- set, as, person, now
theorem isTrait_e (x v : Int32) : fX7_isTrait x v = some (if x = 0 then (if v < 0 ∨ 6 < v then 0 else 1) else if x = 1 then (if v < 20 ∨ 99 < v then 0 else 1) else if x = 2 then (if v < 0 ∨ 3 < v then 0 else 1) else if x = 3 then (if v < 0 ∨ 1023 < v then 0 else 1) else 0) := by
  unfold fX7_isTrait
  rw [within_e, within_e, within_e, isSort_e, b1s, b1s, b1s, b1s, bli, bli, bli, bli]
  by_cases h0 : x = 0
  · rw [if_pos h0, if_pos h0]
  by_cases h1 : x = 1
  · rw [if_neg h0, if_neg h0, if_pos h1, if_pos h1]
  by_cases h2 : x = 2
  · rw [if_neg h0, if_neg h0, if_neg h1, if_neg h1, if_pos h2, if_pos h2]
  by_cases h3 : x = 3
  · rw [if_neg h0, if_neg h0, if_neg h1, if_neg h1, if_neg h2, if_neg h2, if_pos h3, if_pos h3]
  · rw [if_neg h0, if_neg h0, if_neg h1, if_neg h1, if_neg h2, if_neg h2, if_neg h3, if_neg h3]
theorem isFit_e (x v : Int32) : fX8_isFit x v = some (if x = 0 then (if v < 0 ∨ 6 < v then 0 else 1) else if x = 1 then (if v < 20 ∨ 99 < v then 0 else 1) else if x = 2 then (if v < 0 ∨ 3 < v then 0 else 1) else (if v < 0 ∨ 1023 < v then 0 else 1)) := by
  unfold fX8_isFit
  rw [isIn8_e v 0 6 (by decide) (by decide), isIn8_e v 20 99 (by decide) (by decide), isIn8_e v 0 3 (by decide) (by decide), isIn8_e v 0 1023 (by decide) (by decide), b1s, b1s, b1s, b1s, bli, bli, bli, bli]
  by_cases h0 : x = 0
  · rw [if_pos h0, if_pos h0]
  by_cases h1 : x = 1
  · rw [if_neg h0, if_neg h0, if_pos h1, if_pos h1]
  by_cases h2 : x = 2
  · rw [if_neg h0, if_neg h0, if_neg h1, if_neg h1, if_pos h2, if_pos h2]
  · rw [if_neg h0, if_neg h0, if_neg h1, if_neg h1, if_neg h2, if_neg h2]
/-- one of the four traits becomes v -/
theorem set_case {Ma Fo Sc Se Tr Ch Us Ta Dr G0 : ST} {N0 : LT} {G1 : ST} {N1 : LT} {G2 : ST} {N2 : LT} {G3 : ST} {N3 : LT} {Fo2 Sc2 Se2 Tr2 Fo3 Sc3 Se3 Tr3 M : ST} {N : LT} (hR : RR Ma Fo Sc Se Tr Ch Us Ta Dr G0 N0 G1 N1 G2 N2 G3 N3 Fo2 Sc2 Se2 Tr2 Fo3 Sc3 Se3 Tr3 M N) {n p : Nat} (hn : n ≤ 10) (hF : Fo 0 0 = nI n) (hp : p < n) (v : Int32) (t : Nat) (ht : t < 4)
    (hv : (t = 0 → ∃ k : Nat, k ≤ 6 ∧ v = nI k) ∧ (t = 1 → ∃ k : Nat, k ≤ 99 ∧ v = nI k) ∧ (t = 2 → ∃ k : Nat, k < 4 ∧ v = nI k)) : M 1 (14 + 6 * p + t) = Fo (t + 2) p ∧ RR Ma (sti Fo (t + 2) p v) Sc Se Tr Ch Us Ta Dr G0 N0 G1 N1 G2 N2 G3 N3 Fo2 Sc2 Se2 Tr2 Fo3 Sc3 Se3 Tr3 (sti M 1 (14 + 6 * p + t) v) N := by
  obtain ⟨⟨hc, ⟨n', hn', hF', ⟨i1, i2, i3, i4⟩, hiR, hiL, hiC⟩, hk⟩, h2⟩ := hR
  have hnn : n' = n := (nI_eq (by omega) (by omega)).mp (hF'.symm.trans hF)
  subst hnn
  have hd := hc.2.2.2.1 p (by omega)
  match t, ht with
  | 0, _ =>
    refine ⟨hd.1, ⟨core_kind hc (by omega) v, ⟨n', hn, hF, ⟨fun a ha => ⟨?_, (i1 a ha).2⟩, i2, i3, i4⟩, hiR, hiL, hiC⟩, hk⟩, h2⟩
    show ∃ k : Nat, k ≤ 6 ∧ upd (Fo 2) p v a = nI k
    by_cases e : a = p
    · rw [e, upd_s]; exact hv.1 rfl
    · rw [upd_n e]; exact (i1 a ha).1
  | 1, _ =>
    refine ⟨hd.2.1, ⟨core_age hc (by omega) v, ⟨n', hn, hF, ⟨fun a ha => ⟨(i1 a ha).1, ?_, (i1 a ha).2.2⟩, i2, i3, i4⟩, hiR, hiL, hiC⟩, hk⟩, h2⟩
    show ∃ k : Nat, k ≤ 99 ∧ upd (Fo 3) p v a = nI k
    by_cases e : a = p
    · rw [e, upd_s]; exact hv.2.1 rfl
    · rw [upd_n e]; exact (i1 a ha).2.1
  | 2, _ =>
    refine ⟨hd.2.2.1, ⟨core_sort hc (by omega) v, ⟨n', hn, hF, ⟨fun a ha => ⟨(i1 a ha).1, (i1 a ha).2.1, ?_⟩, i2, i3, i4⟩, hiR, hiL, hiC⟩, hk⟩, h2⟩
    show ∃ k : Nat, k < 4 ∧ upd (Fo 4) p v a = nI k
    by_cases e : a = p
    · rw [e, upd_s]; exact hv.2.2 rfl
    · rw [upd_n e]; exact (i1 a ha).2.2
  | 3, _ =>
    refine ⟨hd.2.2.2.1, ⟨core_kin hc (by omega) v, ⟨n', hn, hF, ⟨i1, i2, fun a ha hb => ?_, i4⟩, hiR, hiL, hiC⟩, hk⟩, h2⟩
    show upd (Fo 5) p v a = 0
    rw [upd_n (by omega)]; exact i3 a ha hb
theorem set_fin {Fo Ma M : ST} {p t : Nat} (hp : p < 10) (v : Int32) (ht : t < 4) : dc_b1 (fX1_trait (nI t) Fo) (fun r10 => dc_ck (nI p) 10 (dc_lt (Fo r10 (Int32.toNatClampNeg (nI p))) (fun v13 => dc_ck (nI p) 10 (dc_lt (sti Fo r10 (Int32.toNatClampNeg (nI p)) v) (fun Fo_15 => some (v13, Ma, Fo_15)))))) = some (Fo (t + 2) p, Ma, sti Fo (t + 2) p v) ∧ fX8_becomes ((14 + 6 * nI p) + nI t) v M = some (M 1 (14 + 6 * p + t), sti M 1 (14 + 6 * p + t) v) := by
  have e2 : (14 + 6 * nI p) + nI t = nI (14 + 6 * p + t) := by rw [show (6 : Int32) = nI 6 from rfl, show (14 : Int32) = nI 14 from rfl, pk_mul, nI_add, nI_add]
  have tr : fX1_trait (nI t) Fo = some (t + 2) := by
    match t, ht with
    | 0, _ => rfl
    | 1, _ => rfl
    | 2, _ => rfl
    | 3, _ => rfl
  rw [e2, bec_e (by omega), tr, b1s, cks _ (vp_in_nI hp (by decide)), lts, cks _ (vp_in_nI hp (by decide)), lts, nI_clamp (by omega)]
  exact ⟨rfl, rfl⟩
theorem P_set_ok : P_set RR := by
  intro x1 x2 x3 Ma Fo Sc Se Tr Ch Us Ta Dr G0 N0 G1 N1 G2 N2 G3 N3 Fo2 Sc2 Se2 Tr2 Fo3 Sc3 Se3 Tr3 M N hR
  obtain ⟨n, hn, hF, hM⟩ := RR_n hR
  have j1 : fX8_isIn x2.toInt64 0 3 = some (if x2 < 0 ∨ 3 < x2 then 0 else 1) := isIn8_e x2 0 3 (by decide) (by decide)
  unfold fX7_set fX8_set fX7_set_16 fX8_set_28
  rw [isOne_e hn hF, isP_e hM, isTrait_e, isFit_e, j1, fd7_0, fd8_0]
  by_cases c1 : x1 < 0 ∨ nI n ≤ x1
  · exact ⟨-1000000001, _, _, _, by simp only [if_pos c1, b1s, b2s, if_true, i10], by simp only [if_pos c1, b1s, b2s, if_true, i10], RR_f hR 0 (by decide)⟩
  obtain ⟨p, hp, rfl⟩ := in_n hn c1
  by_cases c2 : x2 < 0 ∨ 3 < x2
  · have n0 : ¬ x2 = 0 := fun e => by subst e; exact absurd c2 (by decide)
    have n1 : ¬ x2 = 1 := fun e => by subst e; exact absurd c2 (by decide)
    have n2 : ¬ x2 = 2 := fun e => by subst e; exact absurd c2 (by decide)
    have n3 : ¬ x2 = 3 := fun e => by subst e; exact absurd c2 (by decide)
    exact ⟨-1000000001, _, _, _, by simp only [if_neg c1, if_neg n0, if_neg n1, if_neg n2, if_neg n3, b1s, b2s, if_true, i10], by simp only [if_neg c1, if_pos c2, b1s, b2s, if_true, i10], RR_f hR 0 (by decide)⟩
  obtain ⟨t, ht, rfl⟩ := in_k 3 (by decide) c2
  have key : ∀ (c : Prop) [Decidable c], (¬ c → (t = 0 → ∃ k : Nat, k ≤ 6 ∧ x3 = nI k) ∧ (t = 1 → ∃ k : Nat, k ≤ 99 ∧ x3 = nI k) ∧ (t = 2 → ∃ k : Nat, k < 4 ∧ x3 = nI k)) → ∃ (r0 : Int32) (Maz Foz Mz : ST), (dc_b1 (some (if c then (0 : Int32) else 1)) fun r7 => if r7 = 0 then dc_b2 (some (-1000000001, fMa 0 Ma)) fun r4 Ma_5 => some (r4, Ma_5, Fo) else dc_b1 (fX1_trait (nI t) Fo) (fun r10 => dc_ck (nI p) 10 (dc_lt (Fo r10 (Int32.toNatClampNeg (nI p))) (fun v13 => dc_ck (nI p) 10 (dc_lt (sti Fo r10 (Int32.toNatClampNeg (nI p)) x3) (fun Fo_15 => some (v13, Ma, Fo_15))))))) = some (r0, Maz, Foz) ∧ (dc_b1 (some (if c then (0 : Int32) else 1)) fun r10 => if r10 = 0 then dc_b2 (some (-1000000001, fM 0 M)) fun r4 M_5 => some (r4, M_5) else dc_b2 (fX8_becomes ((14 + 6 * nI p) + nI t) x3 M) fun r13 M_14 => some (r13, M_14)) = some (r0, Mz) ∧ RR Maz Foz Sc Se Tr Ch Us Ta Dr G0 N0 G1 N1 G2 N2 G3 N3 Fo2 Sc2 Se2 Tr2 Fo3 Sc3 Se3 Tr3 Mz N := by
    intro c _ hv
    by_cases hc : c
    · exact ⟨-1000000001, _, _, _, by simp only [if_pos hc, b1s, b2s, if_true], by simp only [if_pos hc, b1s, b2s, if_true], RR_f hR 0 (by decide)⟩
    · obtain ⟨f1, f2⟩ := set_fin (Ma := Ma) (M := M) (Fo := Fo) (p := p) (t := t) (by omega) x3 (by omega)
      obtain ⟨g1, g2⟩ := set_case hR hn hF hp x3 t (by omega) (hv hc)
      refine ⟨Fo (t + 2) p, Ma, sti Fo (t + 2) p x3, sti M 1 (14 + 6 * p + t) x3, ?_, ?_, g2⟩
      · simp only [if_neg hc, b1s, i10]
        exact f1
      · simp only [if_neg hc, b1s, i10]
        rw [f2, b2s, g1]
  have r1 : ∀ {α : Type} (a b : α), (if (if nI p < 0 ∨ nI n ≤ nI p then (0 : Int32) else 1) = 0 then a else b) = b := fun a b => by rw [if_neg c1, i10]
  have r2 : ∀ {α : Type} (a b : α), (if (if nI t < 0 ∨ 3 < nI t then (0 : Int32) else 1) = 0 then a else b) = b := fun a b => by rw [if_neg c2, i10]
  simp only [b1s (if nI p < 0 ∨ nI n ≤ nI p then (0 : Int32) else 1), r1, b1s (if nI t < 0 ∨ 3 < nI t then (0 : Int32) else 1), r2]
  rcases (show t = 0 ∨ t = 1 ∨ t = 2 ∨ t = 3 by omega) with rfl | rfl | rfl | rfl
  · exact key (x3 < 0 ∨ 6 < x3) (fun h => ⟨fun _ => in_k 6 (by decide) h, fun h => absurd h (by decide), fun h => absurd h (by decide)⟩)
  · refine key (x3 < 20 ∨ 99 < x3) (fun h => ⟨fun h => absurd h (by decide), fun _ => in_k 99 (by decide) (fun q => h (q.elim (fun a => Or.inl ?_) Or.inr)), fun h => absurd h (by decide)⟩)
    rw [fa_lt] at a ⊢
    have h0 : (0 : Int32).toInt = 0 := by decide
    have h1 : (20 : Int32).toInt = 20 := by decide
    omega
  · refine key (x3 < 0 ∨ 3 < x3) (fun h => ⟨fun h => absurd h (by decide), fun h => absurd h (by decide), fun _ => ?_⟩)
    obtain ⟨k, hk, e⟩ := in_k 3 (by decide) h
    exact ⟨k, by omega, e⟩
  · exact key (x3 < 0 ∨ 1023 < x3) (fun h => ⟨fun h => absurd h (by decide), fun h => absurd h (by decide), fun h => absurd h (by decide)⟩)
