-- what THE TEXT gives
theorem sti_o {M : ST} {k i a : Nat} {v : Int32} (h : a ≠ k) : sti M k i v a = M a := if_neg h
theorem sti_s {M : ST} {k i : Nat} {v : Int32} : sti M k i v k = upd (M k) i v := if_pos rfl
theorem ctx_fr {F C S M C' M' : ST} {n a : Nat} (h : ctx F C S M n a) (hC : ∀ b, b ≠ 2 → C' b = C b) (hM : M' 1 = M 1) : ctx F C' S M' n a := by
  obtain ⟨hn, hF, a1, a4, hA, hc, hiF, hiR, hiL, hiC⟩ := h
  refine ⟨hn, hF, a1, a4, hA, ?_, hiF, hiR, hiL, ?_⟩
  · rw [hM]
    unfold core at hc ⊢
    rw [hC 0 (by decide), hC 1 (by decide)]
    exact hc
  · unfold iC at hiC ⊢
    rw [hC 0 (by decide), hC 1 (by decide)]
    exact hiC
theorem j10 (p q : Nat) : nI p * 10 + nI q = nI (10 * p + q) := by rw [show (10 : Int32) = nI 10 from rfl, pk_mul, nI_add, Nat.mul_comm]
theorem v_l {F C S M : ST} {n a p q : Nat} (h : ctx F C S M n a) (hp : p < n) (hq : q < n) : ∃ v, fX4_valueOf 108 (nI p) (nI q) S F = some v ∧ fX8_named 0 (nI p) (nI q) M = some v := by
  have h' := h
  obtain ⟨hn, hF, a1, a4, hA, hc, -⟩ := h'
  refine ⟨F 7 (10 * p + q), ?_, ?_⟩
  · unfold fX4_valueOf
    rw [if_neg (by decide), if_pos rfl, j10, cks _ (vp_in_nI (by omega) (by decide)), nI_clamp (by omega)]
  · unfold fX8_named
    rw [fn8 h, b1s, if_pos rfl, lik8 (by omega) (by omega), b1s, hc.2.2.2.2.1 _ (by omega)]
theorem v_a {F C S M : ST} {n a p q : Nat} (h : ctx F C S M n a) (hp : p < n) (hq : q < n) : ∃ v, fX4_valueOf 97 (nI p) (nI q) S F = some v ∧ fX8_named 1 (nI p) (nI q) M = some v := by
  have h' := h
  obtain ⟨hn, hF, a1, a4, hA, hc, -⟩ := h'
  refine ⟨F 3 q, ?_, ?_⟩
  · unfold fX4_valueOf
    rw [if_pos rfl, cks _ (vp_in_nI (by omega) (by decide)), nI_clamp (by omega)]
  · unfold fX8_named
    rw [fn8 h, b1s, if_neg (by decide), if_pos rfl, has0_1 (by omega), b1s, (hc.2.2.2.1 q (by omega)).2.1]
theorem v_s {F C S M : ST} {n a p q : Nat} (h : ctx F C S M n a) (hp : p < n) (hq : q < n) : ∃ v, fX4_valueOf 115 (nI p) (nI q) S F = some v ∧ fX8_named 2 (nI p) (nI q) M = some v := by
  have h' := h
  obtain ⟨hn, hF, a1, a4, hA, hc, -⟩ := h'
  refine ⟨if F 4 p = F 4 q then 1 else 0, ?_, ?_⟩
  · unfold fX4_valueOf
    rw [if_neg (by decide), if_neg (by decide), if_neg (by decide), if_pos rfl, cks _ (vp_in_nI (by omega) (by decide)), cks _ (vp_in_nI (by omega) (by decide)), nI_clamp (by omega), nI_clamp (by omega)]
    by_cases e : F 4 p = F 4 q
    · rw [if_pos e, if_pos e]
    · rw [if_neg e, if_neg e]
  · unfold fX8_named
    rw [fn8 h, b1s, if_neg (by decide), if_neg (by decide), if_pos rfl, has0_2 (by omega), b1s, has0_2 (by omega), b1s, (hc.2.2.2.1 q (by omega)).2.2.1, (hc.2.2.2.1 p (by omega)).2.2.1]
    by_cases e : F 4 p = F 4 q
    · rw [if_pos e, if_pos e.symm]
    · rw [if_neg e, if_neg (fun x => e x.symm)]
theorem v_w {F C S M : ST} {n a p q : Nat} (h : ctx F C S M n a) (hp : p < n) (hq : q < n) : ∃ v, fX4_valueOf 119 (nI p) (nI q) S F = some v ∧ fX8_named 3 (nI p) (nI q) M = some v := by
  have h' := h
  obtain ⟨hn, hF, a1, a4, hA, hc, hiF, -⟩ := h'
  obtain ⟨t, ht, et⟩ := (hiF.1 q (by omega)).2.2
  obtain ⟨u, hu, eu⟩ := (hiF.1 p (by omega)).2.2
  refine ⟨F 8 (4 * t + u), ?_, ?_⟩
  · unfold fX4_valueOf
    rw [if_neg (by decide), if_neg (by decide), if_neg (by decide), if_neg (by decide), if_pos rfl, cks _ (vp_in_nI (by omega) (by decide)), nI_clamp (by omega), eu, wor1 (by omega) hu ht et, b1s]
  · unfold fX8_named
    rw [fn8 h, b1s, if_neg (by decide), if_neg (by decide), if_neg (by decide), if_pos rfl, has0_2 (by omega), b1s, has0_2 (by omega), b1s, (hc.2.2.2.1 q (by omega)).2.2.1, (hc.2.2.2.1 p (by omega)).2.2.1, et, eu, wor8 ht hu, b1s, hc.2.2.2.2.2.1 _ (by omega)]
theorem v_r {F C S M : ST} {n a p q : Nat} (h : ctx F C S M n a) (hp : p < n) (hq : q < n) : ∃ v, fX4_valueOf 114 (nI p) (nI q) S F = some v ∧ fX8_named 4 (nI p) (nI q) M = some v := by
  have h' := h
  obtain ⟨hn, hF, a1, a4, hA, hc, -⟩ := h'
  refine ⟨S 6 q, ?_, ?_⟩
  · unfold fX4_valueOf
    rw [if_neg (by decide), if_neg (by decide), if_pos rfl, cks _ (vp_in_nI (by omega) (by decide)), nI_clamp (by omega)]
  · unfold fX8_named
    rw [fn8 h, b1s, if_neg (by decide), if_neg (by decide), if_neg (by decide), if_neg (by decide), if_pos rfl, has0_4 (by omega), b1s, (hc.2.2.2.1 q (by omega)).2.2.2.2.1]
theorem v_n {F C S M : ST} {n a p q : Nat} (h : ctx F C S M n a) (hp : p < n) (hq : q < n) : ∃ v, fX4_valueOf 110 (nI p) (nI q) S F = some v ∧ fX8_named 5 (nI p) (nI q) M = some v := by
  have h' := h
  obtain ⟨hn, hF, a1, a4, hA, hc, -⟩ := h'
  have e1 : fX4_valueOf 110 (nI p) (nI q) S F = (if fnS S a = (-1) then some 0 else dc_ck ((fnS S a * 10) + nI q) 100 (some (F 7 (Int32.toNatClampNeg ((fnS S a * 10) + nI q))))) := by
    unfold fX4_valueOf
    rw [fn4 h, b1s, if_neg (by decide), if_neg (by decide), if_neg (by decide), if_neg (by decide), if_neg (by decide)]
  have e2 : fX8_named 5 (nI p) (nI q) M = (if 0 ≤ fnS S a then dc_b1 (fX8_likesOf (fnS S a) (nI q) M) (fun r26 => some r26) else some 0) := by
    unfold fX8_named
    rw [fn8 h, b1s, if_neg (by decide), if_neg (by decide), if_neg (by decide), if_neg (by decide), if_neg (by decide)]
  rw [e1, e2]
  rcases fn_case h with z | ⟨f, hf, z⟩
  · rw [z, if_pos rfl, if_neg m1_nle]
    exact ⟨_, rfl, rfl⟩
  · rw [z, if_neg (nI_m1 (by omega)), if_pos (nI_pos' (by omega)), j10, cks _ (vp_in_nI (by omega) (by decide)), nI_clamp (by omega), lik8 (by omega) (by omega), b1s, hc.2.2.2.2.1 _ (by omega)]
    exact ⟨_, rfl, rfl⟩
theorem worked_some (s x y : Int32) : ∃ z, fX8_worked s x y = some z := by
  have key : (fX8_worked s x y).isSome = true := by
    unfold fX8_worked dc_dz
    (repeat' split) <;> first | rfl | contradiction
  exact Option.isSome_iff_exists.mp key
theorem join_e (s x y : Int32) : ∃ z, fX3_join s x y = some z ∧ fX8_worked s x y = some z := by
  have E : fX3_join s x y = fX8_worked s x y := by
    unfold fX3_join fX8_worked
    have t0 : fX3_join_114 0 = some 0 := rfl
    have t1 : fX3_join_114 1 = some 1 := rfl
    have t2 : fX3_join_128 0 = some 0 := rfl
    have t3 : fX3_join_128 1 = some 1 := rfl
    have t4 : fX3_join_142 0 = some 0 := rfl
    have t5 : fX3_join_142 1 = some 1 := rfl
    have t6 : fX3_join_156 0 = some 0 := rfl
    have t7 : fX3_join_156 1 = some 1 := rfl
    have t8 : fX3_join_97 0 = some 0 := rfl
    have t9 : fX3_join_97 1 = some 1 := rfl
    rw [t0, t1, t2, t3, t4, t5, t6, t7, t8, t9]
  obtain ⟨z, hz⟩ := worked_some s x y
  exact ⟨z, E.trans hz, hz⟩
def WG (S F C0 M0 : ST) (p q k d : Nat) (Ck Mk : ST) (f1 f2 : Nat) : Prop := ∃ v C' M', fX3_work_6 S F f1 (nI p) (nI q) (nI d) (nI k) Ck = some (v, C') ∧ fX8_givenBy_5 f2 (nI p) (nI q) (nI d) (nI k) Mk = some (v, M') ∧ (∀ b, b ≠ 2 → C' b = C0 b) ∧ (∀ b, b ≠ 26 → M' b = M0 b)
theorem wk_num {S F Ck : ST} {L k d p q f : Nat} (hL : L ≤ 80) (hl : Ck 0 2 = nI L) (hk : k < L) (hd : d < 80) (h0 : 0 ≤ Ck 1 k) : fX3_work_6 S F (f + 1) (nI p) (nI q) (nI d) (nI k) Ck = fX3_work_6 S F f (nI p) (nI q) (nI (d + 1)) (nI (k + 1)) (sti Ck 2 d (Ck 1 k)) := by
  show fX3_work_6_s S F (fX3_work_6 S F f) _ _ _ _ _ = _
  unfold fX3_work_6_s
  rw [hl, if_neg (nI_ge hk (by omega)), cks _ (vp_in_nI (by omega) (by decide)), nI_clamp (by omega), if_pos h0]
  unfold fX3_work_40
  rw [if_pos (by decide)]
  unfold fX3_work_61
  rw [if_pos rfl]
  unfold fX3_work_75
  rw [if_neg (show ¬ (80 : Int32) ≤ nI d from nI_ge (a := d) (b := 80) hd (by decide)), i00, cks _ (vp_in_nI (by omega) (by decide)), cks _ (vp_in_nI (by omega) (by decide)), nI_clamp (by omega), nI_clamp (by omega), lts, lts, lts, nI_1, nI_1]
theorem wk_sgn {S F Ck : ST} {L k d p q f : Nat} {c s : Int32} (hL : L ≤ 80) (hl : Ck 0 2 = nI L) (hk : k < L) (e : Ck 1 k = c) (h0 : ¬ 0 ≤ c) (hs : (((-1) - c).toUInt32 % 65536).toInt32 = s) : fX3_work_6 S F (f + 1) (nI p) (nI q) (nI d) (nI k) Ck = fX3_work_40 S F (fX3_work_6 S F f) (nI p) (nI q) (nI d) (nI k) s Ck := by
  show fX3_work_6_s S F (fX3_work_6 S F f) _ _ _ _ _ = _
  unfold fX3_work_6_s
  rw [hl, if_neg (nI_ge hk (by omega)), cks _ (vp_in_nI (by omega) (by decide)), nI_clamp (by omega), e, if_neg h0, cks _ (vp_in_nI (by omega) (by decide)), hs]
theorem wk_let {S F Ck : ST} {d k p q f : Nat} {s v : Int32} (hd : d < 80) (h1 : ¬ s < 97) (h2 : ¬ 122 < s) (h3 : ¬ s = 48) (hv : fX4_valueOf s (nI p) (nI q) S F = some v) : fX3_work_40 S F (fX3_work_6 S F f) (nI p) (nI q) (nI d) (nI k) s Ck = fX3_work_6 S F f (nI p) (nI q) (nI (d + 1)) (nI (k + 1)) (sti Ck 2 d v) := by
  unfold fX3_work_40
  rw [if_neg h1, if_neg h2]
  unfold fX3_work_61
  rw [if_neg h3, i10]
  unfold fX3_work_75
  rw [if_neg (show ¬ (80 : Int32) ≤ nI d from nI_ge (a := d) (b := 80) hd (by decide)), i10, hv, b1s, cks _ (vp_in_nI (by omega) (by decide)), nI_clamp (by omega), lts, lts, lts, nI_1, nI_1]
theorem wk_neg {S F Ck : ST} {d k p q f : Nat} (hd : d < 80) : fX3_work_40 S F (fX3_work_6 S F f) (nI p) (nI q) (nI (d + 1)) (nI k) 126 Ck = fX3_work_6 S F f (nI p) (nI q) (nI (d + 1)) (nI (k + 1)) (sti Ck 2 d (-(Ck 2 d))) := by
  unfold fX3_work_40
  rw [if_neg (by decide), if_pos (by decide)]
  unfold fX3_work_61
  rw [if_neg (by decide), i00, if_neg (by decide), if_pos rfl]
  unfold fX3_work_132
  rw [if_neg (show ¬ nI (d + 1) < 1 from nI_nlt (a := d + 1) (b := 1) (by omega) (by omega)), if_pos rfl, nI_pred, cks _ (vp_in_nI (by omega) (by decide)), cks _ (vp_in_nI (by omega) (by decide)), nI_clamp (by omega), lts, lts, nI_1]
theorem wk_not {S F Ck : ST} {d k p q f : Nat} (hd : d < 80) : fX3_work_40 S F (fX3_work_6 S F f) (nI p) (nI q) (nI (d + 1)) (nI k) 33 Ck = fX3_work_6 S F f (nI p) (nI q) (nI (d + 1)) (nI (k + 1)) (sti Ck 2 d (if Ck 2 d = 0 then 1 else 0)) := by
  unfold fX3_work_40
  rw [if_pos (by decide)]
  unfold fX3_work_61
  rw [if_neg (by decide), i00, if_pos rfl]
  unfold fX3_work_132
  rw [if_neg (show ¬ nI (d + 1) < 1 from nI_nlt (a := d + 1) (b := 1) (by omega) (by omega)), if_neg (by decide), nI_pred, cks _ (vp_in_nI (by omega) (by decide)), nI_clamp (by omega)]
  unfold fX3_work_183
  rw [show fX3_truth 1 = some 1 from rfl, show fX3_truth 0 = some 0 from rfl, b1s, b1s, cks _ (vp_in_nI (by omega) (by decide)), cks _ (vp_in_nI (by omega) (by decide)), nI_clamp (by omega), lts, lts, lts, lts, nI_1]
  by_cases e : Ck 2 d = 0
  · rw [if_pos e, if_pos e]
  · rw [if_neg e, if_neg e]
theorem wk_bin {S F Ck : ST} {d k p q f : Nat} {s v : Int32} (hd : d + 1 < 80) (hb : s < 97 ∨ 122 < s) (h3 : ¬ s = 48) (h4 : ¬ s = 33) (h5 : ¬ s = 126) (hv : fX3_join s (Ck 2 d) (Ck 2 (d + 1)) = some v) : fX3_work_40 S F (fX3_work_6 S F f) (nI p) (nI q) (nI (d + 2)) (nI k) s Ck = fX3_work_6 S F f (nI p) (nI q) (nI (d + 1)) (nI (k + 1)) (sti Ck 2 d v) := by
  have e61 : fX3_work_61 S F (fX3_work_6 S F f) (nI p) (nI q) (nI (d + 2)) (nI k) s 0 Ck = fX3_work_6 S F f (nI p) (nI q) (nI (d + 1)) (nI (k + 1)) (sti Ck 2 d v) := by
    unfold fX3_work_61
    rw [if_neg h3, i00, if_neg h4, if_neg h5, if_neg (show ¬ nI (d + 2) < 2 from nI_nlt (a := d + 2) (b := 2) (by omega) (by omega)), lts, pk_m1, nI_pred, cks _ (vp_in_nI (by omega) (by decide)), cks _ (vp_in_nI (by omega) (by decide)), nI_clamp (by omega), nI_clamp (by omega), hv, b1s, cks _ (vp_in_nI (by omega) (by decide)), lts, lts, nI_1]
  unfold fX3_work_40
  by_cases z : s < 97
  · rw [if_pos z, e61]
  · rw [if_neg z, if_pos (hb.resolve_left z), e61]
theorem gv_at {M : ST} {L k d p q f : Nat} (hL : L ≤ 80) (hl : M 1 190 = nI L) (hk : k < L) : fX8_givenBy_5 (f + 1) (nI p) (nI q) (nI d) (nI k) M = (fun v3 => (if v3 < 10000 then (if v3 = (-20) then fX8_givenBy_90 (fX8_givenBy_5 f) (nI p) (nI q) (nI d) (nI k) v3 M else (if v3 = (-21) then fX8_givenBy_90 (fX8_givenBy_5 f) (nI p) (nI q) (nI d) (nI k) v3 M else (if v3 < 0 then dc_b1 (fX8_named ((-10) - v3) (nI p) (nI q) M) (fun r21 => dc_ck (nI d) 80 (dc_lt (sti M 26 (Int32.toNatClampNeg (nI d)) r21) (fun M_24 => dc_lt (nI d + 1) (fun v25 => dc_lt (nI k + 1) (fun v26 => fX8_givenBy_5 f (nI p) (nI q) v25 v26 M_24))))) else dc_ck (nI d) 80 (dc_lt (sti M 26 (Int32.toNatClampNeg (nI d)) v3) (fun M_28 => dc_lt (nI d + 1) (fun v29 => dc_lt (nI k + 1) (fun v30 => fX8_givenBy_5 f (nI p) (nI q) v29 v30 M_28))))))) else dc_lt (nI d + (-1)) (fun v31 => dc_ck (v31 - 1) 80 (dc_ck v31 80 (dc_b1 (fX8_worked (v3 - 10000) (M 26 (Int32.toNatClampNeg (v31 - 1))) (M 26 (Int32.toNatClampNeg v31))) (fun r34 => dc_ck (v31 - 1) 80 (dc_lt (sti M 26 (Int32.toNatClampNeg (v31 - 1)) r34) (fun M_37 => dc_lt (nI k + 1) (fun v38 => fX8_givenBy_5 f (nI p) (nI q) v31 v38 M_37))))))))) (M 1 (191 + k)) := by
  show fX8_givenBy_5_s (fX8_givenBy_5 f) _ _ _ _ _ = _
  unfold fX8_givenBy_5_s
  have e : 191 + nI k = nI (191 + k) := by rw [show (191 : Int32) = nI 191 from rfl, nI_add]
  rw [hl, if_neg (nI_ge hk (by omega)), e, cks _ (vp_in_nI (by omega) (by decide)), nI_clamp (by omega), lts]
theorem gv_let {M : ST} {L k d p q f : Nat} {e x v : Int32} (hL : L ≤ 80) (hl : M 1 190 = nI L) (hk : k < L) (hd : d < 80) (he : M 1 (191 + k) = e) (h1 : e < 10000) (h2 : ¬ e = -20) (h3 : ¬ e = -21) (h4 : e < 0) (hx : (-10) - e = x) (hv : fX8_named x (nI p) (nI q) M = some v) : fX8_givenBy_5 (f + 1) (nI p) (nI q) (nI d) (nI k) M = fX8_givenBy_5 f (nI p) (nI q) (nI (d + 1)) (nI (k + 1)) (sti M 26 d v) := by
  rw [gv_at hL hl hk, he]
  show (if e < 10000 then _ else _) = _
  rw [if_pos h1, if_neg h2, if_neg h3, if_pos h4, hx, hv, b1s, cks _ (vp_in_nI (by omega) (by decide)), nI_clamp (by omega), lts, lts, lts, nI_1, nI_1]
theorem gv_num {M : ST} {L k d p q f v : Nat} (hL : L ≤ 80) (hl : M 1 190 = nI L) (hk : k < L) (hd : d < 80) (he : M 1 (191 + k) = nI v) (h1 : v ≤ 9999) : fX8_givenBy_5 (f + 1) (nI p) (nI q) (nI d) (nI k) M = fX8_givenBy_5 f (nI p) (nI q) (nI (d + 1)) (nI (k + 1)) (sti M 26 d (nI v)) := by
  rw [gv_at hL hl hk, he]
  show (if nI v < 10000 then _ else _) = _
  have np : ¬ nI v < 0 := nI_pos (by omega)
  rw [if_pos (show nI v < 10000 from nI_lt (a := v) (b := 10000) (by omega) (by decide)), if_neg (fun e => np (by rw [e]; decide)), if_neg (fun e => np (by rw [e]; decide)), if_neg np, cks _ (vp_in_nI (by omega) (by decide)), nI_clamp (by omega), lts, lts, lts, nI_1, nI_1]
theorem gv_neg {M : ST} {L k d p q f : Nat} (hL : L ≤ 80) (hl : M 1 190 = nI L) (hk : k < L) (hd : d < 80) (he : M 1 (191 + k) = -21) : fX8_givenBy_5 (f + 1) (nI p) (nI q) (nI (d + 1)) (nI k) M = fX8_givenBy_5 f (nI p) (nI q) (nI (d + 1)) (nI (k + 1)) (sti M 26 d (-(M 26 d))) := by
  rw [gv_at hL hl hk, he]
  show (if (-21 : Int32) < 10000 then _ else _) = _
  rw [if_pos (by decide), if_neg (by decide), if_pos rfl]
  unfold fX8_givenBy_90
  rw [if_pos rfl, nI_pred, cks _ (vp_in_nI (by omega) (by decide)), cks _ (vp_in_nI (by omega) (by decide)), nI_clamp (by omega), lts, lts, nI_1]
theorem gv_not {M : ST} {L k d p q f : Nat} (hL : L ≤ 80) (hl : M 1 190 = nI L) (hk : k < L) (hd : d < 80) (he : M 1 (191 + k) = -20) : fX8_givenBy_5 (f + 1) (nI p) (nI q) (nI (d + 1)) (nI k) M = fX8_givenBy_5 f (nI p) (nI q) (nI (d + 1)) (nI (k + 1)) (sti M 26 d (if M 26 d = 0 then 1 else 0)) := by
  rw [gv_at hL hl hk, he]
  show (if (-20 : Int32) < 10000 then _ else _) = _
  rw [if_pos (by decide), if_pos rfl]
  unfold fX8_givenBy_90
  rw [if_neg (by decide), nI_pred, cks _ (vp_in_nI (by omega) (by decide)), cks _ (vp_in_nI (by omega) (by decide)), cks _ (vp_in_nI (by omega) (by decide)), nI_clamp (by omega), lts, lts, lts, lts, nI_1]
  by_cases e : M 26 d = 0
  · rw [if_pos e, if_pos e]
  · rw [if_neg e, if_neg e]
theorem gv_bin {M : ST} {L k d p q f : Nat} {e s v : Int32} (hL : L ≤ 80) (hl : M 1 190 = nI L) (hk : k < L) (hd : d + 1 < 80) (he : M 1 (191 + k) = e) (h1 : ¬ e < 10000) (hs : e - 10000 = s) (hv : fX8_worked s (M 26 d) (M 26 (d + 1)) = some v) : fX8_givenBy_5 (f + 1) (nI p) (nI q) (nI (d + 2)) (nI k) M = fX8_givenBy_5 f (nI p) (nI q) (nI (d + 1)) (nI (k + 1)) (sti M 26 d v) := by
  rw [gv_at hL hl hk, he]
  show (if e < 10000 then _ else _) = _
  rw [if_neg h1, hs, lts, pk_m1, nI_pred, cks _ (vp_in_nI (by omega) (by decide)), cks _ (vp_in_nI (by omega) (by decide)), nI_clamp (by omega), nI_clamp (by omega), hv, b1s, cks _ (vp_in_nI (by omega) (by decide)), lts, lts, nI_1]
