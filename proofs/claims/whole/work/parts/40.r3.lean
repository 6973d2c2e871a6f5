-- what THE TEXT gives: the walk
theorem given_l {F C S M : ST} {n a p q L : Nat} (h : ctx F C S M n a) (hp : p < n) (hq : q < n) (hL : L ≤ 80) (hl : C 0 2 = nI L) (h0 : 0 < L) (hT : okT (C 1) L) : ∀ (r k f1 f2 : Nat) (Ck Mk : ST), k + r = L → r < f1 → r < f2 → (∀ b, b ≠ 2 → Ck b = C b) → (∀ b, b ≠ 26 → Mk b = M b) → (∀ j, j < dpt (C 1) k → Ck 2 j = Mk 26 j) → WG S F C M p q k (dpt (C 1) k) Ck Mk f1 f2 := by
  intro r
  induction r with
  | zero =>
    intro k f1 f2 Ck Mk hk h1 h2 hC hM hs
    obtain ⟨f1, rfl⟩ : ∃ n', f1 = n' + 1 := ⟨f1 - 1, by omega⟩
    obtain ⟨f2, rfl⟩ : ∃ n', f2 = n' + 1 := ⟨f2 - 1, by omega⟩
    have ek : k = L := by omega
    subst ek
    have hc := h.2.2.2.2.2.1
    refine ⟨Ck 2 0, Ck, Mk, ?_, ?_, hC, hM⟩
    · show fX3_work_6_s S F (fX3_work_6 S F f1) _ _ _ _ _ = _
      unfold fX3_work_6_s
      rw [hC 0 (by decide), hl, if_pos (nI_le (by omega) (by omega))]
    · show fX8_givenBy_5_s (fX8_givenBy_5 f2) _ _ _ _ _ = _
      unfold fX8_givenBy_5_s
      rw [hM 1 (by decide), hc.2.2.2.2.2.2.1, hl, if_pos (nI_le (by omega) (by omega)), hs 0 (by rw [hT.2 h0]; decide)]
  | succ r ih =>
    intro k f1 f2 Ck Mk hk h1 h2 hC hM hs
    obtain ⟨f1, rfl⟩ : ∃ n', f1 = n' + 1 := ⟨f1 - 1, by omega⟩
    obtain ⟨f2, rfl⟩ : ∃ n', f2 = n' + 1 := ⟨f2 - 1, by omega⟩
    have hc := h.2.2.2.2.2.1
    have hx : ctx F Ck S Mk n a := ctx_fr h hC (hM 1 (by decide))
    have hlk : Ck 0 2 = nI L := by rw [hC 0 (by decide), hl]
    have hlm : Mk 1 190 = nI L := by rw [hM 1 (by decide), hc.2.2.2.2.2.2.1, hl]
    have hkL : k < L := by omega
    have eC : Ck 1 k = C 1 k := by rw [hC 1 (by decide)]
    have eM : Mk 1 (191 + k) = enS (C 1 k) := by rw [hM 1 (by decide), hc.2.2.2.2.2.2.2 k (by omega) (by rw [hl]; exact nI_lt hkL (by omega))]
    obtain ⟨hok, hop, hd⟩ := hT.1 k hkL
    have hdp : dpt (C 1) (k + 1) = if opk (C 1 k) = 0 then dpt (C 1) k + 1 else if opk (C 1 k) = 1 then dpt (C 1) k else dpt (C 1) k - 1 := rfl
    have ih := ih (k + 1) f1 f2
    obtain ⟨d, ed⟩ : ∃ d, d = dpt (C 1) k := ⟨_, rfl⟩
    rw [← ed] at hop hd hdp hs ⊢
    have fin : ∀ (d' : Nat) (v : Int32), dpt (C 1) (k + 1) = d' + 1 → d' ≤ d → fX3_work_6 S F (f1 + 1) (nI p) (nI q) (nI d) (nI k) Ck = fX3_work_6 S F f1 (nI p) (nI q) (nI (d' + 1)) (nI (k + 1)) (sti Ck 2 d' v) → fX8_givenBy_5 (f2 + 1) (nI p) (nI q) (nI d) (nI k) Mk = fX8_givenBy_5 f2 (nI p) (nI q) (nI (d' + 1)) (nI (k + 1)) (sti Mk 26 d' v) → WG S F C M p q k d Ck Mk (f1 + 1) (f2 + 1) := fun d' v e1 e2 e3 e4 => by
      have z := ih (sti Ck 2 d' v) (sti Mk 26 d' v) (by omega) (by omega) (by omega) (fun b hb => by rw [sti_o hb]; exact hC b hb) (fun b hb => by rw [sti_o hb]; exact hM b hb) (fun j hj => by
        rw [e1] at hj
        rw [sti_s, sti_s]
        by_cases e : j = d'
        · rw [e, upd_s, upd_s]
        · rw [upd_n e, upd_n e]; exact hs j (by omega))
      rw [e1] at z
      obtain ⟨v', C', M', z1, z2, z3, z4⟩ := z
      exact ⟨v', C', M', e3.trans z1, e4.trans z2, z3, z4⟩
    rcases hok with ⟨v, hv, e⟩ | e | e | e | e | e | e | e | e | e | e | e | e | e | e | e | e | e | e
    · have e0 : 0 ≤ C 1 k := by rw [e]; exact nI_pos' (by omega)
      have eo : opk (C 1 k) = 0 := by unfold opk; rw [if_pos e0]
      have ee : enS (C 1 k) = nI v := by unfold enS; rw [if_pos e0, e]
      refine fin d (nI v) (by rw [hdp, eo, if_pos rfl]) (Nat.le_refl d) ?_ (gv_num hL hlm hkL hd (by rw [eM, ee]) hv)
      rw [wk_num hL hlk hkL hd (by rw [eC]; exact e0), eC, e]
    · obtain ⟨v, v1, v2⟩ := v_l hx hp hq
      refine fin d v (by rw [hdp, e, show opk (-109) = 0 by decide +kernel, if_pos rfl]) (Nat.le_refl d) ?_ (gv_let (e := -10) (x := 0) hL hlm hkL hd (by rw [eM, e]; decide +kernel) (by decide +kernel) (by decide +kernel) (by decide +kernel) (by decide +kernel) (by decide +kernel) v2)
      rw [wk_sgn (c := -109) (s := 108) hL hlk hkL (eC.trans e) (by decide +kernel) (by decide +kernel)]
      exact wk_let hd (by decide +kernel) (by decide +kernel) (by decide +kernel) v1
    · obtain ⟨v, v1, v2⟩ := v_a hx hp hq
      refine fin d v (by rw [hdp, e, show opk (-98) = 0 by decide +kernel, if_pos rfl]) (Nat.le_refl d) ?_ (gv_let (e := -11) (x := 1) hL hlm hkL hd (by rw [eM, e]; decide +kernel) (by decide +kernel) (by decide +kernel) (by decide +kernel) (by decide +kernel) (by decide +kernel) v2)
      rw [wk_sgn (c := -98) (s := 97) hL hlk hkL (eC.trans e) (by decide +kernel) (by decide +kernel)]
      exact wk_let hd (by decide +kernel) (by decide +kernel) (by decide +kernel) v1
    · obtain ⟨v, v1, v2⟩ := v_s hx hp hq
      refine fin d v (by rw [hdp, e, show opk (-116) = 0 by decide +kernel, if_pos rfl]) (Nat.le_refl d) ?_ (gv_let (e := -12) (x := 2) hL hlm hkL hd (by rw [eM, e]; decide +kernel) (by decide +kernel) (by decide +kernel) (by decide +kernel) (by decide +kernel) (by decide +kernel) v2)
      rw [wk_sgn (c := -116) (s := 115) hL hlk hkL (eC.trans e) (by decide +kernel) (by decide +kernel)]
      exact wk_let hd (by decide +kernel) (by decide +kernel) (by decide +kernel) v1
    · obtain ⟨v, v1, v2⟩ := v_w hx hp hq
      refine fin d v (by rw [hdp, e, show opk (-120) = 0 by decide +kernel, if_pos rfl]) (Nat.le_refl d) ?_ (gv_let (e := -13) (x := 3) hL hlm hkL hd (by rw [eM, e]; decide +kernel) (by decide +kernel) (by decide +kernel) (by decide +kernel) (by decide +kernel) (by decide +kernel) v2)
      rw [wk_sgn (c := -120) (s := 119) hL hlk hkL (eC.trans e) (by decide +kernel) (by decide +kernel)]
      exact wk_let hd (by decide +kernel) (by decide +kernel) (by decide +kernel) v1
    · obtain ⟨v, v1, v2⟩ := v_r hx hp hq
      refine fin d v (by rw [hdp, e, show opk (-115) = 0 by decide +kernel, if_pos rfl]) (Nat.le_refl d) ?_ (gv_let (e := -14) (x := 4) hL hlm hkL hd (by rw [eM, e]; decide +kernel) (by decide +kernel) (by decide +kernel) (by decide +kernel) (by decide +kernel) (by decide +kernel) v2)
      rw [wk_sgn (c := -115) (s := 114) hL hlk hkL (eC.trans e) (by decide +kernel) (by decide +kernel)]
      exact wk_let hd (by decide +kernel) (by decide +kernel) (by decide +kernel) v1
    · obtain ⟨v, v1, v2⟩ := v_n hx hp hq
      refine fin d v (by rw [hdp, e, show opk (-111) = 0 by decide +kernel, if_pos rfl]) (Nat.le_refl d) ?_ (gv_let (e := -15) (x := 5) hL hlm hkL hd (by rw [eM, e]; decide +kernel) (by decide +kernel) (by decide +kernel) (by decide +kernel) (by decide +kernel) (by decide +kernel) v2)
      rw [wk_sgn (c := -111) (s := 110) hL hlk hkL (eC.trans e) (by decide +kernel) (by decide +kernel)]
      exact wk_let hd (by decide +kernel) (by decide +kernel) (by decide +kernel) v1
    · obtain ⟨d, rfl⟩ : ∃ d', d = d' + 1 := ⟨d - 1, by rw [e, show opk (-34) = 1 by decide +kernel] at hop; omega⟩
      refine fin d (if Ck 2 d = 0 then 1 else 0) (by rw [hdp, e, show opk (-34) = 1 by decide +kernel, if_neg (by decide), if_pos rfl]) (by omega) ?_ ?_
      · rw [wk_sgn (c := -34) (s := 33) hL hlk hkL (eC.trans e) (by decide +kernel) (by decide +kernel)]
        exact wk_not (by omega)
      · rw [hs d (by omega)]
        exact gv_not hL hlm hkL (by omega) (by rw [eM, e]; decide +kernel)
    · obtain ⟨d, rfl⟩ : ∃ d', d = d' + 1 := ⟨d - 1, by rw [e, show opk (-127) = 1 by decide +kernel] at hop; omega⟩
      refine fin d (-(Ck 2 d)) (by rw [hdp, e, show opk (-127) = 1 by decide +kernel, if_neg (by decide), if_pos rfl]) (by omega) ?_ ?_
      · rw [wk_sgn (c := -127) (s := 126) hL hlk hkL (eC.trans e) (by decide +kernel) (by decide +kernel)]
        exact wk_neg (by omega)
      · rw [hs d (by omega)]
        exact gv_neg hL hlm hkL (by omega) (by rw [eM, e]; decide +kernel)
    · obtain ⟨d, rfl⟩ : ∃ d', d = d' + 2 := ⟨d - 2, by rw [e, show opk (-125) = 2 by decide +kernel] at hop; omega⟩
      obtain ⟨v, v1, v2⟩ := join_e 124 (Ck 2 d) (Ck 2 (d + 1))
      refine fin d v (by rw [hdp, e, show opk (-125) = 2 by decide +kernel, if_neg (by decide), if_neg (by decide)]; omega) (by omega) ?_ ?_
      · rw [wk_sgn (c := -125) (s := 124) hL hlk hkL (eC.trans e) (by decide +kernel) (by decide +kernel)]
        exact wk_bin (by omega) (by decide +kernel) (by decide +kernel) (by decide +kernel) (by decide +kernel) v1
      · rw [hs d (by omega), hs (d + 1) (by omega)] at v2
        exact gv_bin (e := 10124) (s := 124) hL hlm hkL (by omega) (by rw [eM, e]; decide +kernel) (by decide +kernel) (by decide +kernel) v2
    · obtain ⟨d, rfl⟩ : ∃ d', d = d' + 2 := ⟨d - 2, by rw [e, show opk (-39) = 2 by decide +kernel] at hop; omega⟩
      obtain ⟨v, v1, v2⟩ := join_e 38 (Ck 2 d) (Ck 2 (d + 1))
      refine fin d v (by rw [hdp, e, show opk (-39) = 2 by decide +kernel, if_neg (by decide), if_neg (by decide)]; omega) (by omega) ?_ ?_
      · rw [wk_sgn (c := -39) (s := 38) hL hlk hkL (eC.trans e) (by decide +kernel) (by decide +kernel)]
        exact wk_bin (by omega) (by decide +kernel) (by decide +kernel) (by decide +kernel) (by decide +kernel) v1
      · rw [hs d (by omega), hs (d + 1) (by omega)] at v2
        exact gv_bin (e := 10038) (s := 38) hL hlm hkL (by omega) (by rw [eM, e]; decide +kernel) (by decide +kernel) (by decide +kernel) v2
    · obtain ⟨d, rfl⟩ : ∃ d', d = d' + 2 := ⟨d - 2, by rw [e, show opk (-61) = 2 by decide +kernel] at hop; omega⟩
      obtain ⟨v, v1, v2⟩ := join_e 60 (Ck 2 d) (Ck 2 (d + 1))
      refine fin d v (by rw [hdp, e, show opk (-61) = 2 by decide +kernel, if_neg (by decide), if_neg (by decide)]; omega) (by omega) ?_ ?_
      · rw [wk_sgn (c := -61) (s := 60) hL hlk hkL (eC.trans e) (by decide +kernel) (by decide +kernel)]
        exact wk_bin (by omega) (by decide +kernel) (by decide +kernel) (by decide +kernel) (by decide +kernel) v1
      · rw [hs d (by omega), hs (d + 1) (by omega)] at v2
        exact gv_bin (e := 10060) (s := 60) hL hlm hkL (by omega) (by rw [eM, e]; decide +kernel) (by decide +kernel) (by decide +kernel) v2
    · obtain ⟨d, rfl⟩ : ∃ d', d = d' + 2 := ⟨d - 2, by rw [e, show opk (-62) = 2 by decide +kernel] at hop; omega⟩
      obtain ⟨v, v1, v2⟩ := join_e 61 (Ck 2 d) (Ck 2 (d + 1))
      refine fin d v (by rw [hdp, e, show opk (-62) = 2 by decide +kernel, if_neg (by decide), if_neg (by decide)]; omega) (by omega) ?_ ?_
      · rw [wk_sgn (c := -62) (s := 61) hL hlk hkL (eC.trans e) (by decide +kernel) (by decide +kernel)]
        exact wk_bin (by omega) (by decide +kernel) (by decide +kernel) (by decide +kernel) (by decide +kernel) v1
      · rw [hs d (by omega), hs (d + 1) (by omega)] at v2
        exact gv_bin (e := 10061) (s := 61) hL hlm hkL (by omega) (by rw [eM, e]; decide +kernel) (by decide +kernel) (by decide +kernel) v2
    · obtain ⟨d, rfl⟩ : ∃ d', d = d' + 2 := ⟨d - 2, by rw [e, show opk (-63) = 2 by decide +kernel] at hop; omega⟩
      obtain ⟨v, v1, v2⟩ := join_e 62 (Ck 2 d) (Ck 2 (d + 1))
      refine fin d v (by rw [hdp, e, show opk (-63) = 2 by decide +kernel, if_neg (by decide), if_neg (by decide)]; omega) (by omega) ?_ ?_
      · rw [wk_sgn (c := -63) (s := 62) hL hlk hkL (eC.trans e) (by decide +kernel) (by decide +kernel)]
        exact wk_bin (by omega) (by decide +kernel) (by decide +kernel) (by decide +kernel) (by decide +kernel) v1
      · rw [hs d (by omega), hs (d + 1) (by omega)] at v2
        exact gv_bin (e := 10062) (s := 62) hL hlm hkL (by omega) (by rw [eM, e]; decide +kernel) (by decide +kernel) (by decide +kernel) v2
    · obtain ⟨d, rfl⟩ : ∃ d', d = d' + 2 := ⟨d - 2, by rw [e, show opk (-44) = 2 by decide +kernel] at hop; omega⟩
      obtain ⟨v, v1, v2⟩ := join_e 43 (Ck 2 d) (Ck 2 (d + 1))
      refine fin d v (by rw [hdp, e, show opk (-44) = 2 by decide +kernel, if_neg (by decide), if_neg (by decide)]; omega) (by omega) ?_ ?_
      · rw [wk_sgn (c := -44) (s := 43) hL hlk hkL (eC.trans e) (by decide +kernel) (by decide +kernel)]
        exact wk_bin (by omega) (by decide +kernel) (by decide +kernel) (by decide +kernel) (by decide +kernel) v1
      · rw [hs d (by omega), hs (d + 1) (by omega)] at v2
        exact gv_bin (e := 10043) (s := 43) hL hlm hkL (by omega) (by rw [eM, e]; decide +kernel) (by decide +kernel) (by decide +kernel) v2
    · obtain ⟨d, rfl⟩ : ∃ d', d = d' + 2 := ⟨d - 2, by rw [e, show opk (-46) = 2 by decide +kernel] at hop; omega⟩
      obtain ⟨v, v1, v2⟩ := join_e 45 (Ck 2 d) (Ck 2 (d + 1))
      refine fin d v (by rw [hdp, e, show opk (-46) = 2 by decide +kernel, if_neg (by decide), if_neg (by decide)]; omega) (by omega) ?_ ?_
      · rw [wk_sgn (c := -46) (s := 45) hL hlk hkL (eC.trans e) (by decide +kernel) (by decide +kernel)]
        exact wk_bin (by omega) (by decide +kernel) (by decide +kernel) (by decide +kernel) (by decide +kernel) v1
      · rw [hs d (by omega), hs (d + 1) (by omega)] at v2
        exact gv_bin (e := 10045) (s := 45) hL hlm hkL (by omega) (by rw [eM, e]; decide +kernel) (by decide +kernel) (by decide +kernel) v2
    · obtain ⟨d, rfl⟩ : ∃ d', d = d' + 2 := ⟨d - 2, by rw [e, show opk (-43) = 2 by decide +kernel] at hop; omega⟩
      obtain ⟨v, v1, v2⟩ := join_e 42 (Ck 2 d) (Ck 2 (d + 1))
      refine fin d v (by rw [hdp, e, show opk (-43) = 2 by decide +kernel, if_neg (by decide), if_neg (by decide)]; omega) (by omega) ?_ ?_
      · rw [wk_sgn (c := -43) (s := 42) hL hlk hkL (eC.trans e) (by decide +kernel) (by decide +kernel)]
        exact wk_bin (by omega) (by decide +kernel) (by decide +kernel) (by decide +kernel) (by decide +kernel) v1
      · rw [hs d (by omega), hs (d + 1) (by omega)] at v2
        exact gv_bin (e := 10042) (s := 42) hL hlm hkL (by omega) (by rw [eM, e]; decide +kernel) (by decide +kernel) (by decide +kernel) v2
    · obtain ⟨d, rfl⟩ : ∃ d', d = d' + 2 := ⟨d - 2, by rw [e, show opk (-48) = 2 by decide +kernel] at hop; omega⟩
      obtain ⟨v, v1, v2⟩ := join_e 47 (Ck 2 d) (Ck 2 (d + 1))
      refine fin d v (by rw [hdp, e, show opk (-48) = 2 by decide +kernel, if_neg (by decide), if_neg (by decide)]; omega) (by omega) ?_ ?_
      · rw [wk_sgn (c := -48) (s := 47) hL hlk hkL (eC.trans e) (by decide +kernel) (by decide +kernel)]
        exact wk_bin (by omega) (by decide +kernel) (by decide +kernel) (by decide +kernel) (by decide +kernel) v1
      · rw [hs d (by omega), hs (d + 1) (by omega)] at v2
        exact gv_bin (e := 10047) (s := 47) hL hlm hkL (by omega) (by rw [eM, e]; decide +kernel) (by decide +kernel) (by decide +kernel) v2
    · obtain ⟨d, rfl⟩ : ∃ d', d = d' + 2 := ⟨d - 2, by rw [e, show opk (-38) = 2 by decide +kernel] at hop; omega⟩
      obtain ⟨v, v1, v2⟩ := join_e 37 (Ck 2 d) (Ck 2 (d + 1))
      refine fin d v (by rw [hdp, e, show opk (-38) = 2 by decide +kernel, if_neg (by decide), if_neg (by decide)]; omega) (by omega) ?_ ?_
      · rw [wk_sgn (c := -38) (s := 37) hL hlk hkL (eC.trans e) (by decide +kernel) (by decide +kernel)]
        exact wk_bin (by omega) (by decide +kernel) (by decide +kernel) (by decide +kernel) (by decide +kernel) v1
      · rw [hs d (by omega), hs (d + 1) (by omega)] at v2
        exact gv_bin (e := 10037) (s := 37) hL hlm hkL (by omega) (by rw [eM, e]; decide +kernel) (by decide +kernel) (by decide +kernel) v2
theorem given {F C S M : ST} {n a p q : Nat} (h : ctx F C S M n a) (hp : p < n) (hq : q < n) (hne : ¬ C 0 2 ≤ 0) : ∃ v C' M', fX3_work (nI p) (nI q) C S F = some (v, C') ∧ fX8_givenBy (nI p) (nI q) M = some (v, M') ∧ (∀ b, b ≠ 2 → C' b = C b) ∧ (∀ b, b ≠ 26 → M' b = M b) := by
  obtain ⟨L, hL, hl, hT⟩ := h.2.2.2.2.2.2.2.2.2
  have h0 : 0 < L := by
    rcases Nat.eq_zero_or_pos L with z | z
    · exfalso; apply hne; rw [hl, z]; exact nI_le (a := 0) (b := 0) (by omega) (by decide)
    · exact z
  exact given_l h hp hq hL hl h0 hT L 0 400 400 C M (by omega) (by omega) (by omega) (fun _ _ => rfl) (fun _ _ => rfl) (fun j hj => absurd hj (by show ¬ j < 0; omega))
theorem there {C : ST} (hC : iC C) : (¬ C 0 2 ≤ 0) ↔ ¬ C 0 2 = 0 := by
  obtain ⟨L, hL, hl, -⟩ := hC
  rw [hl]
  rcases Nat.eq_zero_or_pos L with z | z
  · rw [z]; exact ⟨fun h => absurd (nI_le (a := 0) (b := 0) (by omega) (by decide)) h, fun h => absurd rfl h⟩
  · exact ⟨fun _ => nI_ne0 z (by omega), fun _ => nI_nle z (by omega)⟩
theorem there_e (C : ST) : fX3_isThere C = some (if C 0 2 ≤ 0 then 0 else 1) := by
  unfold fX3_isThere
  by_cases z : C 0 2 ≤ 0
  · rw [if_pos z, if_pos z]
  · rw [if_neg z, if_neg z]
/-- the relation, when the script's stack and the reference's rows 12, 14, 26 have changed -/
theorem RR_st {Ma Fo Sc Se Tr Ch Us Ta Dr G0 : ST} {N0 : LT} {G1 : ST} {N1 : LT} {G2 : ST} {N2 : LT} {G3 : ST} {N3 : LT} {Fo2 Sc2 Se2 Tr2 Fo3 Sc3 Se3 Tr3 M : ST} {N : LT} (hR : RR Ma Fo Sc Se Tr Ch Us Ta Dr G0 N0 G1 N1 G2 N2 G3 N3 Fo2 Sc2 Se2 Tr2 Fo3 Sc3 Se3 Tr3 M N) {Sc' Tr' Ch' Us' Fo3' Sc3' Se3' Tr3' M' : ST} (hC : ∀ b, b ≠ 2 → Sc' b = Sc b) (hM : ∀ b, b = 0 ∨ b = 1 ∨ b = 2 ∨ b = 4 ∨ b = 5 ∨ b = 7 ∨ b = 8 → M' b = M b) : RR Ma Fo Sc' Se Tr' Ch' Us' Ta Dr G0 N0 G1 N1 G2 N2 G3 N3 Fo2 Sc2 Se2 Tr2 Fo3' Sc3' Se3' Tr3' M' N := by
  obtain ⟨⟨hc, hi, hk⟩, h2, h3, h4, h5⟩ := hR
  obtain ⟨n, a, h⟩ := ctx_of hc hi
  have h' := ctx_inv (ctx_fr h hC (hM 1 (by decide)))
  refine ⟨⟨h'.1, h'.2, ?_⟩, ?_, ?_, ?_, ?_⟩
  · rw [hM 0 (by decide)]; exact hk
  · rw [hM 0 (by decide), hM 2 (by decide)]; exact h2
  · rw [hM 4 (by decide)]; exact h3
  · rw [hM 0 (by decide), hM 5 (by decide)]; exact h4
  · rw [hM 7 (by decide), hM 8 (by decide)]; exact h5
theorem P_gives_ok : P_gives RR := by
  intro x1 x2 Ma Fo Sc Se Tr Ch Us Ta Dr G0 N0 G1 N1 G2 N2 G3 N3 Fo2 Sc2 Se2 Tr2 Fo3 Sc3 Se3 Tr3 M N hR
  obtain ⟨n, a, h⟩ := ctx_of hR.1.1 hR.1.2.1
  have h' := h
  obtain ⟨hn, hF, a1, a4, hA, hc, hiF, hiR, hiL, hiC⟩ := h'
  unfold fX7_gives fX8_gives fX7_gives_16 fX8_gives_16
  rw [fd7_0, fd8_0, b2s, b2s, isOne_e hn hF, isP_e (hc.1.1.trans hF), b1s, b1s]
  by_cases hx : x1 < 0 ∨ nI n ≤ x1
  · rw [if_pos hx, i00, i00]
    exact ⟨_, _, _, _, rfl, rfl, RR_f hR 0 (by decide)⟩
  rw [if_neg hx, i10, i10, isOne_e hn hF, isP_e (hc.1.1.trans hF), b1s, b1s]
  by_cases hy : x2 < 0 ∨ nI n ≤ x2
  · rw [if_pos hy, i00, i00]
    exact ⟨_, _, _, _, rfl, rfl, RR_f hR 0 (by decide)⟩
  rw [if_neg hy, i10, i10, there_e, b1s]
  obtain ⟨p, hp, rfl⟩ := in_n hn hx
  obtain ⟨q, hq, rfl⟩ := in_n hn hy
  have e190 : M 1 190 = Sc 0 2 := hc.2.2.2.2.2.2.1
  by_cases hz : Sc 0 2 ≤ 0
  · have hz0 : Sc 0 2 = 0 := by
      by_cases q : Sc 0 2 = 0
      · exact q
      · exact absurd hz ((there hiC).mpr q)
    rw [if_pos hz, i00, e190, if_pos hz0, fd7_3, fd8_3, b2s, b2s]
    exact ⟨_, _, _, _, rfl, rfl, RR_f hR 3 (by decide)⟩
  · rw [if_neg hz, i10, e190, if_neg ((there hiC).mp hz)]
    obtain ⟨v, C', M', g1, g2, g3, g4⟩ := given h hp hq hz
    rw [g1, g2, b2s, b2s]
    refine ⟨_, _, _, _, rfl, rfl, RR_st hR g3 (fun b hb => g4 b (by omega))⟩
