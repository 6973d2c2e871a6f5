-- THE TEXT: the class's readers, by how many are open
theorem ix_all : ∀ u, u < 256 → fJ0_indexOf_0f7a4 (nI u) = some (if nI u = 108 then 0 else if nI u = 97 then 1 else if nI u = 115 then 2 else if nI u = 119 then 3 else if nI u = 114 then 4 else if nI u = 110 then 5 else -1) := by decide +kernel
theorem ix_y {u : Nat} (hu : u < 256) (h : isNm (nI u)) : ∃ r, fJ0_indexOf_0f7a4 (nI u) = some r ∧ ¬ r < 0 := by
  rw [ix_all u hu]
  rcases h with e | e | e | e | e | e <;> rw [e]
  · exact ⟨0, by decide +kernel, by decide⟩
  · exact ⟨1, by decide +kernel, by decide⟩
  · exact ⟨2, by decide +kernel, by decide⟩
  · exact ⟨3, by decide +kernel, by decide⟩
  · exact ⟨4, by decide +kernel, by decide⟩
  · exact ⟨5, by decide +kernel, by decide⟩
theorem ix_n {u : Nat} (hu : u < 256) (h : ¬ isNm (nI u)) : fJ0_indexOf_0f7a4 (nI u) = some (-1) := by
  rw [ix_all u hu, if_neg (fun e => h (Or.inl e)), if_neg (fun e => h (Or.inr (Or.inl e))), if_neg (fun e => h (Or.inr (Or.inr (Or.inl e)))), if_neg (fun e => h (Or.inr (Or.inr (Or.inr (Or.inl e))))), if_neg (fun e => h (Or.inr (Or.inr (Or.inr (Or.inr (Or.inl e)))))), if_neg (fun e => h (Or.inr (Or.inr (Or.inr (Or.inr (Or.inr e))))))]
theorem op_nd {c : Int32} (h : c = 33 ∨ c = 45 ∨ c = 40) : ¬ isDg c ∧ ¬ isNm c := by
  rcases h with e | e | e <;> subst e <;> exact ⟨fun z => z (by decide), fun z => absurd z (by unfold isNm; decide)⟩
theorem q5_78 {n : Nat} {v : Nat → Int32} (hn : n ≤ 80) (hv : ∀ j, j < n → ∃ u : Nat, u < 256 ∧ v j = nI u) {T Dr : ST} {i : Nat} (h : tpc n v T i 0) (hi : i ≤ n) (hx : i < n → ¬ isDg (v i) ∧ ¬ isNm (v i)) : fX6_readQ_5 (nI 5) T Dr = fX6_readQ_5_78 (nI 5) T Dr := by
  unfold fX6_readQ_5
  rw [dig_e hn hi h, b1s, if_neg (show ¬ (i < n ∧ ¬ (v i < 48 ∨ 57 < v i)) from fun z => (hx z.1).1 z.2), i00, h.2.2.1, if_pos rfl, h.1, h.2.1]
  by_cases q : i < n
  · obtain ⟨u, hu, eu⟩ := hv i q
    have hnm : ¬ isNm (nI u) := by rw [← eu]; exact (hx q).2
    rw [if_neg (nI_ge q (by omega)), cks _ (vp_in_nI (show i < 80 by omega) (by decide)), nI_clamp (by omega), h.2.2.2 i q, eu, ix_n hu hnm, b1s, if_pos m1_lt]
  · rw [if_pos (nI_le (by omega) (by omega))]
theorem sq_5 {n : Nat} {v : Nat → Int32} (hn : n ≤ 80) (hv : ∀ j, j < n → ∃ u : Nat, u < 256 ∧ v j = nI u) : SQ n v 5 (fX6_readQ_5 (nI 5)) := by
  refine SQ_gen hn hv (rq' := fun _ _ => none) (rt' := fun _ _ => none) (fun h => absurd h (by decide)) (fun h => absurd h (by decide)) ?_ ?_ ?_ ?_ ?_ ?_
  · intro T Dr i h hi dg
    unfold fX6_readQ_5
    rw [dig_e hn (by omega) h, b1s, if_pos (show i < n ∧ ¬ (v i < 48 ∨ 57 < v i) from ⟨hi, dg⟩), i10]
  · intro T Dr i h hi dg nm
    obtain ⟨u, hu, eu⟩ := hv i hi
    have hnm : isNm (nI u) := by rw [← eu]; exact nm
    obtain ⟨r, r1, r2⟩ := ix_y hu hnm
    unfold fX6_readQ_5
    rw [dig_e hn (by omega) h, b1s, if_neg (show ¬ (i < n ∧ ¬ (v i < 48 ∨ 57 < v i)) from fun z => dg z.2), i00, h.2.2.1, if_pos rfl, h.1, h.2.1, if_neg (nI_ge hi (by omega)), cks _ (vp_in_nI (show i < 80 by omega) (by decide)), nI_clamp (by omega), h.2.2.2 i hi, eu, r1, b1s, if_neg r2, cks _ (vp_in_nI (show i < 80 by omega) (by decide))]
    simp only [lts, nI_1]
  · intro T Dr i h hi hx
    rw [q5_78 hn hv h hi (fun z => ⟨(hx z).1, (hx z).2.1⟩)]
    unfold fX6_readQ_5_78 fX6_readQ_5_111 fX6_readQ_5_144
    rw [if_pos (by decide), if_pos (by decide), if_pos (by decide), lts]
  · intro T Dr i h hi hk; exact absurd hk (by decide)
  · intro T Dr i h hi hk; exact absurd hk (by decide)
  · intro T Dr i h hi hk; exact absurd hk (by decide)
theorem sp_5 {n : Nat} {v : Nat → Int32} (hn : n ≤ 80) (hv : ∀ j, j < n → ∃ u : Nat, u < 256 ∧ v j = nI u) : SX n v 5 5 (fX6_readP_5 (nI 5)) := by
  show SX n v 5 5 (fun T Dr => dc_b2 (fX6_readQ_5 (nI 5) T Dr) (fun T1 D1 => fX6_readP_5_7 400 (nI 5) 0 T1 D1))
  refine SX_lp (W := fun f y T Dr => fX6_readP_5_7 f (nI 5) y T Dr) hn (by omega) (SX6 (sq_5 hn hv)) ?_ ?_ ?_
  · intro f y T Dr i h hy
    show fX6_readP_5_7_s (fX6_readP_5_7 f) _ _ _ _ = _
    unfold fX6_readP_5_7_s
    rw [if_neg (show ¬ (80 : Int32) ≤ nI y from nI_ge (b := 80) hy (by decide)), sees_f h, b1s, i00, sees_f h, b1s, i00, sees_f h, b1s, i00]
  · intro f y T Dr i h hi hy hq
    show fX6_readP_5_7_s (fX6_readP_5_7 f) _ _ _ _ = _
    unfold fX6_readP_5_7_s
    rw [if_neg (show ¬ (80 : Int32) ≤ nI y from nI_ge (b := 80) hy (by decide)), sees_e hn hi h, b1s, if_neg (show ¬ (i < n ∧ v i = 42) from fun z => hq ⟨z.1, bs_5.mpr (Or.inl z.2)⟩), i00, sees_e hn hi h, b1s, if_neg (show ¬ (i < n ∧ v i = 47) from fun z => hq ⟨z.1, bs_5.mpr (Or.inr (Or.inl z.2))⟩), i00, sees_e hn hi h, b1s, if_neg (show ¬ (i < n ∧ v i = 37) from fun z => hq ⟨z.1, bs_5.mpr (Or.inr (Or.inr z.2))⟩), i00]
  · intro f y T Dr i h hy hi hb
    have e40 : fX6_readP_5_40 (fX6_readP_5_7 f) (nI 5) (nI y) T Dr = dc_b2 (fX6_readQ_5 (nI 5) (sti T 0 3 (nI (i + 1))) Dr) (fun T2 D2 => dc_b1 (fX3_putSign (v i) D2) (fun D3 => fX6_readP_5_7 f (nI 5) (nI (y + 1)) T2 D3)) := by
      unfold fX6_readP_5_40
      rw [h.2.1, cks _ (vp_in_nI (show i < 80 by omega) (by decide)), nI_clamp (by omega), h.2.2.2 i hi]
      simp only [lts, nI_1]
    show fX6_readP_5_7_s (fX6_readP_5_7 f) _ _ _ _ = _
    rw [← e40]
    unfold fX6_readP_5_7_s
    rcases bs_5.mp hb with e | e | e
    · rw [if_neg (show ¬ (80 : Int32) ≤ nI y from nI_ge (b := 80) hy (by decide)), sees_e hn (by omega) h, b1s, if_pos (show i < n ∧ v i = 42 from ⟨hi, e⟩), i10]
    · rw [if_neg (show ¬ (80 : Int32) ≤ nI y from nI_ge (b := 80) hy (by decide)), sees_e hn (by omega) h, b1s, if_neg (show ¬ (i < n ∧ v i = 42) from fun z => by rw [e] at z; exact absurd z.2 (by decide)), i00, sees_e hn (by omega) h, b1s, if_pos (show i < n ∧ v i = 47 from ⟨hi, e⟩), i10]
    · rw [if_neg (show ¬ (80 : Int32) ≤ nI y from nI_ge (b := 80) hy (by decide)), sees_e hn (by omega) h, b1s, if_neg (show ¬ (i < n ∧ v i = 42) from fun z => by rw [e] at z; exact absurd z.2 (by decide)), i00, sees_e hn (by omega) h, b1s, if_neg (show ¬ (i < n ∧ v i = 47) from fun z => by rw [e] at z; exact absurd z.2 (by decide)), i00, sees_e hn (by omega) h, b1s, if_pos (show i < n ∧ v i = 37 from ⟨hi, e⟩), i10]
theorem ss_5 {n : Nat} {v : Nat → Int32} (hn : n ≤ 80) (hv : ∀ j, j < n → ∃ u : Nat, u < 256 ∧ v j = nI u) : SX n v 5 4 (fX6_readS_5 (nI 5)) := by
  show SX n v 5 4 (fun T Dr => dc_b2 (fX6_readP_5 (nI 5) T Dr) (fun T1 D1 => fX6_readS_5_7 400 (nI 5) 0 T1 D1))
  refine SX_lp (W := fun f y T Dr => fX6_readS_5_7 f (nI 5) y T Dr) hn (by omega) (sp_5 hn hv) ?_ ?_ ?_
  · intro f y T Dr i h hy
    show fX6_readS_5_7_s (fX6_readS_5_7 f) _ _ _ _ = _
    unfold fX6_readS_5_7_s
    rw [if_neg (show ¬ (80 : Int32) ≤ nI y from nI_ge (b := 80) hy (by decide)), sees_f h, b1s, i00, sees_f h, b1s, i00]
  · intro f y T Dr i h hi hy hq
    show fX6_readS_5_7_s (fX6_readS_5_7 f) _ _ _ _ = _
    unfold fX6_readS_5_7_s
    rw [if_neg (show ¬ (80 : Int32) ≤ nI y from nI_ge (b := 80) hy (by decide)), sees_e hn hi h, b1s, if_neg (show ¬ (i < n ∧ v i = 43) from fun z => hq ⟨z.1, bs_4.mpr (Or.inl z.2)⟩), i00, sees_e hn hi h, b1s, if_neg (show ¬ (i < n ∧ v i = 45) from fun z => hq ⟨z.1, bs_4.mpr (Or.inr z.2)⟩), i00]
  · intro f y T Dr i h hy hi hb
    have e40 : fX6_readS_5_31 (fX6_readS_5_7 f) (nI 5) (nI y) T Dr = dc_b2 (fX6_readP_5 (nI 5) (sti T 0 3 (nI (i + 1))) Dr) (fun T2 D2 => dc_b1 (fX3_putSign (v i) D2) (fun D3 => fX6_readS_5_7 f (nI 5) (nI (y + 1)) T2 D3)) := by
      unfold fX6_readS_5_31
      rw [h.2.1, cks _ (vp_in_nI (show i < 80 by omega) (by decide)), nI_clamp (by omega), h.2.2.2 i hi]
      simp only [lts, nI_1]
    show fX6_readS_5_7_s (fX6_readS_5_7 f) _ _ _ _ = _
    rw [← e40]
    unfold fX6_readS_5_7_s
    rcases bs_4.mp hb with e | e
    · rw [if_neg (show ¬ (80 : Int32) ≤ nI y from nI_ge (b := 80) hy (by decide)), sees_e hn (by omega) h, b1s, if_pos (show i < n ∧ v i = 43 from ⟨hi, e⟩), i10]
    · rw [if_neg (show ¬ (80 : Int32) ≤ nI y from nI_ge (b := 80) hy (by decide)), sees_e hn (by omega) h, b1s, if_neg (show ¬ (i < n ∧ v i = 43) from fun z => by rw [e] at z; exact absurd z.2 (by decide)), i00, sees_e hn (by omega) h, b1s, if_pos (show i < n ∧ v i = 45 from ⟨hi, e⟩), i10]
theorem sb_5 {n : Nat} {v : Nat → Int32} (hn : n ≤ 80) (hv : ∀ j, j < n → ∃ u : Nat, u < 256 ∧ v j = nI u) : SX n v 5 3 (fX6_readB_5 (nI 5)) := by
  refine SX_3 (sub := fX6_readS_5 (nI 5)) (W := (fun T1 D1 => dc_b1 (fX6_sees 60 T1) (fun r4 => (if r4 = 0 then dc_b1 (fX6_sees 61 T1) (fun r15 => (if r15 = 0 then dc_b1 (fX6_sees 62 T1) (fun r18 => (if r18 = 0 then some (T1, D1) else fX6_readB_5_32 (nI 5) T1 D1)) else fX6_readB_5_32 (nI 5) T1 D1)) else fX6_readB_5_32 (nI 5) T1 D1)))) hn (ss_5 hn hv) (fun T Dr => rfl) ?_ ?_ ?_
  · intro T Dr i h
    show dc_b1 (fX6_sees 60 T) _ = _
    rw [sees_f h, b1s, i00, sees_f h, b1s, i00, sees_f h, b1s, i00]
  · intro T Dr i h hi hq
    show dc_b1 (fX6_sees 60 T) _ = _
    rw [sees_e hn hi h, b1s, if_neg (show ¬ (i < n ∧ v i = 60) from fun z => hq ⟨z.1, bs_3.mpr (Or.inl z.2)⟩), i00, sees_e hn hi h, b1s, if_neg (show ¬ (i < n ∧ v i = 61) from fun z => hq ⟨z.1, bs_3.mpr (Or.inr (Or.inl z.2))⟩), i00, sees_e hn hi h, b1s, if_neg (show ¬ (i < n ∧ v i = 62) from fun z => hq ⟨z.1, bs_3.mpr (Or.inr (Or.inr z.2))⟩), i00]
  · intro T Dr i h hi hb
    have e32 : fX6_readB_5_32 (nI 5) T Dr = dc_b2 (fX6_readS_5 (nI 5) (sti T 0 3 (nI (i + 1))) Dr) (fun T2 D2 => dc_b1 (fX3_putSign (v i) D2) (fun D3 => some (T2, D3))) := by
      unfold fX6_readB_5_32
      rw [h.2.1, cks _ (vp_in_nI (show i < 80 by omega) (by decide)), nI_clamp (by omega), h.2.2.2 i hi]
      simp only [lts, nI_1]
    show dc_b1 (fX6_sees 60 T) _ = _
    rw [← e32]
    rcases bs_3.mp hb with e | e | e
    · rw [sees_e hn (by omega) h, b1s, if_pos (show i < n ∧ v i = 60 from ⟨hi, e⟩), i10]
    · rw [sees_e hn (by omega) h, b1s, if_neg (show ¬ (i < n ∧ v i = 60) from fun z => by rw [e] at z; exact absurd z.2 (by decide)), i00, sees_e hn (by omega) h, b1s, if_pos (show i < n ∧ v i = 61 from ⟨hi, e⟩), i10]
    · rw [sees_e hn (by omega) h, b1s, if_neg (show ¬ (i < n ∧ v i = 60) from fun z => by rw [e] at z; exact absurd z.2 (by decide)), i00, sees_e hn (by omega) h, b1s, if_neg (show ¬ (i < n ∧ v i = 61) from fun z => by rw [e] at z; exact absurd z.2 (by decide)), i00, sees_e hn (by omega) h, b1s, if_pos (show i < n ∧ v i = 62 from ⟨hi, e⟩), i10]
theorem sa_5 {n : Nat} {v : Nat → Int32} (hn : n ≤ 80) (hv : ∀ j, j < n → ∃ u : Nat, u < 256 ∧ v j = nI u) : SX n v 5 2 (fX6_readA_5 (nI 5)) := by
  show SX n v 5 2 (fun T Dr => dc_b2 (fX6_readB_5 (nI 5) T Dr) (fun T1 D1 => fX6_readA_5_7 400 (nI 5) 0 T1 D1))
  refine SX_lp (W := fun f y T Dr => fX6_readA_5_7 f (nI 5) y T Dr) hn (by omega) (sb_5 hn hv) ?_ ?_ ?_
  · intro f y T Dr i h hy
    show fX6_readA_5_7_s (fX6_readA_5_7 f) _ _ _ _ = _
    unfold fX6_readA_5_7_s
    rw [if_neg (show ¬ (80 : Int32) ≤ nI y from nI_ge (b := 80) hy (by decide)), takes_f h, b2s, i00]
  · intro f y T Dr i h hi hy hq
    show fX6_readA_5_7_s (fX6_readA_5_7 f) _ _ _ _ = _
    unfold fX6_readA_5_7_s
    rw [if_neg (show ¬ (80 : Int32) ≤ nI y from nI_ge (b := 80) hy (by decide)), takes_n hn hi h (fun z => hq ⟨z.1, bs_2.mpr z.2⟩), b2s, i00]
  · intro f y T Dr i h hy hi hb
    have e := bs_2.mp hb
    show fX6_readA_5_7_s (fX6_readA_5_7 f) _ _ _ _ = _
    unfold fX6_readA_5_7_s
    rw [if_neg (show ¬ (80 : Int32) ≤ nI y from nI_ge (b := 80) hy (by decide)), takes_y hn hi h e, b2s, i10, e]
    simp only [lts, nI_1]
theorem st_5 {n : Nat} {v : Nat → Int32} (hn : n ≤ 80) (hv : ∀ j, j < n → ∃ u : Nat, u < 256 ∧ v j = nI u) : SX n v 5 1 (fX6_readT_5 (nI 5)) := by
  show SX n v 5 1 (fun T Dr => dc_b2 (fX6_readA_5 (nI 5) T Dr) (fun T1 D1 => fX6_readT_5_7 400 (nI 5) 0 T1 D1))
  refine SX_lp (W := fun f y T Dr => fX6_readT_5_7 f (nI 5) y T Dr) hn (by omega) (sa_5 hn hv) ?_ ?_ ?_
  · intro f y T Dr i h hy
    show fX6_readT_5_7_s (fX6_readT_5_7 f) _ _ _ _ = _
    unfold fX6_readT_5_7_s
    rw [if_neg (show ¬ (80 : Int32) ≤ nI y from nI_ge (b := 80) hy (by decide)), takes_f h, b2s, i00]
  · intro f y T Dr i h hi hy hq
    show fX6_readT_5_7_s (fX6_readT_5_7 f) _ _ _ _ = _
    unfold fX6_readT_5_7_s
    rw [if_neg (show ¬ (80 : Int32) ≤ nI y from nI_ge (b := 80) hy (by decide)), takes_n hn hi h (fun z => hq ⟨z.1, bs_1.mpr z.2⟩), b2s, i00]
  · intro f y T Dr i h hy hi hb
    have e := bs_1.mp hb
    show fX6_readT_5_7_s (fX6_readT_5_7 f) _ _ _ _ = _
    unfold fX6_readT_5_7_s
    rw [if_neg (show ¬ (80 : Int32) ≤ nI y from nI_ge (b := 80) hy (by decide)), takes_y hn hi h e, b2s, i10, e]
    simp only [lts, nI_1]
theorem q4_78 {n : Nat} {v : Nat → Int32} (hn : n ≤ 80) (hv : ∀ j, j < n → ∃ u : Nat, u < 256 ∧ v j = nI u) {T Dr : ST} {i : Nat} (h : tpc n v T i 0) (hi : i ≤ n) (hx : i < n → ¬ isDg (v i) ∧ ¬ isNm (v i)) : fX6_readQ_4 (nI 4) T Dr = fX6_readQ_4_78 (nI 4) T Dr := by
  unfold fX6_readQ_4
  rw [dig_e hn hi h, b1s, if_neg (show ¬ (i < n ∧ ¬ (v i < 48 ∨ 57 < v i)) from fun z => (hx z.1).1 z.2), i00, h.2.2.1, if_pos rfl, h.1, h.2.1]
  by_cases q : i < n
  · obtain ⟨u, hu, eu⟩ := hv i q
    have hnm : ¬ isNm (nI u) := by rw [← eu]; exact (hx q).2
    rw [if_neg (nI_ge q (by omega)), cks _ (vp_in_nI (show i < 80 by omega) (by decide)), nI_clamp (by omega), h.2.2.2 i q, eu, ix_n hu hnm, b1s, if_pos m1_lt]
  · rw [if_pos (nI_le (by omega) (by omega))]
theorem sq_4 {n : Nat} {v : Nat → Int32} (hn : n ≤ 80) (hv : ∀ j, j < n → ∃ u : Nat, u < 256 ∧ v j = nI u) : SQ n v 4 (fX6_readQ_4 (nI 4)) := by
  refine SQ_gen hn hv (rq' := fX6_readQ_5 (nI 5)) (rt' := fX6_readT_5 (nI 5)) (fun _ => sq_5 hn hv) (fun _ => st_5 hn hv) ?_ ?_ ?_ ?_ ?_ ?_
  · intro T Dr i h hi dg
    unfold fX6_readQ_4
    rw [dig_e hn (by omega) h, b1s, if_pos (show i < n ∧ ¬ (v i < 48 ∨ 57 < v i) from ⟨hi, dg⟩), i10]
  · intro T Dr i h hi dg nm
    obtain ⟨u, hu, eu⟩ := hv i hi
    have hnm : isNm (nI u) := by rw [← eu]; exact nm
    obtain ⟨r, r1, r2⟩ := ix_y hu hnm
    unfold fX6_readQ_4
    rw [dig_e hn (by omega) h, b1s, if_neg (show ¬ (i < n ∧ ¬ (v i < 48 ∨ 57 < v i)) from fun z => dg z.2), i00, h.2.2.1, if_pos rfl, h.1, h.2.1, if_neg (nI_ge hi (by omega)), cks _ (vp_in_nI (show i < 80 by omega) (by decide)), nI_clamp (by omega), h.2.2.2 i hi, eu, r1, b1s, if_neg r2, cks _ (vp_in_nI (show i < 80 by omega) (by decide))]
    simp only [lts, nI_1]
  · intro T Dr i h hi hx
    rw [q4_78 hn hv h hi (fun z => ⟨(hx z).1, (hx z).2.1⟩)]
    have op : ¬ (i < n ∧ (v i = 33 ∨ v i = 45 ∨ v i = 40)) := fun z => ((hx z.1).2.2.resolve_left (by decide)) z.2
    unfold fX6_readQ_4_78 fX6_readQ_4_111 fX6_readQ_4_144
    rw [if_neg (by decide), takes_n hn hi h (fun z => op ⟨z.1, Or.inl z.2⟩), b2s, i00, if_neg (by decide), takes_n hn hi h (fun z => op ⟨z.1, Or.inr (Or.inl z.2)⟩), b2s, i00, if_neg (by decide), takes_n hn hi h (fun z => op ⟨z.1, Or.inr (Or.inr z.2)⟩), b2s, i00, lts]
  · intro T Dr i h hi _ e
    rw [q4_78 hn hv h (by omega) (fun _ => op_nd (Or.inl e))]
    unfold fX6_readQ_4_78
    rw [if_neg (by decide), takes_y hn hi h e, b2s, i10, show nI 4 + 1 = nI 5 from rfl]
  · intro T Dr i h hi _ e
    rw [q4_78 hn hv h (by omega) (fun _ => op_nd (Or.inr (Or.inl e)))]
    unfold fX6_readQ_4_78 fX6_readQ_4_111
    rw [if_neg (by decide), takes_n hn (by omega) h (fun z => by rw [e] at z; exact absurd z.2 (by decide)), b2s, i00, if_neg (by decide), takes_y hn hi h e, b2s, i10, show nI 4 + 1 = nI 5 from rfl]
  · intro T Dr i h hi _ e
    rw [q4_78 hn hv h (by omega) (fun _ => op_nd (Or.inr (Or.inr e)))]
    unfold fX6_readQ_4_78 fX6_readQ_4_111 fX6_readQ_4_144
    rw [if_neg (by decide), takes_n hn (by omega) h (fun z => by rw [e] at z; exact absurd z.2 (by decide)), b2s, i00, if_neg (by decide), takes_n hn (by omega) h (fun z => by rw [e] at z; exact absurd z.2 (by decide)), b2s, i00, if_neg (by decide), takes_y hn hi h e, b2s, i10, show nI 4 + 1 = nI 5 from rfl]
theorem sp_4 {n : Nat} {v : Nat → Int32} (hn : n ≤ 80) (hv : ∀ j, j < n → ∃ u : Nat, u < 256 ∧ v j = nI u) : SX n v 4 5 (fX6_readP_4 (nI 4)) := by
  show SX n v 4 5 (fun T Dr => dc_b2 (fX6_readQ_4 (nI 4) T Dr) (fun T1 D1 => fX6_readP_4_7 400 (nI 4) 0 T1 D1))
  refine SX_lp (W := fun f y T Dr => fX6_readP_4_7 f (nI 4) y T Dr) hn (by omega) (SX6 (sq_4 hn hv)) ?_ ?_ ?_
  · intro f y T Dr i h hy
    show fX6_readP_4_7_s (fX6_readP_4_7 f) _ _ _ _ = _
    unfold fX6_readP_4_7_s
    rw [if_neg (show ¬ (80 : Int32) ≤ nI y from nI_ge (b := 80) hy (by decide)), sees_f h, b1s, i00, sees_f h, b1s, i00, sees_f h, b1s, i00]
  · intro f y T Dr i h hi hy hq
    show fX6_readP_4_7_s (fX6_readP_4_7 f) _ _ _ _ = _
    unfold fX6_readP_4_7_s
    rw [if_neg (show ¬ (80 : Int32) ≤ nI y from nI_ge (b := 80) hy (by decide)), sees_e hn hi h, b1s, if_neg (show ¬ (i < n ∧ v i = 42) from fun z => hq ⟨z.1, bs_5.mpr (Or.inl z.2)⟩), i00, sees_e hn hi h, b1s, if_neg (show ¬ (i < n ∧ v i = 47) from fun z => hq ⟨z.1, bs_5.mpr (Or.inr (Or.inl z.2))⟩), i00, sees_e hn hi h, b1s, if_neg (show ¬ (i < n ∧ v i = 37) from fun z => hq ⟨z.1, bs_5.mpr (Or.inr (Or.inr z.2))⟩), i00]
  · intro f y T Dr i h hy hi hb
    have e40 : fX6_readP_4_40 (fX6_readP_4_7 f) (nI 4) (nI y) T Dr = dc_b2 (fX6_readQ_4 (nI 4) (sti T 0 3 (nI (i + 1))) Dr) (fun T2 D2 => dc_b1 (fX3_putSign (v i) D2) (fun D3 => fX6_readP_4_7 f (nI 4) (nI (y + 1)) T2 D3)) := by
      unfold fX6_readP_4_40
      rw [h.2.1, cks _ (vp_in_nI (show i < 80 by omega) (by decide)), nI_clamp (by omega), h.2.2.2 i hi]
      simp only [lts, nI_1]
    show fX6_readP_4_7_s (fX6_readP_4_7 f) _ _ _ _ = _
    rw [← e40]
    unfold fX6_readP_4_7_s
    rcases bs_5.mp hb with e | e | e
    · rw [if_neg (show ¬ (80 : Int32) ≤ nI y from nI_ge (b := 80) hy (by decide)), sees_e hn (by omega) h, b1s, if_pos (show i < n ∧ v i = 42 from ⟨hi, e⟩), i10]
    · rw [if_neg (show ¬ (80 : Int32) ≤ nI y from nI_ge (b := 80) hy (by decide)), sees_e hn (by omega) h, b1s, if_neg (show ¬ (i < n ∧ v i = 42) from fun z => by rw [e] at z; exact absurd z.2 (by decide)), i00, sees_e hn (by omega) h, b1s, if_pos (show i < n ∧ v i = 47 from ⟨hi, e⟩), i10]
    · rw [if_neg (show ¬ (80 : Int32) ≤ nI y from nI_ge (b := 80) hy (by decide)), sees_e hn (by omega) h, b1s, if_neg (show ¬ (i < n ∧ v i = 42) from fun z => by rw [e] at z; exact absurd z.2 (by decide)), i00, sees_e hn (by omega) h, b1s, if_neg (show ¬ (i < n ∧ v i = 47) from fun z => by rw [e] at z; exact absurd z.2 (by decide)), i00, sees_e hn (by omega) h, b1s, if_pos (show i < n ∧ v i = 37 from ⟨hi, e⟩), i10]
theorem ss_4 {n : Nat} {v : Nat → Int32} (hn : n ≤ 80) (hv : ∀ j, j < n → ∃ u : Nat, u < 256 ∧ v j = nI u) : SX n v 4 4 (fX6_readS_4 (nI 4)) := by
  show SX n v 4 4 (fun T Dr => dc_b2 (fX6_readP_4 (nI 4) T Dr) (fun T1 D1 => fX6_readS_4_7 400 (nI 4) 0 T1 D1))
  refine SX_lp (W := fun f y T Dr => fX6_readS_4_7 f (nI 4) y T Dr) hn (by omega) (sp_4 hn hv) ?_ ?_ ?_
  · intro f y T Dr i h hy
    show fX6_readS_4_7_s (fX6_readS_4_7 f) _ _ _ _ = _
    unfold fX6_readS_4_7_s
    rw [if_neg (show ¬ (80 : Int32) ≤ nI y from nI_ge (b := 80) hy (by decide)), sees_f h, b1s, i00, sees_f h, b1s, i00]
  · intro f y T Dr i h hi hy hq
    show fX6_readS_4_7_s (fX6_readS_4_7 f) _ _ _ _ = _
    unfold fX6_readS_4_7_s
    rw [if_neg (show ¬ (80 : Int32) ≤ nI y from nI_ge (b := 80) hy (by decide)), sees_e hn hi h, b1s, if_neg (show ¬ (i < n ∧ v i = 43) from fun z => hq ⟨z.1, bs_4.mpr (Or.inl z.2)⟩), i00, sees_e hn hi h, b1s, if_neg (show ¬ (i < n ∧ v i = 45) from fun z => hq ⟨z.1, bs_4.mpr (Or.inr z.2)⟩), i00]
  · intro f y T Dr i h hy hi hb
    have e40 : fX6_readS_4_31 (fX6_readS_4_7 f) (nI 4) (nI y) T Dr = dc_b2 (fX6_readP_4 (nI 4) (sti T 0 3 (nI (i + 1))) Dr) (fun T2 D2 => dc_b1 (fX3_putSign (v i) D2) (fun D3 => fX6_readS_4_7 f (nI 4) (nI (y + 1)) T2 D3)) := by
      unfold fX6_readS_4_31
      rw [h.2.1, cks _ (vp_in_nI (show i < 80 by omega) (by decide)), nI_clamp (by omega), h.2.2.2 i hi]
      simp only [lts, nI_1]
    show fX6_readS_4_7_s (fX6_readS_4_7 f) _ _ _ _ = _
    rw [← e40]
    unfold fX6_readS_4_7_s
    rcases bs_4.mp hb with e | e
    · rw [if_neg (show ¬ (80 : Int32) ≤ nI y from nI_ge (b := 80) hy (by decide)), sees_e hn (by omega) h, b1s, if_pos (show i < n ∧ v i = 43 from ⟨hi, e⟩), i10]
    · rw [if_neg (show ¬ (80 : Int32) ≤ nI y from nI_ge (b := 80) hy (by decide)), sees_e hn (by omega) h, b1s, if_neg (show ¬ (i < n ∧ v i = 43) from fun z => by rw [e] at z; exact absurd z.2 (by decide)), i00, sees_e hn (by omega) h, b1s, if_pos (show i < n ∧ v i = 45 from ⟨hi, e⟩), i10]
theorem sb_4 {n : Nat} {v : Nat → Int32} (hn : n ≤ 80) (hv : ∀ j, j < n → ∃ u : Nat, u < 256 ∧ v j = nI u) : SX n v 4 3 (fX6_readB_4 (nI 4)) := by
  refine SX_3 (sub := fX6_readS_4 (nI 4)) (W := (fun T1 D1 => dc_b1 (fX6_sees 60 T1) (fun r4 => (if r4 = 0 then dc_b1 (fX6_sees 61 T1) (fun r15 => (if r15 = 0 then dc_b1 (fX6_sees 62 T1) (fun r18 => (if r18 = 0 then some (T1, D1) else fX6_readB_4_32 (nI 4) T1 D1)) else fX6_readB_4_32 (nI 4) T1 D1)) else fX6_readB_4_32 (nI 4) T1 D1)))) hn (ss_4 hn hv) (fun T Dr => rfl) ?_ ?_ ?_
  · intro T Dr i h
    show dc_b1 (fX6_sees 60 T) _ = _
    rw [sees_f h, b1s, i00, sees_f h, b1s, i00, sees_f h, b1s, i00]
  · intro T Dr i h hi hq
    show dc_b1 (fX6_sees 60 T) _ = _
    rw [sees_e hn hi h, b1s, if_neg (show ¬ (i < n ∧ v i = 60) from fun z => hq ⟨z.1, bs_3.mpr (Or.inl z.2)⟩), i00, sees_e hn hi h, b1s, if_neg (show ¬ (i < n ∧ v i = 61) from fun z => hq ⟨z.1, bs_3.mpr (Or.inr (Or.inl z.2))⟩), i00, sees_e hn hi h, b1s, if_neg (show ¬ (i < n ∧ v i = 62) from fun z => hq ⟨z.1, bs_3.mpr (Or.inr (Or.inr z.2))⟩), i00]
  · intro T Dr i h hi hb
    have e32 : fX6_readB_4_32 (nI 4) T Dr = dc_b2 (fX6_readS_4 (nI 4) (sti T 0 3 (nI (i + 1))) Dr) (fun T2 D2 => dc_b1 (fX3_putSign (v i) D2) (fun D3 => some (T2, D3))) := by
      unfold fX6_readB_4_32
      rw [h.2.1, cks _ (vp_in_nI (show i < 80 by omega) (by decide)), nI_clamp (by omega), h.2.2.2 i hi]
      simp only [lts, nI_1]
    show dc_b1 (fX6_sees 60 T) _ = _
    rw [← e32]
    rcases bs_3.mp hb with e | e | e
    · rw [sees_e hn (by omega) h, b1s, if_pos (show i < n ∧ v i = 60 from ⟨hi, e⟩), i10]
    · rw [sees_e hn (by omega) h, b1s, if_neg (show ¬ (i < n ∧ v i = 60) from fun z => by rw [e] at z; exact absurd z.2 (by decide)), i00, sees_e hn (by omega) h, b1s, if_pos (show i < n ∧ v i = 61 from ⟨hi, e⟩), i10]
    · rw [sees_e hn (by omega) h, b1s, if_neg (show ¬ (i < n ∧ v i = 60) from fun z => by rw [e] at z; exact absurd z.2 (by decide)), i00, sees_e hn (by omega) h, b1s, if_neg (show ¬ (i < n ∧ v i = 61) from fun z => by rw [e] at z; exact absurd z.2 (by decide)), i00, sees_e hn (by omega) h, b1s, if_pos (show i < n ∧ v i = 62 from ⟨hi, e⟩), i10]
theorem sa_4 {n : Nat} {v : Nat → Int32} (hn : n ≤ 80) (hv : ∀ j, j < n → ∃ u : Nat, u < 256 ∧ v j = nI u) : SX n v 4 2 (fX6_readA_4 (nI 4)) := by
  show SX n v 4 2 (fun T Dr => dc_b2 (fX6_readB_4 (nI 4) T Dr) (fun T1 D1 => fX6_readA_4_7 400 (nI 4) 0 T1 D1))
  refine SX_lp (W := fun f y T Dr => fX6_readA_4_7 f (nI 4) y T Dr) hn (by omega) (sb_4 hn hv) ?_ ?_ ?_
  · intro f y T Dr i h hy
    show fX6_readA_4_7_s (fX6_readA_4_7 f) _ _ _ _ = _
    unfold fX6_readA_4_7_s
    rw [if_neg (show ¬ (80 : Int32) ≤ nI y from nI_ge (b := 80) hy (by decide)), takes_f h, b2s, i00]
  · intro f y T Dr i h hi hy hq
    show fX6_readA_4_7_s (fX6_readA_4_7 f) _ _ _ _ = _
    unfold fX6_readA_4_7_s
    rw [if_neg (show ¬ (80 : Int32) ≤ nI y from nI_ge (b := 80) hy (by decide)), takes_n hn hi h (fun z => hq ⟨z.1, bs_2.mpr z.2⟩), b2s, i00]
  · intro f y T Dr i h hy hi hb
    have e := bs_2.mp hb
    show fX6_readA_4_7_s (fX6_readA_4_7 f) _ _ _ _ = _
    unfold fX6_readA_4_7_s
    rw [if_neg (show ¬ (80 : Int32) ≤ nI y from nI_ge (b := 80) hy (by decide)), takes_y hn hi h e, b2s, i10, e]
    simp only [lts, nI_1]
theorem st_4 {n : Nat} {v : Nat → Int32} (hn : n ≤ 80) (hv : ∀ j, j < n → ∃ u : Nat, u < 256 ∧ v j = nI u) : SX n v 4 1 (fX6_readT_4 (nI 4)) := by
  show SX n v 4 1 (fun T Dr => dc_b2 (fX6_readA_4 (nI 4) T Dr) (fun T1 D1 => fX6_readT_4_7 400 (nI 4) 0 T1 D1))
  refine SX_lp (W := fun f y T Dr => fX6_readT_4_7 f (nI 4) y T Dr) hn (by omega) (sa_4 hn hv) ?_ ?_ ?_
  · intro f y T Dr i h hy
    show fX6_readT_4_7_s (fX6_readT_4_7 f) _ _ _ _ = _
    unfold fX6_readT_4_7_s
    rw [if_neg (show ¬ (80 : Int32) ≤ nI y from nI_ge (b := 80) hy (by decide)), takes_f h, b2s, i00]
  · intro f y T Dr i h hi hy hq
    show fX6_readT_4_7_s (fX6_readT_4_7 f) _ _ _ _ = _
    unfold fX6_readT_4_7_s
    rw [if_neg (show ¬ (80 : Int32) ≤ nI y from nI_ge (b := 80) hy (by decide)), takes_n hn hi h (fun z => hq ⟨z.1, bs_1.mpr z.2⟩), b2s, i00]
  · intro f y T Dr i h hy hi hb
    have e := bs_1.mp hb
    show fX6_readT_4_7_s (fX6_readT_4_7 f) _ _ _ _ = _
    unfold fX6_readT_4_7_s
    rw [if_neg (show ¬ (80 : Int32) ≤ nI y from nI_ge (b := 80) hy (by decide)), takes_y hn hi h e, b2s, i10, e]
    simp only [lts, nI_1]
theorem q3_78 {n : Nat} {v : Nat → Int32} (hn : n ≤ 80) (hv : ∀ j, j < n → ∃ u : Nat, u < 256 ∧ v j = nI u) {T Dr : ST} {i : Nat} (h : tpc n v T i 0) (hi : i ≤ n) (hx : i < n → ¬ isDg (v i) ∧ ¬ isNm (v i)) : fX6_readQ_3 (nI 3) T Dr = fX6_readQ_3_78 (nI 3) T Dr := by
  unfold fX6_readQ_3
  rw [dig_e hn hi h, b1s, if_neg (show ¬ (i < n ∧ ¬ (v i < 48 ∨ 57 < v i)) from fun z => (hx z.1).1 z.2), i00, h.2.2.1, if_pos rfl, h.1, h.2.1]
  by_cases q : i < n
  · obtain ⟨u, hu, eu⟩ := hv i q
    have hnm : ¬ isNm (nI u) := by rw [← eu]; exact (hx q).2
    rw [if_neg (nI_ge q (by omega)), cks _ (vp_in_nI (show i < 80 by omega) (by decide)), nI_clamp (by omega), h.2.2.2 i q, eu, ix_n hu hnm, b1s, if_pos m1_lt]
  · rw [if_pos (nI_le (by omega) (by omega))]
theorem sq_3 {n : Nat} {v : Nat → Int32} (hn : n ≤ 80) (hv : ∀ j, j < n → ∃ u : Nat, u < 256 ∧ v j = nI u) : SQ n v 3 (fX6_readQ_3 (nI 3)) := by
  refine SQ_gen hn hv (rq' := fX6_readQ_4 (nI 4)) (rt' := fX6_readT_4 (nI 4)) (fun _ => sq_4 hn hv) (fun _ => st_4 hn hv) ?_ ?_ ?_ ?_ ?_ ?_
  · intro T Dr i h hi dg
    unfold fX6_readQ_3
    rw [dig_e hn (by omega) h, b1s, if_pos (show i < n ∧ ¬ (v i < 48 ∨ 57 < v i) from ⟨hi, dg⟩), i10]
  · intro T Dr i h hi dg nm
    obtain ⟨u, hu, eu⟩ := hv i hi
    have hnm : isNm (nI u) := by rw [← eu]; exact nm
    obtain ⟨r, r1, r2⟩ := ix_y hu hnm
    unfold fX6_readQ_3
    rw [dig_e hn (by omega) h, b1s, if_neg (show ¬ (i < n ∧ ¬ (v i < 48 ∨ 57 < v i)) from fun z => dg z.2), i00, h.2.2.1, if_pos rfl, h.1, h.2.1, if_neg (nI_ge hi (by omega)), cks _ (vp_in_nI (show i < 80 by omega) (by decide)), nI_clamp (by omega), h.2.2.2 i hi, eu, r1, b1s, if_neg r2, cks _ (vp_in_nI (show i < 80 by omega) (by decide))]
    simp only [lts, nI_1]
  · intro T Dr i h hi hx
    rw [q3_78 hn hv h hi (fun z => ⟨(hx z).1, (hx z).2.1⟩)]
    have op : ¬ (i < n ∧ (v i = 33 ∨ v i = 45 ∨ v i = 40)) := fun z => ((hx z.1).2.2.resolve_left (by decide)) z.2
    unfold fX6_readQ_3_78 fX6_readQ_3_111 fX6_readQ_3_144
    rw [if_neg (by decide), takes_n hn hi h (fun z => op ⟨z.1, Or.inl z.2⟩), b2s, i00, if_neg (by decide), takes_n hn hi h (fun z => op ⟨z.1, Or.inr (Or.inl z.2)⟩), b2s, i00, if_neg (by decide), takes_n hn hi h (fun z => op ⟨z.1, Or.inr (Or.inr z.2)⟩), b2s, i00, lts]
  · intro T Dr i h hi _ e
    rw [q3_78 hn hv h (by omega) (fun _ => op_nd (Or.inl e))]
    unfold fX6_readQ_3_78
    rw [if_neg (by decide), takes_y hn hi h e, b2s, i10, show nI 3 + 1 = nI 4 from rfl]
  · intro T Dr i h hi _ e
    rw [q3_78 hn hv h (by omega) (fun _ => op_nd (Or.inr (Or.inl e)))]
    unfold fX6_readQ_3_78 fX6_readQ_3_111
    rw [if_neg (by decide), takes_n hn (by omega) h (fun z => by rw [e] at z; exact absurd z.2 (by decide)), b2s, i00, if_neg (by decide), takes_y hn hi h e, b2s, i10, show nI 3 + 1 = nI 4 from rfl]
  · intro T Dr i h hi _ e
    rw [q3_78 hn hv h (by omega) (fun _ => op_nd (Or.inr (Or.inr e)))]
    unfold fX6_readQ_3_78 fX6_readQ_3_111 fX6_readQ_3_144
    rw [if_neg (by decide), takes_n hn (by omega) h (fun z => by rw [e] at z; exact absurd z.2 (by decide)), b2s, i00, if_neg (by decide), takes_n hn (by omega) h (fun z => by rw [e] at z; exact absurd z.2 (by decide)), b2s, i00, if_neg (by decide), takes_y hn hi h e, b2s, i10, show nI 3 + 1 = nI 4 from rfl]
theorem sp_3 {n : Nat} {v : Nat → Int32} (hn : n ≤ 80) (hv : ∀ j, j < n → ∃ u : Nat, u < 256 ∧ v j = nI u) : SX n v 3 5 (fX6_readP_3 (nI 3)) := by
  show SX n v 3 5 (fun T Dr => dc_b2 (fX6_readQ_3 (nI 3) T Dr) (fun T1 D1 => fX6_readP_3_7 400 (nI 3) 0 T1 D1))
  refine SX_lp (W := fun f y T Dr => fX6_readP_3_7 f (nI 3) y T Dr) hn (by omega) (SX6 (sq_3 hn hv)) ?_ ?_ ?_
  · intro f y T Dr i h hy
    show fX6_readP_3_7_s (fX6_readP_3_7 f) _ _ _ _ = _
    unfold fX6_readP_3_7_s
    rw [if_neg (show ¬ (80 : Int32) ≤ nI y from nI_ge (b := 80) hy (by decide)), sees_f h, b1s, i00, sees_f h, b1s, i00, sees_f h, b1s, i00]
  · intro f y T Dr i h hi hy hq
    show fX6_readP_3_7_s (fX6_readP_3_7 f) _ _ _ _ = _
    unfold fX6_readP_3_7_s
    rw [if_neg (show ¬ (80 : Int32) ≤ nI y from nI_ge (b := 80) hy (by decide)), sees_e hn hi h, b1s, if_neg (show ¬ (i < n ∧ v i = 42) from fun z => hq ⟨z.1, bs_5.mpr (Or.inl z.2)⟩), i00, sees_e hn hi h, b1s, if_neg (show ¬ (i < n ∧ v i = 47) from fun z => hq ⟨z.1, bs_5.mpr (Or.inr (Or.inl z.2))⟩), i00, sees_e hn hi h, b1s, if_neg (show ¬ (i < n ∧ v i = 37) from fun z => hq ⟨z.1, bs_5.mpr (Or.inr (Or.inr z.2))⟩), i00]
  · intro f y T Dr i h hy hi hb
    have e40 : fX6_readP_3_40 (fX6_readP_3_7 f) (nI 3) (nI y) T Dr = dc_b2 (fX6_readQ_3 (nI 3) (sti T 0 3 (nI (i + 1))) Dr) (fun T2 D2 => dc_b1 (fX3_putSign (v i) D2) (fun D3 => fX6_readP_3_7 f (nI 3) (nI (y + 1)) T2 D3)) := by
      unfold fX6_readP_3_40
      rw [h.2.1, cks _ (vp_in_nI (show i < 80 by omega) (by decide)), nI_clamp (by omega), h.2.2.2 i hi]
      simp only [lts, nI_1]
    show fX6_readP_3_7_s (fX6_readP_3_7 f) _ _ _ _ = _
    rw [← e40]
    unfold fX6_readP_3_7_s
    rcases bs_5.mp hb with e | e | e
    · rw [if_neg (show ¬ (80 : Int32) ≤ nI y from nI_ge (b := 80) hy (by decide)), sees_e hn (by omega) h, b1s, if_pos (show i < n ∧ v i = 42 from ⟨hi, e⟩), i10]
    · rw [if_neg (show ¬ (80 : Int32) ≤ nI y from nI_ge (b := 80) hy (by decide)), sees_e hn (by omega) h, b1s, if_neg (show ¬ (i < n ∧ v i = 42) from fun z => by rw [e] at z; exact absurd z.2 (by decide)), i00, sees_e hn (by omega) h, b1s, if_pos (show i < n ∧ v i = 47 from ⟨hi, e⟩), i10]
    · rw [if_neg (show ¬ (80 : Int32) ≤ nI y from nI_ge (b := 80) hy (by decide)), sees_e hn (by omega) h, b1s, if_neg (show ¬ (i < n ∧ v i = 42) from fun z => by rw [e] at z; exact absurd z.2 (by decide)), i00, sees_e hn (by omega) h, b1s, if_neg (show ¬ (i < n ∧ v i = 47) from fun z => by rw [e] at z; exact absurd z.2 (by decide)), i00, sees_e hn (by omega) h, b1s, if_pos (show i < n ∧ v i = 37 from ⟨hi, e⟩), i10]
theorem ss_3 {n : Nat} {v : Nat → Int32} (hn : n ≤ 80) (hv : ∀ j, j < n → ∃ u : Nat, u < 256 ∧ v j = nI u) : SX n v 3 4 (fX6_readS_3 (nI 3)) := by
  show SX n v 3 4 (fun T Dr => dc_b2 (fX6_readP_3 (nI 3) T Dr) (fun T1 D1 => fX6_readS_3_7 400 (nI 3) 0 T1 D1))
  refine SX_lp (W := fun f y T Dr => fX6_readS_3_7 f (nI 3) y T Dr) hn (by omega) (sp_3 hn hv) ?_ ?_ ?_
  · intro f y T Dr i h hy
    show fX6_readS_3_7_s (fX6_readS_3_7 f) _ _ _ _ = _
    unfold fX6_readS_3_7_s
    rw [if_neg (show ¬ (80 : Int32) ≤ nI y from nI_ge (b := 80) hy (by decide)), sees_f h, b1s, i00, sees_f h, b1s, i00]
  · intro f y T Dr i h hi hy hq
    show fX6_readS_3_7_s (fX6_readS_3_7 f) _ _ _ _ = _
    unfold fX6_readS_3_7_s
    rw [if_neg (show ¬ (80 : Int32) ≤ nI y from nI_ge (b := 80) hy (by decide)), sees_e hn hi h, b1s, if_neg (show ¬ (i < n ∧ v i = 43) from fun z => hq ⟨z.1, bs_4.mpr (Or.inl z.2)⟩), i00, sees_e hn hi h, b1s, if_neg (show ¬ (i < n ∧ v i = 45) from fun z => hq ⟨z.1, bs_4.mpr (Or.inr z.2)⟩), i00]
  · intro f y T Dr i h hy hi hb
    have e40 : fX6_readS_3_31 (fX6_readS_3_7 f) (nI 3) (nI y) T Dr = dc_b2 (fX6_readP_3 (nI 3) (sti T 0 3 (nI (i + 1))) Dr) (fun T2 D2 => dc_b1 (fX3_putSign (v i) D2) (fun D3 => fX6_readS_3_7 f (nI 3) (nI (y + 1)) T2 D3)) := by
      unfold fX6_readS_3_31
      rw [h.2.1, cks _ (vp_in_nI (show i < 80 by omega) (by decide)), nI_clamp (by omega), h.2.2.2 i hi]
      simp only [lts, nI_1]
    show fX6_readS_3_7_s (fX6_readS_3_7 f) _ _ _ _ = _
    rw [← e40]
    unfold fX6_readS_3_7_s
    rcases bs_4.mp hb with e | e
    · rw [if_neg (show ¬ (80 : Int32) ≤ nI y from nI_ge (b := 80) hy (by decide)), sees_e hn (by omega) h, b1s, if_pos (show i < n ∧ v i = 43 from ⟨hi, e⟩), i10]
    · rw [if_neg (show ¬ (80 : Int32) ≤ nI y from nI_ge (b := 80) hy (by decide)), sees_e hn (by omega) h, b1s, if_neg (show ¬ (i < n ∧ v i = 43) from fun z => by rw [e] at z; exact absurd z.2 (by decide)), i00, sees_e hn (by omega) h, b1s, if_pos (show i < n ∧ v i = 45 from ⟨hi, e⟩), i10]
theorem sb_3 {n : Nat} {v : Nat → Int32} (hn : n ≤ 80) (hv : ∀ j, j < n → ∃ u : Nat, u < 256 ∧ v j = nI u) : SX n v 3 3 (fX6_readB_3 (nI 3)) := by
  refine SX_3 (sub := fX6_readS_3 (nI 3)) (W := (fun T1 D1 => dc_b1 (fX6_sees 60 T1) (fun r4 => (if r4 = 0 then dc_b1 (fX6_sees 61 T1) (fun r15 => (if r15 = 0 then dc_b1 (fX6_sees 62 T1) (fun r18 => (if r18 = 0 then some (T1, D1) else fX6_readB_3_32 (nI 3) T1 D1)) else fX6_readB_3_32 (nI 3) T1 D1)) else fX6_readB_3_32 (nI 3) T1 D1)))) hn (ss_3 hn hv) (fun T Dr => rfl) ?_ ?_ ?_
  · intro T Dr i h
    show dc_b1 (fX6_sees 60 T) _ = _
    rw [sees_f h, b1s, i00, sees_f h, b1s, i00, sees_f h, b1s, i00]
  · intro T Dr i h hi hq
    show dc_b1 (fX6_sees 60 T) _ = _
    rw [sees_e hn hi h, b1s, if_neg (show ¬ (i < n ∧ v i = 60) from fun z => hq ⟨z.1, bs_3.mpr (Or.inl z.2)⟩), i00, sees_e hn hi h, b1s, if_neg (show ¬ (i < n ∧ v i = 61) from fun z => hq ⟨z.1, bs_3.mpr (Or.inr (Or.inl z.2))⟩), i00, sees_e hn hi h, b1s, if_neg (show ¬ (i < n ∧ v i = 62) from fun z => hq ⟨z.1, bs_3.mpr (Or.inr (Or.inr z.2))⟩), i00]
  · intro T Dr i h hi hb
    have e32 : fX6_readB_3_32 (nI 3) T Dr = dc_b2 (fX6_readS_3 (nI 3) (sti T 0 3 (nI (i + 1))) Dr) (fun T2 D2 => dc_b1 (fX3_putSign (v i) D2) (fun D3 => some (T2, D3))) := by
      unfold fX6_readB_3_32
      rw [h.2.1, cks _ (vp_in_nI (show i < 80 by omega) (by decide)), nI_clamp (by omega), h.2.2.2 i hi]
      simp only [lts, nI_1]
    show dc_b1 (fX6_sees 60 T) _ = _
    rw [← e32]
    rcases bs_3.mp hb with e | e | e
    · rw [sees_e hn (by omega) h, b1s, if_pos (show i < n ∧ v i = 60 from ⟨hi, e⟩), i10]
    · rw [sees_e hn (by omega) h, b1s, if_neg (show ¬ (i < n ∧ v i = 60) from fun z => by rw [e] at z; exact absurd z.2 (by decide)), i00, sees_e hn (by omega) h, b1s, if_pos (show i < n ∧ v i = 61 from ⟨hi, e⟩), i10]
    · rw [sees_e hn (by omega) h, b1s, if_neg (show ¬ (i < n ∧ v i = 60) from fun z => by rw [e] at z; exact absurd z.2 (by decide)), i00, sees_e hn (by omega) h, b1s, if_neg (show ¬ (i < n ∧ v i = 61) from fun z => by rw [e] at z; exact absurd z.2 (by decide)), i00, sees_e hn (by omega) h, b1s, if_pos (show i < n ∧ v i = 62 from ⟨hi, e⟩), i10]
theorem sa_3 {n : Nat} {v : Nat → Int32} (hn : n ≤ 80) (hv : ∀ j, j < n → ∃ u : Nat, u < 256 ∧ v j = nI u) : SX n v 3 2 (fX6_readA_3 (nI 3)) := by
  show SX n v 3 2 (fun T Dr => dc_b2 (fX6_readB_3 (nI 3) T Dr) (fun T1 D1 => fX6_readA_3_7 400 (nI 3) 0 T1 D1))
  refine SX_lp (W := fun f y T Dr => fX6_readA_3_7 f (nI 3) y T Dr) hn (by omega) (sb_3 hn hv) ?_ ?_ ?_
  · intro f y T Dr i h hy
    show fX6_readA_3_7_s (fX6_readA_3_7 f) _ _ _ _ = _
    unfold fX6_readA_3_7_s
    rw [if_neg (show ¬ (80 : Int32) ≤ nI y from nI_ge (b := 80) hy (by decide)), takes_f h, b2s, i00]
  · intro f y T Dr i h hi hy hq
    show fX6_readA_3_7_s (fX6_readA_3_7 f) _ _ _ _ = _
    unfold fX6_readA_3_7_s
    rw [if_neg (show ¬ (80 : Int32) ≤ nI y from nI_ge (b := 80) hy (by decide)), takes_n hn hi h (fun z => hq ⟨z.1, bs_2.mpr z.2⟩), b2s, i00]
  · intro f y T Dr i h hy hi hb
    have e := bs_2.mp hb
    show fX6_readA_3_7_s (fX6_readA_3_7 f) _ _ _ _ = _
    unfold fX6_readA_3_7_s
    rw [if_neg (show ¬ (80 : Int32) ≤ nI y from nI_ge (b := 80) hy (by decide)), takes_y hn hi h e, b2s, i10, e]
    simp only [lts, nI_1]
theorem st_3 {n : Nat} {v : Nat → Int32} (hn : n ≤ 80) (hv : ∀ j, j < n → ∃ u : Nat, u < 256 ∧ v j = nI u) : SX n v 3 1 (fX6_readT_3 (nI 3)) := by
  show SX n v 3 1 (fun T Dr => dc_b2 (fX6_readA_3 (nI 3) T Dr) (fun T1 D1 => fX6_readT_3_7 400 (nI 3) 0 T1 D1))
  refine SX_lp (W := fun f y T Dr => fX6_readT_3_7 f (nI 3) y T Dr) hn (by omega) (sa_3 hn hv) ?_ ?_ ?_
  · intro f y T Dr i h hy
    show fX6_readT_3_7_s (fX6_readT_3_7 f) _ _ _ _ = _
    unfold fX6_readT_3_7_s
    rw [if_neg (show ¬ (80 : Int32) ≤ nI y from nI_ge (b := 80) hy (by decide)), takes_f h, b2s, i00]
  · intro f y T Dr i h hi hy hq
    show fX6_readT_3_7_s (fX6_readT_3_7 f) _ _ _ _ = _
    unfold fX6_readT_3_7_s
    rw [if_neg (show ¬ (80 : Int32) ≤ nI y from nI_ge (b := 80) hy (by decide)), takes_n hn hi h (fun z => hq ⟨z.1, bs_1.mpr z.2⟩), b2s, i00]
  · intro f y T Dr i h hy hi hb
    have e := bs_1.mp hb
    show fX6_readT_3_7_s (fX6_readT_3_7 f) _ _ _ _ = _
    unfold fX6_readT_3_7_s
    rw [if_neg (show ¬ (80 : Int32) ≤ nI y from nI_ge (b := 80) hy (by decide)), takes_y hn hi h e, b2s, i10, e]
    simp only [lts, nI_1]
theorem q2_78 {n : Nat} {v : Nat → Int32} (hn : n ≤ 80) (hv : ∀ j, j < n → ∃ u : Nat, u < 256 ∧ v j = nI u) {T Dr : ST} {i : Nat} (h : tpc n v T i 0) (hi : i ≤ n) (hx : i < n → ¬ isDg (v i) ∧ ¬ isNm (v i)) : fX6_readQ_2 (nI 2) T Dr = fX6_readQ_2_78 (nI 2) T Dr := by
  unfold fX6_readQ_2
  rw [dig_e hn hi h, b1s, if_neg (show ¬ (i < n ∧ ¬ (v i < 48 ∨ 57 < v i)) from fun z => (hx z.1).1 z.2), i00, h.2.2.1, if_pos rfl, h.1, h.2.1]
  by_cases q : i < n
  · obtain ⟨u, hu, eu⟩ := hv i q
    have hnm : ¬ isNm (nI u) := by rw [← eu]; exact (hx q).2
    rw [if_neg (nI_ge q (by omega)), cks _ (vp_in_nI (show i < 80 by omega) (by decide)), nI_clamp (by omega), h.2.2.2 i q, eu, ix_n hu hnm, b1s, if_pos m1_lt]
  · rw [if_pos (nI_le (by omega) (by omega))]
theorem sq_2 {n : Nat} {v : Nat → Int32} (hn : n ≤ 80) (hv : ∀ j, j < n → ∃ u : Nat, u < 256 ∧ v j = nI u) : SQ n v 2 (fX6_readQ_2 (nI 2)) := by
  refine SQ_gen hn hv (rq' := fX6_readQ_3 (nI 3)) (rt' := fX6_readT_3 (nI 3)) (fun _ => sq_3 hn hv) (fun _ => st_3 hn hv) ?_ ?_ ?_ ?_ ?_ ?_
  · intro T Dr i h hi dg
    unfold fX6_readQ_2
    rw [dig_e hn (by omega) h, b1s, if_pos (show i < n ∧ ¬ (v i < 48 ∨ 57 < v i) from ⟨hi, dg⟩), i10]
  · intro T Dr i h hi dg nm
    obtain ⟨u, hu, eu⟩ := hv i hi
    have hnm : isNm (nI u) := by rw [← eu]; exact nm
    obtain ⟨r, r1, r2⟩ := ix_y hu hnm
    unfold fX6_readQ_2
    rw [dig_e hn (by omega) h, b1s, if_neg (show ¬ (i < n ∧ ¬ (v i < 48 ∨ 57 < v i)) from fun z => dg z.2), i00, h.2.2.1, if_pos rfl, h.1, h.2.1, if_neg (nI_ge hi (by omega)), cks _ (vp_in_nI (show i < 80 by omega) (by decide)), nI_clamp (by omega), h.2.2.2 i hi, eu, r1, b1s, if_neg r2, cks _ (vp_in_nI (show i < 80 by omega) (by decide))]
    simp only [lts, nI_1]
  · intro T Dr i h hi hx
    rw [q2_78 hn hv h hi (fun z => ⟨(hx z).1, (hx z).2.1⟩)]
    have op : ¬ (i < n ∧ (v i = 33 ∨ v i = 45 ∨ v i = 40)) := fun z => ((hx z.1).2.2.resolve_left (by decide)) z.2
    unfold fX6_readQ_2_78 fX6_readQ_2_111 fX6_readQ_2_144
    rw [if_neg (by decide), takes_n hn hi h (fun z => op ⟨z.1, Or.inl z.2⟩), b2s, i00, if_neg (by decide), takes_n hn hi h (fun z => op ⟨z.1, Or.inr (Or.inl z.2)⟩), b2s, i00, if_neg (by decide), takes_n hn hi h (fun z => op ⟨z.1, Or.inr (Or.inr z.2)⟩), b2s, i00, lts]
  · intro T Dr i h hi _ e
    rw [q2_78 hn hv h (by omega) (fun _ => op_nd (Or.inl e))]
    unfold fX6_readQ_2_78
    rw [if_neg (by decide), takes_y hn hi h e, b2s, i10, show nI 2 + 1 = nI 3 from rfl]
  · intro T Dr i h hi _ e
    rw [q2_78 hn hv h (by omega) (fun _ => op_nd (Or.inr (Or.inl e)))]
    unfold fX6_readQ_2_78 fX6_readQ_2_111
    rw [if_neg (by decide), takes_n hn (by omega) h (fun z => by rw [e] at z; exact absurd z.2 (by decide)), b2s, i00, if_neg (by decide), takes_y hn hi h e, b2s, i10, show nI 2 + 1 = nI 3 from rfl]
  · intro T Dr i h hi _ e
    rw [q2_78 hn hv h (by omega) (fun _ => op_nd (Or.inr (Or.inr e)))]
    unfold fX6_readQ_2_78 fX6_readQ_2_111 fX6_readQ_2_144
    rw [if_neg (by decide), takes_n hn (by omega) h (fun z => by rw [e] at z; exact absurd z.2 (by decide)), b2s, i00, if_neg (by decide), takes_n hn (by omega) h (fun z => by rw [e] at z; exact absurd z.2 (by decide)), b2s, i00, if_neg (by decide), takes_y hn hi h e, b2s, i10, show nI 2 + 1 = nI 3 from rfl]
theorem sp_2 {n : Nat} {v : Nat → Int32} (hn : n ≤ 80) (hv : ∀ j, j < n → ∃ u : Nat, u < 256 ∧ v j = nI u) : SX n v 2 5 (fX6_readP_2 (nI 2)) := by
  show SX n v 2 5 (fun T Dr => dc_b2 (fX6_readQ_2 (nI 2) T Dr) (fun T1 D1 => fX6_readP_2_7 400 (nI 2) 0 T1 D1))
  refine SX_lp (W := fun f y T Dr => fX6_readP_2_7 f (nI 2) y T Dr) hn (by omega) (SX6 (sq_2 hn hv)) ?_ ?_ ?_
  · intro f y T Dr i h hy
    show fX6_readP_2_7_s (fX6_readP_2_7 f) _ _ _ _ = _
    unfold fX6_readP_2_7_s
    rw [if_neg (show ¬ (80 : Int32) ≤ nI y from nI_ge (b := 80) hy (by decide)), sees_f h, b1s, i00, sees_f h, b1s, i00, sees_f h, b1s, i00]
  · intro f y T Dr i h hi hy hq
    show fX6_readP_2_7_s (fX6_readP_2_7 f) _ _ _ _ = _
    unfold fX6_readP_2_7_s
    rw [if_neg (show ¬ (80 : Int32) ≤ nI y from nI_ge (b := 80) hy (by decide)), sees_e hn hi h, b1s, if_neg (show ¬ (i < n ∧ v i = 42) from fun z => hq ⟨z.1, bs_5.mpr (Or.inl z.2)⟩), i00, sees_e hn hi h, b1s, if_neg (show ¬ (i < n ∧ v i = 47) from fun z => hq ⟨z.1, bs_5.mpr (Or.inr (Or.inl z.2))⟩), i00, sees_e hn hi h, b1s, if_neg (show ¬ (i < n ∧ v i = 37) from fun z => hq ⟨z.1, bs_5.mpr (Or.inr (Or.inr z.2))⟩), i00]
  · intro f y T Dr i h hy hi hb
    have e40 : fX6_readP_2_40 (fX6_readP_2_7 f) (nI 2) (nI y) T Dr = dc_b2 (fX6_readQ_2 (nI 2) (sti T 0 3 (nI (i + 1))) Dr) (fun T2 D2 => dc_b1 (fX3_putSign (v i) D2) (fun D3 => fX6_readP_2_7 f (nI 2) (nI (y + 1)) T2 D3)) := by
      unfold fX6_readP_2_40
      rw [h.2.1, cks _ (vp_in_nI (show i < 80 by omega) (by decide)), nI_clamp (by omega), h.2.2.2 i hi]
      simp only [lts, nI_1]
    show fX6_readP_2_7_s (fX6_readP_2_7 f) _ _ _ _ = _
    rw [← e40]
    unfold fX6_readP_2_7_s
    rcases bs_5.mp hb with e | e | e
    · rw [if_neg (show ¬ (80 : Int32) ≤ nI y from nI_ge (b := 80) hy (by decide)), sees_e hn (by omega) h, b1s, if_pos (show i < n ∧ v i = 42 from ⟨hi, e⟩), i10]
    · rw [if_neg (show ¬ (80 : Int32) ≤ nI y from nI_ge (b := 80) hy (by decide)), sees_e hn (by omega) h, b1s, if_neg (show ¬ (i < n ∧ v i = 42) from fun z => by rw [e] at z; exact absurd z.2 (by decide)), i00, sees_e hn (by omega) h, b1s, if_pos (show i < n ∧ v i = 47 from ⟨hi, e⟩), i10]
    · rw [if_neg (show ¬ (80 : Int32) ≤ nI y from nI_ge (b := 80) hy (by decide)), sees_e hn (by omega) h, b1s, if_neg (show ¬ (i < n ∧ v i = 42) from fun z => by rw [e] at z; exact absurd z.2 (by decide)), i00, sees_e hn (by omega) h, b1s, if_neg (show ¬ (i < n ∧ v i = 47) from fun z => by rw [e] at z; exact absurd z.2 (by decide)), i00, sees_e hn (by omega) h, b1s, if_pos (show i < n ∧ v i = 37 from ⟨hi, e⟩), i10]
theorem ss_2 {n : Nat} {v : Nat → Int32} (hn : n ≤ 80) (hv : ∀ j, j < n → ∃ u : Nat, u < 256 ∧ v j = nI u) : SX n v 2 4 (fX6_readS_2 (nI 2)) := by
  show SX n v 2 4 (fun T Dr => dc_b2 (fX6_readP_2 (nI 2) T Dr) (fun T1 D1 => fX6_readS_2_7 400 (nI 2) 0 T1 D1))
  refine SX_lp (W := fun f y T Dr => fX6_readS_2_7 f (nI 2) y T Dr) hn (by omega) (sp_2 hn hv) ?_ ?_ ?_
  · intro f y T Dr i h hy
    show fX6_readS_2_7_s (fX6_readS_2_7 f) _ _ _ _ = _
    unfold fX6_readS_2_7_s
    rw [if_neg (show ¬ (80 : Int32) ≤ nI y from nI_ge (b := 80) hy (by decide)), sees_f h, b1s, i00, sees_f h, b1s, i00]
  · intro f y T Dr i h hi hy hq
    show fX6_readS_2_7_s (fX6_readS_2_7 f) _ _ _ _ = _
    unfold fX6_readS_2_7_s
    rw [if_neg (show ¬ (80 : Int32) ≤ nI y from nI_ge (b := 80) hy (by decide)), sees_e hn hi h, b1s, if_neg (show ¬ (i < n ∧ v i = 43) from fun z => hq ⟨z.1, bs_4.mpr (Or.inl z.2)⟩), i00, sees_e hn hi h, b1s, if_neg (show ¬ (i < n ∧ v i = 45) from fun z => hq ⟨z.1, bs_4.mpr (Or.inr z.2)⟩), i00]
  · intro f y T Dr i h hy hi hb
    have e40 : fX6_readS_2_31 (fX6_readS_2_7 f) (nI 2) (nI y) T Dr = dc_b2 (fX6_readP_2 (nI 2) (sti T 0 3 (nI (i + 1))) Dr) (fun T2 D2 => dc_b1 (fX3_putSign (v i) D2) (fun D3 => fX6_readS_2_7 f (nI 2) (nI (y + 1)) T2 D3)) := by
      unfold fX6_readS_2_31
      rw [h.2.1, cks _ (vp_in_nI (show i < 80 by omega) (by decide)), nI_clamp (by omega), h.2.2.2 i hi]
      simp only [lts, nI_1]
    show fX6_readS_2_7_s (fX6_readS_2_7 f) _ _ _ _ = _
    rw [← e40]
    unfold fX6_readS_2_7_s
    rcases bs_4.mp hb with e | e
    · rw [if_neg (show ¬ (80 : Int32) ≤ nI y from nI_ge (b := 80) hy (by decide)), sees_e hn (by omega) h, b1s, if_pos (show i < n ∧ v i = 43 from ⟨hi, e⟩), i10]
    · rw [if_neg (show ¬ (80 : Int32) ≤ nI y from nI_ge (b := 80) hy (by decide)), sees_e hn (by omega) h, b1s, if_neg (show ¬ (i < n ∧ v i = 43) from fun z => by rw [e] at z; exact absurd z.2 (by decide)), i00, sees_e hn (by omega) h, b1s, if_pos (show i < n ∧ v i = 45 from ⟨hi, e⟩), i10]
theorem sb_2 {n : Nat} {v : Nat → Int32} (hn : n ≤ 80) (hv : ∀ j, j < n → ∃ u : Nat, u < 256 ∧ v j = nI u) : SX n v 2 3 (fX6_readB_2 (nI 2)) := by
  refine SX_3 (sub := fX6_readS_2 (nI 2)) (W := (fun T1 D1 => dc_b1 (fX6_sees 60 T1) (fun r4 => (if r4 = 0 then dc_b1 (fX6_sees 61 T1) (fun r15 => (if r15 = 0 then dc_b1 (fX6_sees 62 T1) (fun r18 => (if r18 = 0 then some (T1, D1) else fX6_readB_2_32 (nI 2) T1 D1)) else fX6_readB_2_32 (nI 2) T1 D1)) else fX6_readB_2_32 (nI 2) T1 D1)))) hn (ss_2 hn hv) (fun T Dr => rfl) ?_ ?_ ?_
  · intro T Dr i h
    show dc_b1 (fX6_sees 60 T) _ = _
    rw [sees_f h, b1s, i00, sees_f h, b1s, i00, sees_f h, b1s, i00]
  · intro T Dr i h hi hq
    show dc_b1 (fX6_sees 60 T) _ = _
    rw [sees_e hn hi h, b1s, if_neg (show ¬ (i < n ∧ v i = 60) from fun z => hq ⟨z.1, bs_3.mpr (Or.inl z.2)⟩), i00, sees_e hn hi h, b1s, if_neg (show ¬ (i < n ∧ v i = 61) from fun z => hq ⟨z.1, bs_3.mpr (Or.inr (Or.inl z.2))⟩), i00, sees_e hn hi h, b1s, if_neg (show ¬ (i < n ∧ v i = 62) from fun z => hq ⟨z.1, bs_3.mpr (Or.inr (Or.inr z.2))⟩), i00]
  · intro T Dr i h hi hb
    have e32 : fX6_readB_2_32 (nI 2) T Dr = dc_b2 (fX6_readS_2 (nI 2) (sti T 0 3 (nI (i + 1))) Dr) (fun T2 D2 => dc_b1 (fX3_putSign (v i) D2) (fun D3 => some (T2, D3))) := by
      unfold fX6_readB_2_32
      rw [h.2.1, cks _ (vp_in_nI (show i < 80 by omega) (by decide)), nI_clamp (by omega), h.2.2.2 i hi]
      simp only [lts, nI_1]
    show dc_b1 (fX6_sees 60 T) _ = _
    rw [← e32]
    rcases bs_3.mp hb with e | e | e
    · rw [sees_e hn (by omega) h, b1s, if_pos (show i < n ∧ v i = 60 from ⟨hi, e⟩), i10]
    · rw [sees_e hn (by omega) h, b1s, if_neg (show ¬ (i < n ∧ v i = 60) from fun z => by rw [e] at z; exact absurd z.2 (by decide)), i00, sees_e hn (by omega) h, b1s, if_pos (show i < n ∧ v i = 61 from ⟨hi, e⟩), i10]
    · rw [sees_e hn (by omega) h, b1s, if_neg (show ¬ (i < n ∧ v i = 60) from fun z => by rw [e] at z; exact absurd z.2 (by decide)), i00, sees_e hn (by omega) h, b1s, if_neg (show ¬ (i < n ∧ v i = 61) from fun z => by rw [e] at z; exact absurd z.2 (by decide)), i00, sees_e hn (by omega) h, b1s, if_pos (show i < n ∧ v i = 62 from ⟨hi, e⟩), i10]
theorem sa_2 {n : Nat} {v : Nat → Int32} (hn : n ≤ 80) (hv : ∀ j, j < n → ∃ u : Nat, u < 256 ∧ v j = nI u) : SX n v 2 2 (fX6_readA_2 (nI 2)) := by
  show SX n v 2 2 (fun T Dr => dc_b2 (fX6_readB_2 (nI 2) T Dr) (fun T1 D1 => fX6_readA_2_7 400 (nI 2) 0 T1 D1))
  refine SX_lp (W := fun f y T Dr => fX6_readA_2_7 f (nI 2) y T Dr) hn (by omega) (sb_2 hn hv) ?_ ?_ ?_
  · intro f y T Dr i h hy
    show fX6_readA_2_7_s (fX6_readA_2_7 f) _ _ _ _ = _
    unfold fX6_readA_2_7_s
    rw [if_neg (show ¬ (80 : Int32) ≤ nI y from nI_ge (b := 80) hy (by decide)), takes_f h, b2s, i00]
  · intro f y T Dr i h hi hy hq
    show fX6_readA_2_7_s (fX6_readA_2_7 f) _ _ _ _ = _
    unfold fX6_readA_2_7_s
    rw [if_neg (show ¬ (80 : Int32) ≤ nI y from nI_ge (b := 80) hy (by decide)), takes_n hn hi h (fun z => hq ⟨z.1, bs_2.mpr z.2⟩), b2s, i00]
  · intro f y T Dr i h hy hi hb
    have e := bs_2.mp hb
    show fX6_readA_2_7_s (fX6_readA_2_7 f) _ _ _ _ = _
    unfold fX6_readA_2_7_s
    rw [if_neg (show ¬ (80 : Int32) ≤ nI y from nI_ge (b := 80) hy (by decide)), takes_y hn hi h e, b2s, i10, e]
    simp only [lts, nI_1]
theorem st_2 {n : Nat} {v : Nat → Int32} (hn : n ≤ 80) (hv : ∀ j, j < n → ∃ u : Nat, u < 256 ∧ v j = nI u) : SX n v 2 1 (fX6_readT_2 (nI 2)) := by
  show SX n v 2 1 (fun T Dr => dc_b2 (fX6_readA_2 (nI 2) T Dr) (fun T1 D1 => fX6_readT_2_7 400 (nI 2) 0 T1 D1))
  refine SX_lp (W := fun f y T Dr => fX6_readT_2_7 f (nI 2) y T Dr) hn (by omega) (sa_2 hn hv) ?_ ?_ ?_
  · intro f y T Dr i h hy
    show fX6_readT_2_7_s (fX6_readT_2_7 f) _ _ _ _ = _
    unfold fX6_readT_2_7_s
    rw [if_neg (show ¬ (80 : Int32) ≤ nI y from nI_ge (b := 80) hy (by decide)), takes_f h, b2s, i00]
  · intro f y T Dr i h hi hy hq
    show fX6_readT_2_7_s (fX6_readT_2_7 f) _ _ _ _ = _
    unfold fX6_readT_2_7_s
    rw [if_neg (show ¬ (80 : Int32) ≤ nI y from nI_ge (b := 80) hy (by decide)), takes_n hn hi h (fun z => hq ⟨z.1, bs_1.mpr z.2⟩), b2s, i00]
  · intro f y T Dr i h hy hi hb
    have e := bs_1.mp hb
    show fX6_readT_2_7_s (fX6_readT_2_7 f) _ _ _ _ = _
    unfold fX6_readT_2_7_s
    rw [if_neg (show ¬ (80 : Int32) ≤ nI y from nI_ge (b := 80) hy (by decide)), takes_y hn hi h e, b2s, i10, e]
    simp only [lts, nI_1]
theorem q1_78 {n : Nat} {v : Nat → Int32} (hn : n ≤ 80) (hv : ∀ j, j < n → ∃ u : Nat, u < 256 ∧ v j = nI u) {T Dr : ST} {i : Nat} (h : tpc n v T i 0) (hi : i ≤ n) (hx : i < n → ¬ isDg (v i) ∧ ¬ isNm (v i)) : fX6_readQ_1 (nI 1) T Dr = fX6_readQ_1_78 (nI 1) T Dr := by
  unfold fX6_readQ_1
  rw [dig_e hn hi h, b1s, if_neg (show ¬ (i < n ∧ ¬ (v i < 48 ∨ 57 < v i)) from fun z => (hx z.1).1 z.2), i00, h.2.2.1, if_pos rfl, h.1, h.2.1]
  by_cases q : i < n
  · obtain ⟨u, hu, eu⟩ := hv i q
    have hnm : ¬ isNm (nI u) := by rw [← eu]; exact (hx q).2
    rw [if_neg (nI_ge q (by omega)), cks _ (vp_in_nI (show i < 80 by omega) (by decide)), nI_clamp (by omega), h.2.2.2 i q, eu, ix_n hu hnm, b1s, if_pos m1_lt]
  · rw [if_pos (nI_le (by omega) (by omega))]
theorem sq_1 {n : Nat} {v : Nat → Int32} (hn : n ≤ 80) (hv : ∀ j, j < n → ∃ u : Nat, u < 256 ∧ v j = nI u) : SQ n v 1 (fX6_readQ_1 (nI 1)) := by
  refine SQ_gen hn hv (rq' := fX6_readQ_2 (nI 2)) (rt' := fX6_readT_2 (nI 2)) (fun _ => sq_2 hn hv) (fun _ => st_2 hn hv) ?_ ?_ ?_ ?_ ?_ ?_
  · intro T Dr i h hi dg
    unfold fX6_readQ_1
    rw [dig_e hn (by omega) h, b1s, if_pos (show i < n ∧ ¬ (v i < 48 ∨ 57 < v i) from ⟨hi, dg⟩), i10]
  · intro T Dr i h hi dg nm
    obtain ⟨u, hu, eu⟩ := hv i hi
    have hnm : isNm (nI u) := by rw [← eu]; exact nm
    obtain ⟨r, r1, r2⟩ := ix_y hu hnm
    unfold fX6_readQ_1
    rw [dig_e hn (by omega) h, b1s, if_neg (show ¬ (i < n ∧ ¬ (v i < 48 ∨ 57 < v i)) from fun z => dg z.2), i00, h.2.2.1, if_pos rfl, h.1, h.2.1, if_neg (nI_ge hi (by omega)), cks _ (vp_in_nI (show i < 80 by omega) (by decide)), nI_clamp (by omega), h.2.2.2 i hi, eu, r1, b1s, if_neg r2, cks _ (vp_in_nI (show i < 80 by omega) (by decide))]
    simp only [lts, nI_1]
  · intro T Dr i h hi hx
    rw [q1_78 hn hv h hi (fun z => ⟨(hx z).1, (hx z).2.1⟩)]
    have op : ¬ (i < n ∧ (v i = 33 ∨ v i = 45 ∨ v i = 40)) := fun z => ((hx z.1).2.2.resolve_left (by decide)) z.2
    unfold fX6_readQ_1_78 fX6_readQ_1_111 fX6_readQ_1_144
    rw [if_neg (by decide), takes_n hn hi h (fun z => op ⟨z.1, Or.inl z.2⟩), b2s, i00, if_neg (by decide), takes_n hn hi h (fun z => op ⟨z.1, Or.inr (Or.inl z.2)⟩), b2s, i00, if_neg (by decide), takes_n hn hi h (fun z => op ⟨z.1, Or.inr (Or.inr z.2)⟩), b2s, i00, lts]
  · intro T Dr i h hi _ e
    rw [q1_78 hn hv h (by omega) (fun _ => op_nd (Or.inl e))]
    unfold fX6_readQ_1_78
    rw [if_neg (by decide), takes_y hn hi h e, b2s, i10, show nI 1 + 1 = nI 2 from rfl]
  · intro T Dr i h hi _ e
    rw [q1_78 hn hv h (by omega) (fun _ => op_nd (Or.inr (Or.inl e)))]
    unfold fX6_readQ_1_78 fX6_readQ_1_111
    rw [if_neg (by decide), takes_n hn (by omega) h (fun z => by rw [e] at z; exact absurd z.2 (by decide)), b2s, i00, if_neg (by decide), takes_y hn hi h e, b2s, i10, show nI 1 + 1 = nI 2 from rfl]
  · intro T Dr i h hi _ e
    rw [q1_78 hn hv h (by omega) (fun _ => op_nd (Or.inr (Or.inr e)))]
    unfold fX6_readQ_1_78 fX6_readQ_1_111 fX6_readQ_1_144
    rw [if_neg (by decide), takes_n hn (by omega) h (fun z => by rw [e] at z; exact absurd z.2 (by decide)), b2s, i00, if_neg (by decide), takes_n hn (by omega) h (fun z => by rw [e] at z; exact absurd z.2 (by decide)), b2s, i00, if_neg (by decide), takes_y hn hi h e, b2s, i10, show nI 1 + 1 = nI 2 from rfl]
theorem sp_1 {n : Nat} {v : Nat → Int32} (hn : n ≤ 80) (hv : ∀ j, j < n → ∃ u : Nat, u < 256 ∧ v j = nI u) : SX n v 1 5 (fX6_readP_1 (nI 1)) := by
  show SX n v 1 5 (fun T Dr => dc_b2 (fX6_readQ_1 (nI 1) T Dr) (fun T1 D1 => fX6_readP_1_7 400 (nI 1) 0 T1 D1))
  refine SX_lp (W := fun f y T Dr => fX6_readP_1_7 f (nI 1) y T Dr) hn (by omega) (SX6 (sq_1 hn hv)) ?_ ?_ ?_
  · intro f y T Dr i h hy
    show fX6_readP_1_7_s (fX6_readP_1_7 f) _ _ _ _ = _
    unfold fX6_readP_1_7_s
    rw [if_neg (show ¬ (80 : Int32) ≤ nI y from nI_ge (b := 80) hy (by decide)), sees_f h, b1s, i00, sees_f h, b1s, i00, sees_f h, b1s, i00]
  · intro f y T Dr i h hi hy hq
    show fX6_readP_1_7_s (fX6_readP_1_7 f) _ _ _ _ = _
    unfold fX6_readP_1_7_s
    rw [if_neg (show ¬ (80 : Int32) ≤ nI y from nI_ge (b := 80) hy (by decide)), sees_e hn hi h, b1s, if_neg (show ¬ (i < n ∧ v i = 42) from fun z => hq ⟨z.1, bs_5.mpr (Or.inl z.2)⟩), i00, sees_e hn hi h, b1s, if_neg (show ¬ (i < n ∧ v i = 47) from fun z => hq ⟨z.1, bs_5.mpr (Or.inr (Or.inl z.2))⟩), i00, sees_e hn hi h, b1s, if_neg (show ¬ (i < n ∧ v i = 37) from fun z => hq ⟨z.1, bs_5.mpr (Or.inr (Or.inr z.2))⟩), i00]
  · intro f y T Dr i h hy hi hb
    have e40 : fX6_readP_1_40 (fX6_readP_1_7 f) (nI 1) (nI y) T Dr = dc_b2 (fX6_readQ_1 (nI 1) (sti T 0 3 (nI (i + 1))) Dr) (fun T2 D2 => dc_b1 (fX3_putSign (v i) D2) (fun D3 => fX6_readP_1_7 f (nI 1) (nI (y + 1)) T2 D3)) := by
      unfold fX6_readP_1_40
      rw [h.2.1, cks _ (vp_in_nI (show i < 80 by omega) (by decide)), nI_clamp (by omega), h.2.2.2 i hi]
      simp only [lts, nI_1]
    show fX6_readP_1_7_s (fX6_readP_1_7 f) _ _ _ _ = _
    rw [← e40]
    unfold fX6_readP_1_7_s
    rcases bs_5.mp hb with e | e | e
    · rw [if_neg (show ¬ (80 : Int32) ≤ nI y from nI_ge (b := 80) hy (by decide)), sees_e hn (by omega) h, b1s, if_pos (show i < n ∧ v i = 42 from ⟨hi, e⟩), i10]
    · rw [if_neg (show ¬ (80 : Int32) ≤ nI y from nI_ge (b := 80) hy (by decide)), sees_e hn (by omega) h, b1s, if_neg (show ¬ (i < n ∧ v i = 42) from fun z => by rw [e] at z; exact absurd z.2 (by decide)), i00, sees_e hn (by omega) h, b1s, if_pos (show i < n ∧ v i = 47 from ⟨hi, e⟩), i10]
    · rw [if_neg (show ¬ (80 : Int32) ≤ nI y from nI_ge (b := 80) hy (by decide)), sees_e hn (by omega) h, b1s, if_neg (show ¬ (i < n ∧ v i = 42) from fun z => by rw [e] at z; exact absurd z.2 (by decide)), i00, sees_e hn (by omega) h, b1s, if_neg (show ¬ (i < n ∧ v i = 47) from fun z => by rw [e] at z; exact absurd z.2 (by decide)), i00, sees_e hn (by omega) h, b1s, if_pos (show i < n ∧ v i = 37 from ⟨hi, e⟩), i10]
theorem ss_1 {n : Nat} {v : Nat → Int32} (hn : n ≤ 80) (hv : ∀ j, j < n → ∃ u : Nat, u < 256 ∧ v j = nI u) : SX n v 1 4 (fX6_readS_1 (nI 1)) := by
  show SX n v 1 4 (fun T Dr => dc_b2 (fX6_readP_1 (nI 1) T Dr) (fun T1 D1 => fX6_readS_1_7 400 (nI 1) 0 T1 D1))
  refine SX_lp (W := fun f y T Dr => fX6_readS_1_7 f (nI 1) y T Dr) hn (by omega) (sp_1 hn hv) ?_ ?_ ?_
  · intro f y T Dr i h hy
    show fX6_readS_1_7_s (fX6_readS_1_7 f) _ _ _ _ = _
    unfold fX6_readS_1_7_s
    rw [if_neg (show ¬ (80 : Int32) ≤ nI y from nI_ge (b := 80) hy (by decide)), sees_f h, b1s, i00, sees_f h, b1s, i00]
  · intro f y T Dr i h hi hy hq
    show fX6_readS_1_7_s (fX6_readS_1_7 f) _ _ _ _ = _
    unfold fX6_readS_1_7_s
    rw [if_neg (show ¬ (80 : Int32) ≤ nI y from nI_ge (b := 80) hy (by decide)), sees_e hn hi h, b1s, if_neg (show ¬ (i < n ∧ v i = 43) from fun z => hq ⟨z.1, bs_4.mpr (Or.inl z.2)⟩), i00, sees_e hn hi h, b1s, if_neg (show ¬ (i < n ∧ v i = 45) from fun z => hq ⟨z.1, bs_4.mpr (Or.inr z.2)⟩), i00]
  · intro f y T Dr i h hy hi hb
    have e40 : fX6_readS_1_31 (fX6_readS_1_7 f) (nI 1) (nI y) T Dr = dc_b2 (fX6_readP_1 (nI 1) (sti T 0 3 (nI (i + 1))) Dr) (fun T2 D2 => dc_b1 (fX3_putSign (v i) D2) (fun D3 => fX6_readS_1_7 f (nI 1) (nI (y + 1)) T2 D3)) := by
      unfold fX6_readS_1_31
      rw [h.2.1, cks _ (vp_in_nI (show i < 80 by omega) (by decide)), nI_clamp (by omega), h.2.2.2 i hi]
      simp only [lts, nI_1]
    show fX6_readS_1_7_s (fX6_readS_1_7 f) _ _ _ _ = _
    rw [← e40]
    unfold fX6_readS_1_7_s
    rcases bs_4.mp hb with e | e
    · rw [if_neg (show ¬ (80 : Int32) ≤ nI y from nI_ge (b := 80) hy (by decide)), sees_e hn (by omega) h, b1s, if_pos (show i < n ∧ v i = 43 from ⟨hi, e⟩), i10]
    · rw [if_neg (show ¬ (80 : Int32) ≤ nI y from nI_ge (b := 80) hy (by decide)), sees_e hn (by omega) h, b1s, if_neg (show ¬ (i < n ∧ v i = 43) from fun z => by rw [e] at z; exact absurd z.2 (by decide)), i00, sees_e hn (by omega) h, b1s, if_pos (show i < n ∧ v i = 45 from ⟨hi, e⟩), i10]
theorem sb_1 {n : Nat} {v : Nat → Int32} (hn : n ≤ 80) (hv : ∀ j, j < n → ∃ u : Nat, u < 256 ∧ v j = nI u) : SX n v 1 3 (fX6_readB_1 (nI 1)) := by
  refine SX_3 (sub := fX6_readS_1 (nI 1)) (W := (fun T1 D1 => dc_b1 (fX6_sees 60 T1) (fun r4 => (if r4 = 0 then dc_b1 (fX6_sees 61 T1) (fun r15 => (if r15 = 0 then dc_b1 (fX6_sees 62 T1) (fun r18 => (if r18 = 0 then some (T1, D1) else fX6_readB_1_32 (nI 1) T1 D1)) else fX6_readB_1_32 (nI 1) T1 D1)) else fX6_readB_1_32 (nI 1) T1 D1)))) hn (ss_1 hn hv) (fun T Dr => rfl) ?_ ?_ ?_
  · intro T Dr i h
    show dc_b1 (fX6_sees 60 T) _ = _
    rw [sees_f h, b1s, i00, sees_f h, b1s, i00, sees_f h, b1s, i00]
  · intro T Dr i h hi hq
    show dc_b1 (fX6_sees 60 T) _ = _
    rw [sees_e hn hi h, b1s, if_neg (show ¬ (i < n ∧ v i = 60) from fun z => hq ⟨z.1, bs_3.mpr (Or.inl z.2)⟩), i00, sees_e hn hi h, b1s, if_neg (show ¬ (i < n ∧ v i = 61) from fun z => hq ⟨z.1, bs_3.mpr (Or.inr (Or.inl z.2))⟩), i00, sees_e hn hi h, b1s, if_neg (show ¬ (i < n ∧ v i = 62) from fun z => hq ⟨z.1, bs_3.mpr (Or.inr (Or.inr z.2))⟩), i00]
  · intro T Dr i h hi hb
    have e32 : fX6_readB_1_32 (nI 1) T Dr = dc_b2 (fX6_readS_1 (nI 1) (sti T 0 3 (nI (i + 1))) Dr) (fun T2 D2 => dc_b1 (fX3_putSign (v i) D2) (fun D3 => some (T2, D3))) := by
      unfold fX6_readB_1_32
      rw [h.2.1, cks _ (vp_in_nI (show i < 80 by omega) (by decide)), nI_clamp (by omega), h.2.2.2 i hi]
      simp only [lts, nI_1]
    show dc_b1 (fX6_sees 60 T) _ = _
    rw [← e32]
    rcases bs_3.mp hb with e | e | e
    · rw [sees_e hn (by omega) h, b1s, if_pos (show i < n ∧ v i = 60 from ⟨hi, e⟩), i10]
    · rw [sees_e hn (by omega) h, b1s, if_neg (show ¬ (i < n ∧ v i = 60) from fun z => by rw [e] at z; exact absurd z.2 (by decide)), i00, sees_e hn (by omega) h, b1s, if_pos (show i < n ∧ v i = 61 from ⟨hi, e⟩), i10]
    · rw [sees_e hn (by omega) h, b1s, if_neg (show ¬ (i < n ∧ v i = 60) from fun z => by rw [e] at z; exact absurd z.2 (by decide)), i00, sees_e hn (by omega) h, b1s, if_neg (show ¬ (i < n ∧ v i = 61) from fun z => by rw [e] at z; exact absurd z.2 (by decide)), i00, sees_e hn (by omega) h, b1s, if_pos (show i < n ∧ v i = 62 from ⟨hi, e⟩), i10]
theorem sa_1 {n : Nat} {v : Nat → Int32} (hn : n ≤ 80) (hv : ∀ j, j < n → ∃ u : Nat, u < 256 ∧ v j = nI u) : SX n v 1 2 (fX6_readA_1 (nI 1)) := by
  show SX n v 1 2 (fun T Dr => dc_b2 (fX6_readB_1 (nI 1) T Dr) (fun T1 D1 => fX6_readA_1_7 400 (nI 1) 0 T1 D1))
  refine SX_lp (W := fun f y T Dr => fX6_readA_1_7 f (nI 1) y T Dr) hn (by omega) (sb_1 hn hv) ?_ ?_ ?_
  · intro f y T Dr i h hy
    show fX6_readA_1_7_s (fX6_readA_1_7 f) _ _ _ _ = _
    unfold fX6_readA_1_7_s
    rw [if_neg (show ¬ (80 : Int32) ≤ nI y from nI_ge (b := 80) hy (by decide)), takes_f h, b2s, i00]
  · intro f y T Dr i h hi hy hq
    show fX6_readA_1_7_s (fX6_readA_1_7 f) _ _ _ _ = _
    unfold fX6_readA_1_7_s
    rw [if_neg (show ¬ (80 : Int32) ≤ nI y from nI_ge (b := 80) hy (by decide)), takes_n hn hi h (fun z => hq ⟨z.1, bs_2.mpr z.2⟩), b2s, i00]
  · intro f y T Dr i h hy hi hb
    have e := bs_2.mp hb
    show fX6_readA_1_7_s (fX6_readA_1_7 f) _ _ _ _ = _
    unfold fX6_readA_1_7_s
    rw [if_neg (show ¬ (80 : Int32) ≤ nI y from nI_ge (b := 80) hy (by decide)), takes_y hn hi h e, b2s, i10, e]
    simp only [lts, nI_1]
theorem st_1 {n : Nat} {v : Nat → Int32} (hn : n ≤ 80) (hv : ∀ j, j < n → ∃ u : Nat, u < 256 ∧ v j = nI u) : SX n v 1 1 (fX6_readT_1 (nI 1)) := by
  show SX n v 1 1 (fun T Dr => dc_b2 (fX6_readA_1 (nI 1) T Dr) (fun T1 D1 => fX6_readT_1_7 400 (nI 1) 0 T1 D1))
  refine SX_lp (W := fun f y T Dr => fX6_readT_1_7 f (nI 1) y T Dr) hn (by omega) (sa_1 hn hv) ?_ ?_ ?_
  · intro f y T Dr i h hy
    show fX6_readT_1_7_s (fX6_readT_1_7 f) _ _ _ _ = _
    unfold fX6_readT_1_7_s
    rw [if_neg (show ¬ (80 : Int32) ≤ nI y from nI_ge (b := 80) hy (by decide)), takes_f h, b2s, i00]
  · intro f y T Dr i h hi hy hq
    show fX6_readT_1_7_s (fX6_readT_1_7 f) _ _ _ _ = _
    unfold fX6_readT_1_7_s
    rw [if_neg (show ¬ (80 : Int32) ≤ nI y from nI_ge (b := 80) hy (by decide)), takes_n hn hi h (fun z => hq ⟨z.1, bs_1.mpr z.2⟩), b2s, i00]
  · intro f y T Dr i h hy hi hb
    have e := bs_1.mp hb
    show fX6_readT_1_7_s (fX6_readT_1_7 f) _ _ _ _ = _
    unfold fX6_readT_1_7_s
    rw [if_neg (show ¬ (80 : Int32) ≤ nI y from nI_ge (b := 80) hy (by decide)), takes_y hn hi h e, b2s, i10, e]
    simp only [lts, nI_1]
theorem q0_78 {n : Nat} {v : Nat → Int32} (hn : n ≤ 80) (hv : ∀ j, j < n → ∃ u : Nat, u < 256 ∧ v j = nI u) {T Dr : ST} {i : Nat} (h : tpc n v T i 0) (hi : i ≤ n) (hx : i < n → ¬ isDg (v i) ∧ ¬ isNm (v i)) : fX6_readQ_0 (nI 0) T Dr = fX6_readQ_0_78 (nI 0) T Dr := by
  unfold fX6_readQ_0
  rw [dig_e hn hi h, b1s, if_neg (show ¬ (i < n ∧ ¬ (v i < 48 ∨ 57 < v i)) from fun z => (hx z.1).1 z.2), i00, h.2.2.1, if_pos rfl, h.1, h.2.1]
  by_cases q : i < n
  · obtain ⟨u, hu, eu⟩ := hv i q
    have hnm : ¬ isNm (nI u) := by rw [← eu]; exact (hx q).2
    rw [if_neg (nI_ge q (by omega)), cks _ (vp_in_nI (show i < 80 by omega) (by decide)), nI_clamp (by omega), h.2.2.2 i q, eu, ix_n hu hnm, b1s, if_pos m1_lt]
  · rw [if_pos (nI_le (by omega) (by omega))]
theorem sq_0 {n : Nat} {v : Nat → Int32} (hn : n ≤ 80) (hv : ∀ j, j < n → ∃ u : Nat, u < 256 ∧ v j = nI u) : SQ n v 0 (fX6_readQ_0 (nI 0)) := by
  refine SQ_gen hn hv (rq' := fX6_readQ_1 (nI 1)) (rt' := fX6_readT_1 (nI 1)) (fun _ => sq_1 hn hv) (fun _ => st_1 hn hv) ?_ ?_ ?_ ?_ ?_ ?_
  · intro T Dr i h hi dg
    unfold fX6_readQ_0
    rw [dig_e hn (by omega) h, b1s, if_pos (show i < n ∧ ¬ (v i < 48 ∨ 57 < v i) from ⟨hi, dg⟩), i10]
  · intro T Dr i h hi dg nm
    obtain ⟨u, hu, eu⟩ := hv i hi
    have hnm : isNm (nI u) := by rw [← eu]; exact nm
    obtain ⟨r, r1, r2⟩ := ix_y hu hnm
    unfold fX6_readQ_0
    rw [dig_e hn (by omega) h, b1s, if_neg (show ¬ (i < n ∧ ¬ (v i < 48 ∨ 57 < v i)) from fun z => dg z.2), i00, h.2.2.1, if_pos rfl, h.1, h.2.1, if_neg (nI_ge hi (by omega)), cks _ (vp_in_nI (show i < 80 by omega) (by decide)), nI_clamp (by omega), h.2.2.2 i hi, eu, r1, b1s, if_neg r2, cks _ (vp_in_nI (show i < 80 by omega) (by decide))]
    simp only [lts, nI_1]
  · intro T Dr i h hi hx
    rw [q0_78 hn hv h hi (fun z => ⟨(hx z).1, (hx z).2.1⟩)]
    have op : ¬ (i < n ∧ (v i = 33 ∨ v i = 45 ∨ v i = 40)) := fun z => ((hx z.1).2.2.resolve_left (by decide)) z.2
    unfold fX6_readQ_0_78 fX6_readQ_0_111 fX6_readQ_0_144
    rw [if_neg (by decide), takes_n hn hi h (fun z => op ⟨z.1, Or.inl z.2⟩), b2s, i00, if_neg (by decide), takes_n hn hi h (fun z => op ⟨z.1, Or.inr (Or.inl z.2)⟩), b2s, i00, if_neg (by decide), takes_n hn hi h (fun z => op ⟨z.1, Or.inr (Or.inr z.2)⟩), b2s, i00, lts]
  · intro T Dr i h hi _ e
    rw [q0_78 hn hv h (by omega) (fun _ => op_nd (Or.inl e))]
    unfold fX6_readQ_0_78
    rw [if_neg (by decide), takes_y hn hi h e, b2s, i10, show nI 0 + 1 = nI 1 from rfl]
  · intro T Dr i h hi _ e
    rw [q0_78 hn hv h (by omega) (fun _ => op_nd (Or.inr (Or.inl e)))]
    unfold fX6_readQ_0_78 fX6_readQ_0_111
    rw [if_neg (by decide), takes_n hn (by omega) h (fun z => by rw [e] at z; exact absurd z.2 (by decide)), b2s, i00, if_neg (by decide), takes_y hn hi h e, b2s, i10, show nI 0 + 1 = nI 1 from rfl]
  · intro T Dr i h hi _ e
    rw [q0_78 hn hv h (by omega) (fun _ => op_nd (Or.inr (Or.inr e)))]
    unfold fX6_readQ_0_78 fX6_readQ_0_111 fX6_readQ_0_144
    rw [if_neg (by decide), takes_n hn (by omega) h (fun z => by rw [e] at z; exact absurd z.2 (by decide)), b2s, i00, if_neg (by decide), takes_n hn (by omega) h (fun z => by rw [e] at z; exact absurd z.2 (by decide)), b2s, i00, if_neg (by decide), takes_y hn hi h e, b2s, i10, show nI 0 + 1 = nI 1 from rfl]
theorem sp_0 {n : Nat} {v : Nat → Int32} (hn : n ≤ 80) (hv : ∀ j, j < n → ∃ u : Nat, u < 256 ∧ v j = nI u) : SX n v 0 5 (fX6_readP_0 (nI 0)) := by
  show SX n v 0 5 (fun T Dr => dc_b2 (fX6_readQ_0 (nI 0) T Dr) (fun T1 D1 => fX6_readP_0_7 400 (nI 0) 0 T1 D1))
  refine SX_lp (W := fun f y T Dr => fX6_readP_0_7 f (nI 0) y T Dr) hn (by omega) (SX6 (sq_0 hn hv)) ?_ ?_ ?_
  · intro f y T Dr i h hy
    show fX6_readP_0_7_s (fX6_readP_0_7 f) _ _ _ _ = _
    unfold fX6_readP_0_7_s
    rw [if_neg (show ¬ (80 : Int32) ≤ nI y from nI_ge (b := 80) hy (by decide)), sees_f h, b1s, i00, sees_f h, b1s, i00, sees_f h, b1s, i00]
  · intro f y T Dr i h hi hy hq
    show fX6_readP_0_7_s (fX6_readP_0_7 f) _ _ _ _ = _
    unfold fX6_readP_0_7_s
    rw [if_neg (show ¬ (80 : Int32) ≤ nI y from nI_ge (b := 80) hy (by decide)), sees_e hn hi h, b1s, if_neg (show ¬ (i < n ∧ v i = 42) from fun z => hq ⟨z.1, bs_5.mpr (Or.inl z.2)⟩), i00, sees_e hn hi h, b1s, if_neg (show ¬ (i < n ∧ v i = 47) from fun z => hq ⟨z.1, bs_5.mpr (Or.inr (Or.inl z.2))⟩), i00, sees_e hn hi h, b1s, if_neg (show ¬ (i < n ∧ v i = 37) from fun z => hq ⟨z.1, bs_5.mpr (Or.inr (Or.inr z.2))⟩), i00]
  · intro f y T Dr i h hy hi hb
    have e40 : fX6_readP_0_40 (fX6_readP_0_7 f) (nI 0) (nI y) T Dr = dc_b2 (fX6_readQ_0 (nI 0) (sti T 0 3 (nI (i + 1))) Dr) (fun T2 D2 => dc_b1 (fX3_putSign (v i) D2) (fun D3 => fX6_readP_0_7 f (nI 0) (nI (y + 1)) T2 D3)) := by
      unfold fX6_readP_0_40
      rw [h.2.1, cks _ (vp_in_nI (show i < 80 by omega) (by decide)), nI_clamp (by omega), h.2.2.2 i hi]
      simp only [lts, nI_1]
    show fX6_readP_0_7_s (fX6_readP_0_7 f) _ _ _ _ = _
    rw [← e40]
    unfold fX6_readP_0_7_s
    rcases bs_5.mp hb with e | e | e
    · rw [if_neg (show ¬ (80 : Int32) ≤ nI y from nI_ge (b := 80) hy (by decide)), sees_e hn (by omega) h, b1s, if_pos (show i < n ∧ v i = 42 from ⟨hi, e⟩), i10]
    · rw [if_neg (show ¬ (80 : Int32) ≤ nI y from nI_ge (b := 80) hy (by decide)), sees_e hn (by omega) h, b1s, if_neg (show ¬ (i < n ∧ v i = 42) from fun z => by rw [e] at z; exact absurd z.2 (by decide)), i00, sees_e hn (by omega) h, b1s, if_pos (show i < n ∧ v i = 47 from ⟨hi, e⟩), i10]
    · rw [if_neg (show ¬ (80 : Int32) ≤ nI y from nI_ge (b := 80) hy (by decide)), sees_e hn (by omega) h, b1s, if_neg (show ¬ (i < n ∧ v i = 42) from fun z => by rw [e] at z; exact absurd z.2 (by decide)), i00, sees_e hn (by omega) h, b1s, if_neg (show ¬ (i < n ∧ v i = 47) from fun z => by rw [e] at z; exact absurd z.2 (by decide)), i00, sees_e hn (by omega) h, b1s, if_pos (show i < n ∧ v i = 37 from ⟨hi, e⟩), i10]
theorem ss_0 {n : Nat} {v : Nat → Int32} (hn : n ≤ 80) (hv : ∀ j, j < n → ∃ u : Nat, u < 256 ∧ v j = nI u) : SX n v 0 4 (fX6_readS_0 (nI 0)) := by
  show SX n v 0 4 (fun T Dr => dc_b2 (fX6_readP_0 (nI 0) T Dr) (fun T1 D1 => fX6_readS_0_7 400 (nI 0) 0 T1 D1))
  refine SX_lp (W := fun f y T Dr => fX6_readS_0_7 f (nI 0) y T Dr) hn (by omega) (sp_0 hn hv) ?_ ?_ ?_
  · intro f y T Dr i h hy
    show fX6_readS_0_7_s (fX6_readS_0_7 f) _ _ _ _ = _
    unfold fX6_readS_0_7_s
    rw [if_neg (show ¬ (80 : Int32) ≤ nI y from nI_ge (b := 80) hy (by decide)), sees_f h, b1s, i00, sees_f h, b1s, i00]
  · intro f y T Dr i h hi hy hq
    show fX6_readS_0_7_s (fX6_readS_0_7 f) _ _ _ _ = _
    unfold fX6_readS_0_7_s
    rw [if_neg (show ¬ (80 : Int32) ≤ nI y from nI_ge (b := 80) hy (by decide)), sees_e hn hi h, b1s, if_neg (show ¬ (i < n ∧ v i = 43) from fun z => hq ⟨z.1, bs_4.mpr (Or.inl z.2)⟩), i00, sees_e hn hi h, b1s, if_neg (show ¬ (i < n ∧ v i = 45) from fun z => hq ⟨z.1, bs_4.mpr (Or.inr z.2)⟩), i00]
  · intro f y T Dr i h hy hi hb
    have e40 : fX6_readS_0_31 (fX6_readS_0_7 f) (nI 0) (nI y) T Dr = dc_b2 (fX6_readP_0 (nI 0) (sti T 0 3 (nI (i + 1))) Dr) (fun T2 D2 => dc_b1 (fX3_putSign (v i) D2) (fun D3 => fX6_readS_0_7 f (nI 0) (nI (y + 1)) T2 D3)) := by
      unfold fX6_readS_0_31
      rw [h.2.1, cks _ (vp_in_nI (show i < 80 by omega) (by decide)), nI_clamp (by omega), h.2.2.2 i hi]
      simp only [lts, nI_1]
    show fX6_readS_0_7_s (fX6_readS_0_7 f) _ _ _ _ = _
    rw [← e40]
    unfold fX6_readS_0_7_s
    rcases bs_4.mp hb with e | e
    · rw [if_neg (show ¬ (80 : Int32) ≤ nI y from nI_ge (b := 80) hy (by decide)), sees_e hn (by omega) h, b1s, if_pos (show i < n ∧ v i = 43 from ⟨hi, e⟩), i10]
    · rw [if_neg (show ¬ (80 : Int32) ≤ nI y from nI_ge (b := 80) hy (by decide)), sees_e hn (by omega) h, b1s, if_neg (show ¬ (i < n ∧ v i = 43) from fun z => by rw [e] at z; exact absurd z.2 (by decide)), i00, sees_e hn (by omega) h, b1s, if_pos (show i < n ∧ v i = 45 from ⟨hi, e⟩), i10]
theorem sb_0 {n : Nat} {v : Nat → Int32} (hn : n ≤ 80) (hv : ∀ j, j < n → ∃ u : Nat, u < 256 ∧ v j = nI u) : SX n v 0 3 (fX6_readB_0 (nI 0)) := by
  refine SX_3 (sub := fX6_readS_0 (nI 0)) (W := (fun T1 D1 => dc_b1 (fX6_sees 60 T1) (fun r4 => (if r4 = 0 then dc_b1 (fX6_sees 61 T1) (fun r15 => (if r15 = 0 then dc_b1 (fX6_sees 62 T1) (fun r18 => (if r18 = 0 then some (T1, D1) else fX6_readB_0_32 (nI 0) T1 D1)) else fX6_readB_0_32 (nI 0) T1 D1)) else fX6_readB_0_32 (nI 0) T1 D1)))) hn (ss_0 hn hv) (fun T Dr => rfl) ?_ ?_ ?_
  · intro T Dr i h
    show dc_b1 (fX6_sees 60 T) _ = _
    rw [sees_f h, b1s, i00, sees_f h, b1s, i00, sees_f h, b1s, i00]
  · intro T Dr i h hi hq
    show dc_b1 (fX6_sees 60 T) _ = _
    rw [sees_e hn hi h, b1s, if_neg (show ¬ (i < n ∧ v i = 60) from fun z => hq ⟨z.1, bs_3.mpr (Or.inl z.2)⟩), i00, sees_e hn hi h, b1s, if_neg (show ¬ (i < n ∧ v i = 61) from fun z => hq ⟨z.1, bs_3.mpr (Or.inr (Or.inl z.2))⟩), i00, sees_e hn hi h, b1s, if_neg (show ¬ (i < n ∧ v i = 62) from fun z => hq ⟨z.1, bs_3.mpr (Or.inr (Or.inr z.2))⟩), i00]
  · intro T Dr i h hi hb
    have e32 : fX6_readB_0_32 (nI 0) T Dr = dc_b2 (fX6_readS_0 (nI 0) (sti T 0 3 (nI (i + 1))) Dr) (fun T2 D2 => dc_b1 (fX3_putSign (v i) D2) (fun D3 => some (T2, D3))) := by
      unfold fX6_readB_0_32
      rw [h.2.1, cks _ (vp_in_nI (show i < 80 by omega) (by decide)), nI_clamp (by omega), h.2.2.2 i hi]
      simp only [lts, nI_1]
    show dc_b1 (fX6_sees 60 T) _ = _
    rw [← e32]
    rcases bs_3.mp hb with e | e | e
    · rw [sees_e hn (by omega) h, b1s, if_pos (show i < n ∧ v i = 60 from ⟨hi, e⟩), i10]
    · rw [sees_e hn (by omega) h, b1s, if_neg (show ¬ (i < n ∧ v i = 60) from fun z => by rw [e] at z; exact absurd z.2 (by decide)), i00, sees_e hn (by omega) h, b1s, if_pos (show i < n ∧ v i = 61 from ⟨hi, e⟩), i10]
    · rw [sees_e hn (by omega) h, b1s, if_neg (show ¬ (i < n ∧ v i = 60) from fun z => by rw [e] at z; exact absurd z.2 (by decide)), i00, sees_e hn (by omega) h, b1s, if_neg (show ¬ (i < n ∧ v i = 61) from fun z => by rw [e] at z; exact absurd z.2 (by decide)), i00, sees_e hn (by omega) h, b1s, if_pos (show i < n ∧ v i = 62 from ⟨hi, e⟩), i10]
theorem sa_0 {n : Nat} {v : Nat → Int32} (hn : n ≤ 80) (hv : ∀ j, j < n → ∃ u : Nat, u < 256 ∧ v j = nI u) : SX n v 0 2 (fX6_readA_0 (nI 0)) := by
  show SX n v 0 2 (fun T Dr => dc_b2 (fX6_readB_0 (nI 0) T Dr) (fun T1 D1 => fX6_readA_0_7 400 (nI 0) 0 T1 D1))
  refine SX_lp (W := fun f y T Dr => fX6_readA_0_7 f (nI 0) y T Dr) hn (by omega) (sb_0 hn hv) ?_ ?_ ?_
  · intro f y T Dr i h hy
    show fX6_readA_0_7_s (fX6_readA_0_7 f) _ _ _ _ = _
    unfold fX6_readA_0_7_s
    rw [if_neg (show ¬ (80 : Int32) ≤ nI y from nI_ge (b := 80) hy (by decide)), takes_f h, b2s, i00]
  · intro f y T Dr i h hi hy hq
    show fX6_readA_0_7_s (fX6_readA_0_7 f) _ _ _ _ = _
    unfold fX6_readA_0_7_s
    rw [if_neg (show ¬ (80 : Int32) ≤ nI y from nI_ge (b := 80) hy (by decide)), takes_n hn hi h (fun z => hq ⟨z.1, bs_2.mpr z.2⟩), b2s, i00]
  · intro f y T Dr i h hy hi hb
    have e := bs_2.mp hb
    show fX6_readA_0_7_s (fX6_readA_0_7 f) _ _ _ _ = _
    unfold fX6_readA_0_7_s
    rw [if_neg (show ¬ (80 : Int32) ≤ nI y from nI_ge (b := 80) hy (by decide)), takes_y hn hi h e, b2s, i10, e]
    simp only [lts, nI_1]
theorem st_0 {n : Nat} {v : Nat → Int32} (hn : n ≤ 80) (hv : ∀ j, j < n → ∃ u : Nat, u < 256 ∧ v j = nI u) : SX n v 0 1 (fX6_readT_0 (nI 0)) := by
  show SX n v 0 1 (fun T Dr => dc_b2 (fX6_readA_0 (nI 0) T Dr) (fun T1 D1 => fX6_readT_0_7 400 (nI 0) 0 T1 D1))
  refine SX_lp (W := fun f y T Dr => fX6_readT_0_7 f (nI 0) y T Dr) hn (by omega) (sa_0 hn hv) ?_ ?_ ?_
  · intro f y T Dr i h hy
    show fX6_readT_0_7_s (fX6_readT_0_7 f) _ _ _ _ = _
    unfold fX6_readT_0_7_s
    rw [if_neg (show ¬ (80 : Int32) ≤ nI y from nI_ge (b := 80) hy (by decide)), takes_f h, b2s, i00]
  · intro f y T Dr i h hi hy hq
    show fX6_readT_0_7_s (fX6_readT_0_7 f) _ _ _ _ = _
    unfold fX6_readT_0_7_s
    rw [if_neg (show ¬ (80 : Int32) ≤ nI y from nI_ge (b := 80) hy (by decide)), takes_n hn hi h (fun z => hq ⟨z.1, bs_1.mpr z.2⟩), b2s, i00]
  · intro f y T Dr i h hy hi hb
    have e := bs_1.mp hb
    show fX6_readT_0_7_s (fX6_readT_0_7 f) _ _ _ _ = _
    unfold fX6_readT_0_7_s
    rw [if_neg (show ¬ (80 : Int32) ≤ nI y from nI_ge (b := 80) hy (by decide)), takes_y hn hi h e, b2s, i10, e]
    simp only [lts, nI_1]
