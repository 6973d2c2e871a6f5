/-! THE CLAIM OUT OF ONE WALK OF THE LAW'S BODY. Your part is whole_start (and what it stands on); all else here is the same for every law, but numbers. -/
def R_law : String := "NextButOneLaw"
def lw_P (b : Addr) (xs : List Int32) (args : Array Value) (s : State) : Prop := args = #[.ref b] ∧ s.IntsAt b xs ∧ xs.length ≤ 384 ∧ (Jvm.Cond.and given_1 narrow_1).before args s = true
def lw_Q (_ : Array Value) (s : State) (o : Outcome) (t : State) : Prop := o = .returned (some (.int 1)) ∧ Framed s o t [] 600000 7302250
def lw_Z (below : List Frame) (a : Array Value) (s : State) : State → Prop := fun t => ∃ o, t.status = .running ∧ Ended t below o ∧ lw_Q a s o t
/-- the law's own end, with 1 on the stack, nothing written that was there before, its room as the claim has it -/
theorem lw_ret {p : Program} {l : Launch} {e : Env} {s : State} {m : MethodId} {below : List Frame} {meth : Method} {c : Code} {b : Nat} (hx : p.tables.exec = Jvm.exec) (hb : c.code = code) (hr : meth.sig.returnType = ret) (hlocks : meth.locks = false) {pc : Nat} {H : Heap} {ls : Array Slot} (hdg : decode code pc = .ok (.ireturn, 1)) : W p l e room_1 s m #[Value.ref b] below meth c H [] 600000 7302250 (lw_Z below #[Value.ref b] s) (F0 m pc ls [.int 1]) := by
  intro T hT X
  obtain ⟨fs, hret, hrun, hended, hW, hframe⟩ := X.leave (v := some (.int 1)) (hlocks := hlocks) (fun h => by rw [hr] at h; cases h)
  have hmeth' : T.vm.method? m = some meth := X.method'
  refine ⟨T.setFrames fs, ?_, .returned (some (.int 1)), hrun, hended, rfl, ⟨_, rfl⟩, hW, hframe⟩
  jvm_step X.here [X.here.top, hx, hb, hdg, hmeth', hr, ret, narrow_b1]
  (try refine ⟨rfl, ?_⟩); (try refine ⟨rfl, ?_⟩)
  first | (intro acts; rw [hret _ acts rfl rfl rfl]) | rw [hret _ _ rfl rfl rfl]
  exact Steps.refl _
/-- what holds at the law's entry: the machine, the code, the tables' words (any of lw_tbl by 'hts w (by decide +kernel)'), the script of L ints xs at the cell b, what the Statement gives of the start (any of its parts by flat_of_before) -/
def lw_At (p : Program) (s : State) (m : MethodId) (meth : Method) (c : Code) (b L : Nat) (xs : Nat → Int32) : Prop :=
  p.tables.exec = Jvm.exec ∧ c.code = code ∧ meth.sig.returnType = ret ∧ c.maxLocals = 4 ∧ s.vm.findClass R_law = some m.cls ∧ (∀ w ∈ lw_tbl, w.before #[Value.ref b] s = true) ∧ va_X b L xs s s.heap ∧ b < s.heap.size ∧ meth.locks = false ∧ (Jvm.Cond.and given_1 narrow_1).before #[Value.ref b] s = true

def PPall (RR : RT) : Prop := P_person RR ∧ P_of RR ∧ P_set RR ∧ P_as RR ∧ P_likes RR ∧ P_worth RR ∧ P_rule RR ∧ P_sit RR ∧ P_line RR ∧ P_may RR ∧ P_follows RR ∧ P_come RR ∧ P_years RR ∧ P_seed RR ∧ P_now RR ∧ P_ahead RR ∧ P_ever RR ∧ P_turns RR ∧ P_share RR ∧ P_has RR ∧ P_but RR ∧ P_vote RR ∧ P_kept RR ∧ P_pact RR ∧ P_odds RR ∧ P_feed RR ∧ P_wipe RR ∧ P_text RR ∧ P_gives RR ∧ P_untell RR ∧ P_sheet RR ∧ P_write RR ∧ P_copy RR ∧ P_lays RR ∧ P_read RR ∧ P_image RR ∧ P_undo RR ∧ P_tear RR ∧ P_count RR ∧ P_status RR
abbrev lwA (s : State) : Nat → Prop := fun q => s.heap.size ≤ q
set_option maxRecDepth 100000 in
set_option maxHeartbeats 4000000 in
theorem law_loop {p : Program} {l : Launch} {e : Env} {s : State} {m : MethodId} {below : List Frame} {meth : Method} {c : Code} {D : va_G} {cs : Nat → ClassId} {b L : Nat} {xs : Nat → Int32} {ad bd : Nat → Nat → Nat} {RR : RT} (hL : L ≤ 384) (hr : meth.sig.returnType = ret) (hlocks : meth.locks = false) (LC0 : LC p s m c b L xs D cs (lwA s)) (PP : PPall RR) : ∀ (n k : Nat) (y3 : Int32), y3 = nI (6 * k) → 6 * k ≤ L → L + 1 ≤ 6 * k + 6 * n →
    ∀ (Ma : ST) (Fo : ST) (Sc : ST) (Se : ST) (Tr : ST) (Ch : ST) (Us : ST) (Ta : ST) (Dr : ST) (G0 : ST) (N0 : LT) (G1 : ST) (N1 : LT) (G2 : ST) (N2 : LT) (G3 : ST) (N3 : LT) (Fo2 : ST) (Sc2 : ST) (Se2 : ST) (Tr2 : ST) (Fo3 : ST) (Sc3 : ST) (Se3 : ST) (Tr3 : ST) (M : ST) (N : LT), RR Ma Fo Sc Se Tr Ch Us Ta Dr G0 N0 G1 N1 G2 N2 G3 N3 Fo2 Sc2 Se2 Tr2 Fo3 Sc3 Se3 Tr3 M N → ∀ (H : Heap) (locs : List Loc) (ls : Array Slot), va_P D vwCl ((List.range 31).flatMap (wB cs ad bd Ma Fo Sc Se Tr Ch Us Ta Dr G0 N0 G1 N1 G2 N2 G3 N3 Fo2 Sc2 Se2 Tr2 Fo3 Sc3 Se3 Tr3 M N)) H → va_D (lwA s) ((List.range 31).flatMap (wB cs ad bd Ma Fo Sc Se Tr Ch Us Ta Dr G0 N0 G1 N1 G2 N2 G3 N3 Fo2 Sc2 Se2 Tr2 Fo3 Sc3 Se3 Tr3 M N)) → va_S (lwA s) s.heap H locs → lv_has ls 4 [(0, .ref b), (1, .ref (ad 0 0)), (2, .ref (bd 0 0)), (3, .int y3)] → W p l e room_1 s m #[Value.ref b] below meth c H locs 98 4085 (lw_Z below #[Value.ref b] s) (F0 m 18 ls []) := by
  have LC1 := LC0
  obtain ⟨hx, hb, hml, hown, hu, hK, hZ, hX, hbl, hbA, hA⟩ := LC0
  intro n
  induction n with
  | zero => intro k y3 h1 h2 h3; exact absurd h3 (by omega)
  | succ n ih =>
    intro k y3 ey hk hn Ma Fo Sc Se Tr Ch Us Ta Dr G0 N0 G1 N1 G2 N2 G3 N3 Fo2 Sc2 Se2 Tr2 Fo3 Sc3 Se3 Tr3 M N hR H locs ls hP hD hS hl
    refine lv_iload_n hx hb dL_law_18 rfl (lv_at hl 3 rfl) ?_
    refine lv_aload_n hx hb dL_law_19 rfl (lv_at hl 0 rfl) ?_
    refine va_slen hx hb hX hbl hbA hS dL_law_20 ?_
    refine lv_bipush (v := 6) hx hb dL_law_21 (by decide) ?_
    refine lv_isub hx hb dL_law_23 ?_
    have hcmp : (Int32.ofNat L - 6 < y3) ↔ ((L : Int) - 6 < 6 * k) := by
      rw [ey, show (6 : Int32) = nI 6 from by decide, show Int32.ofNat L = nI L from rfl, Int32.lt_iff_toInt_lt, pk_sub_toInt (by omega) (by omega), nI_toInt (by omega)]
      omega
    refine lv_icmp_gt (tgt := 1385) hx hb dL_law_24 (by decide) (fun hc => ?_) (fun hc => ?_)
    · refine lv_iconst (v := 1) hx hb dL_law_1385 (by decide) ?_
      refine va_forget (fun q hq => hS.2.2 q hq) ?_
      refine W.widen (k := 600000) (n := 7302250) (Nat.le_of_ble_eq_true rfl) (Nat.le_of_ble_eq_true rfl) ?_
      exact lw_ret hx hb hr hlocks dL_law_1386
    · have h6 : 6 * k + 6 ≤ L := by
        rw [hcmp] at hc
        omega
      have i0 : vp_in y3 L := by rw [ey]; exact vp_in_nI (by omega) (by omega)
      have i1 : vp_in (y3 + 1) L := by rw [ey, show (1 : Int32) = nI 1 from by decide, nI_add]; exact vp_in_nI (by omega) (by omega)
      have i2 : vp_in (y3 + 2) L := by rw [ey, show (2 : Int32) = nI 2 from by decide, nI_add]; exact vp_in_nI (by omega) (by omega)
      have i3 : vp_in (y3 + 3) L := by rw [ey, show (3 : Int32) = nI 3 from by decide, nI_add]; exact vp_in_nI (by omega) (by omega)
      have i4 : vp_in (y3 + 4) L := by rw [ey, show (4 : Int32) = nI 4 from by decide, nI_add]; exact vp_in_nI (by omega) (by omega)
      have i5 : vp_in (y3 + 5) L := by rw [ey, show (5 : Int32) = nI 5 from by decide, nI_add]; exact vp_in_nI (by omega) (by omega)
      have h1379 : ∀ (Ma : ST) (Fo : ST) (Sc : ST) (Se : ST) (Tr : ST) (Ch : ST) (Us : ST) (Ta : ST) (Dr : ST) (G0 : ST) (N0 : LT) (G1 : ST) (N1 : LT) (G2 : ST) (N2 : LT) (G3 : ST) (N3 : LT) (Fo2 : ST) (Sc2 : ST) (Se2 : ST) (Tr2 : ST) (Fo3 : ST) (Sc3 : ST) (Se3 : ST) (Tr3 : ST) (M : ST) (N : LT), RR Ma Fo Sc Se Tr Ch Us Ta Dr G0 N0 G1 N1 G2 N2 G3 N3 Fo2 Sc2 Se2 Tr2 Fo3 Sc3 Se3 Tr3 M N → ∀ (H : Heap) (locs : List Loc), va_P D vwCl ((List.range 31).flatMap (wB cs ad bd Ma Fo Sc Se Tr Ch Us Ta Dr G0 N0 G1 N1 G2 N2 G3 N3 Fo2 Sc2 Se2 Tr2 Fo3 Sc3 Se3 Tr3 M N)) H → va_D (lwA s) ((List.range 31).flatMap (wB cs ad bd Ma Fo Sc Se Tr Ch Us Ta Dr G0 N0 G1 N1 G2 N2 G3 N3 Fo2 Sc2 Se2 Tr2 Fo3 Sc3 Se3 Tr3 M N)) → va_S (lwA s) s.heap H locs → W p l e room_1 s m #[Value.ref b] below meth c H locs 98 4085 (lw_Z below #[Value.ref b] s) (F0 m 1379 ls []) := by
        intro Ma Fo Sc Se Tr Ch Us Ta Dr G0 N0 G1 N1 G2 N2 G3 N3 Fo2 Sc2 Se2 Tr2 Fo3 Sc3 Se3 Tr3 M N hR H locs hP hD hS
        obtain ⟨y4, hy4⟩ : ∃ y : Int32, y = y3 + 6 := ⟨_, rfl⟩
        refine lv_iinc (v := y4) (lv' := [(3, .int y4), (0, .ref b), (1, .ref (ad 0 0)), (2, .ref (bd 0 0))]) hx hb dL_law_1379 hl (k := 3) rfl (by rw [hy4]; rfl) (by decide) rfl (fun ls hl => ?_)
        refine lv_goto (tgt := 18) hx hb dL_law_1382 (by decide) ?_
        exact ih (k + 1) y4 (by rw [hy4, ey, show (6 : Int32) = nI 6 from by decide, nI_add]; congr 1) (by omega) (by omega) Ma Fo Sc Se Tr Ch Us Ta Dr G0 N0 G1 N1 G2 N2 G3 N3 Fo2 Sc2 Se2 Tr2 Fo3 Sc3 Se3 Tr3 M N hR _ _ _ hP hD hS (lv_sub hl [1, 2, 3, 0] rfl)
      refine lv_aload_n hx hb dL_law_27 rfl (lv_at hl 0 rfl) ?_
      refine lv_iload_n hx hb dL_law_28 rfl (lv_at hl 3 rfl) ?_
      refine va_sld hx hb hX hbl hbA hS i0 dL_law_29 ?_
      refine lv_bipush (v := 63) hx hb dL_law_30 (by decide) ?_
      refine lv_iand hx hb dL_law_32 ?_
      refine lv_topi (fun z hz => ?_)
      by_cases hc0 : z = 0
      · refine lv_tableIn (off := 175) (tgt := 208) hx hb dL_law_33 (by rw [hc0]; decide) (by rw [hc0]; decide) (by rw [hc0]; decide) (by decide) ?_
        exact lw_c0 PP.1 LC1 Ma Fo Sc Se Tr Ch Us Ta Dr G0 N0 G1 N1 G2 N2 G3 N3 Fo2 Sc2 Se2 Tr2 Fo3 Sc3 Se3 Tr3 M N hR y3 i1 i2 i3 i4 i5 _ _ _ hP hD hS hl h1379
      by_cases hc1 : z = 1
      · refine lv_tableIn (off := 218) (tgt := 251) hx hb dL_law_33 (by rw [hc1]; decide) (by rw [hc1]; decide) (by rw [hc1]; decide) (by decide) ?_
        exact lw_c1 PP.2.1 LC1 Ma Fo Sc Se Tr Ch Us Ta Dr G0 N0 G1 N1 G2 N2 G3 N3 Fo2 Sc2 Se2 Tr2 Fo3 Sc3 Se3 Tr3 M N hR y3 i1 i2 i3 i4 i5 _ _ _ hP hD hS hl h1379
      by_cases hc2 : z = 2
      · refine lv_tableIn (off := 251) (tgt := 284) hx hb dL_law_33 (by rw [hc2]; decide) (by rw [hc2]; decide) (by rw [hc2]; decide) (by decide) ?_
        exact lw_c2 PP.2.2.1 LC1 Ma Fo Sc Se Tr Ch Us Ta Dr G0 N0 G1 N1 G2 N2 G3 N3 Fo2 Sc2 Se2 Tr2 Fo3 Sc3 Se3 Tr3 M N hR y3 i1 i2 i3 i4 i5 _ _ _ hP hD hS hl h1379
      by_cases hc3 : z = 3
      · refine lv_tableIn (off := 294) (tgt := 327) hx hb dL_law_33 (by rw [hc3]; decide) (by rw [hc3]; decide) (by rw [hc3]; decide) (by decide) ?_
        exact lw_c3 PP.2.2.2.1 LC1 Ma Fo Sc Se Tr Ch Us Ta Dr G0 N0 G1 N1 G2 N2 G3 N3 Fo2 Sc2 Se2 Tr2 Fo3 Sc3 Se3 Tr3 M N hR y3 i1 i2 i3 i4 i5 _ _ _ hP hD hS hl h1379
      by_cases hc4 : z = 4
      · refine lv_tableIn (off := 327) (tgt := 360) hx hb dL_law_33 (by rw [hc4]; decide) (by rw [hc4]; decide) (by rw [hc4]; decide) (by decide) ?_
        exact lw_c4 PP.2.2.2.2.1 LC1 Ma Fo Sc Se Tr Ch Us Ta Dr G0 N0 G1 N1 G2 N2 G3 N3 Fo2 Sc2 Se2 Tr2 Fo3 Sc3 Se3 Tr3 M N hR y3 i1 i2 i3 i4 i5 _ _ _ hP hD hS hl h1379
      by_cases hc5 : z = 5
      · refine lv_tableIn (off := 370) (tgt := 403) hx hb dL_law_33 (by rw [hc5]; decide) (by rw [hc5]; decide) (by rw [hc5]; decide) (by decide) ?_
        exact lw_c5 PP.2.2.2.2.2.1 LC1 Ma Fo Sc Se Tr Ch Us Ta Dr G0 N0 G1 N1 G2 N2 G3 N3 Fo2 Sc2 Se2 Tr2 Fo3 Sc3 Se3 Tr3 M N hR y3 i1 i2 i3 i4 i5 _ _ _ hP hD hS hl h1379
      by_cases hc6 : z = 6
      · refine lv_tableIn (off := 413) (tgt := 446) hx hb dL_law_33 (by rw [hc6]; decide) (by rw [hc6]; decide) (by rw [hc6]; decide) (by decide) ?_
        exact lw_c6 PP.2.2.2.2.2.2.1 LC1 Ma Fo Sc Se Tr Ch Us Ta Dr G0 N0 G1 N1 G2 N2 G3 N3 Fo2 Sc2 Se2 Tr2 Fo3 Sc3 Se3 Tr3 M N hR y3 i1 i2 i3 i4 i5 _ _ _ hP hD hS hl h1379
      by_cases hc7 : z = 7
      · refine lv_tableIn (off := 446) (tgt := 479) hx hb dL_law_33 (by rw [hc7]; decide) (by rw [hc7]; decide) (by rw [hc7]; decide) (by decide) ?_
        exact lw_c7 PP.2.2.2.2.2.2.2.1 LC1 Ma Fo Sc Se Tr Ch Us Ta Dr G0 N0 G1 N1 G2 N2 G3 N3 Fo2 Sc2 Se2 Tr2 Fo3 Sc3 Se3 Tr3 M N hR y3 i1 i2 i3 i4 i5 _ _ _ hP hD hS hl h1379
      by_cases hc8 : z = 8
      · refine lv_tableIn (off := 469) (tgt := 502) hx hb dL_law_33 (by rw [hc8]; decide) (by rw [hc8]; decide) (by rw [hc8]; decide) (by decide) ?_
        exact lw_c8 PP.2.2.2.2.2.2.2.2.1 LC1 Ma Fo Sc Se Tr Ch Us Ta Dr G0 N0 G1 N1 G2 N2 G3 N3 Fo2 Sc2 Se2 Tr2 Fo3 Sc3 Se3 Tr3 M N hR y3 i1 i2 i3 i4 i5 _ _ _ hP hD hS hl h1379
      by_cases hc9 : z = 9
      · refine lv_tableIn (off := 502) (tgt := 535) hx hb dL_law_33 (by rw [hc9]; decide) (by rw [hc9]; decide) (by rw [hc9]; decide) (by decide) ?_
        exact lw_c9 PP.2.2.2.2.2.2.2.2.2.1 LC1 Ma Fo Sc Se Tr Ch Us Ta Dr G0 N0 G1 N1 G2 N2 G3 N3 Fo2 Sc2 Se2 Tr2 Fo3 Sc3 Se3 Tr3 M N hR y3 i1 i2 i3 i4 i5 _ _ _ hP hD hS hl h1379
      by_cases hc10 : z = 10
      · refine lv_tableIn (off := 525) (tgt := 558) hx hb dL_law_33 (by rw [hc10]; decide) (by rw [hc10]; decide) (by rw [hc10]; decide) (by decide) ?_
        exact lw_c10 PP.2.2.2.2.2.2.2.2.2.2.1 LC1 Ma Fo Sc Se Tr Ch Us Ta Dr G0 N0 G1 N1 G2 N2 G3 N3 Fo2 Sc2 Se2 Tr2 Fo3 Sc3 Se3 Tr3 M N hR y3 i1 i2 i3 i4 i5 _ _ _ hP hD hS hl h1379
      by_cases hc11 : z = 11
      · refine lv_tableIn (off := 558) (tgt := 591) hx hb dL_law_33 (by rw [hc11]; decide) (by rw [hc11]; decide) (by rw [hc11]; decide) (by decide) ?_
        exact lw_c11 PP.2.2.2.2.2.2.2.2.2.2.2.1 LC1 Ma Fo Sc Se Tr Ch Us Ta Dr G0 N0 G1 N1 G2 N2 G3 N3 Fo2 Sc2 Se2 Tr2 Fo3 Sc3 Se3 Tr3 M N hR y3 i1 i2 i3 i4 i5 _ _ _ hP hD hS hl h1379
      by_cases hc12 : z = 12
      · refine lv_tableIn (off := 571) (tgt := 604) hx hb dL_law_33 (by rw [hc12]; decide) (by rw [hc12]; decide) (by rw [hc12]; decide) (by decide) ?_
        exact lw_c12 PP.2.2.2.2.2.2.2.2.2.2.2.2.1 LC1 Ma Fo Sc Se Tr Ch Us Ta Dr G0 N0 G1 N1 G2 N2 G3 N3 Fo2 Sc2 Se2 Tr2 Fo3 Sc3 Se3 Tr3 M N hR y3 i1 i2 i3 i4 i5 _ _ _ hP hD hS hl h1379
      by_cases hc13 : z = 13
      · refine lv_tableIn (off := 594) (tgt := 627) hx hb dL_law_33 (by rw [hc13]; decide) (by rw [hc13]; decide) (by rw [hc13]; decide) (by decide) ?_
        exact lw_c13 PP.2.2.2.2.2.2.2.2.2.2.2.2.2.1 LC1 Ma Fo Sc Se Tr Ch Us Ta Dr G0 N0 G1 N1 G2 N2 G3 N3 Fo2 Sc2 Se2 Tr2 Fo3 Sc3 Se3 Tr3 M N hR y3 i1 i2 i3 i4 i5 _ _ _ hP hD hS hl h1379
      by_cases hc14 : z = 14
      · refine lv_tableIn (off := 617) (tgt := 650) hx hb dL_law_33 (by rw [hc14]; decide) (by rw [hc14]; decide) (by rw [hc14]; decide) (by decide) ?_
        exact lw_c14 PP.2.2.2.2.2.2.2.2.2.2.2.2.2.2.1 LC1 Ma Fo Sc Se Tr Ch Us Ta Dr G0 N0 G1 N1 G2 N2 G3 N3 Fo2 Sc2 Se2 Tr2 Fo3 Sc3 Se3 Tr3 M N hR y3 i1 i2 i3 i4 i5 _ _ _ hP hD hS hl h1379
      by_cases hc15 : z = 15
      · refine lv_tableIn (off := 640) (tgt := 673) hx hb dL_law_33 (by rw [hc15]; decide) (by rw [hc15]; decide) (by rw [hc15]; decide) (by decide) ?_
        exact lw_c15 PP.2.2.2.2.2.2.2.2.2.2.2.2.2.2.2.1 LC1 Ma Fo Sc Se Tr Ch Us Ta Dr G0 N0 G1 N1 G2 N2 G3 N3 Fo2 Sc2 Se2 Tr2 Fo3 Sc3 Se3 Tr3 M N hR y3 i1 i2 i3 i4 i5 _ _ _ hP hD hS hl h1379
      by_cases hc16 : z = 16
      · refine lv_tableIn (off := 663) (tgt := 696) hx hb dL_law_33 (by rw [hc16]; decide) (by rw [hc16]; decide) (by rw [hc16]; decide) (by decide) ?_
        exact lw_c16 PP.2.2.2.2.2.2.2.2.2.2.2.2.2.2.2.2.1 LC1 Ma Fo Sc Se Tr Ch Us Ta Dr G0 N0 G1 N1 G2 N2 G3 N3 Fo2 Sc2 Se2 Tr2 Fo3 Sc3 Se3 Tr3 M N hR y3 i1 i2 i3 i4 i5 _ _ _ hP hD hS hl h1379
      by_cases hc17 : z = 17
      · refine lv_tableIn (off := 676) (tgt := 709) hx hb dL_law_33 (by rw [hc17]; decide) (by rw [hc17]; decide) (by rw [hc17]; decide) (by decide) ?_
        exact lw_c17 PP.2.2.2.2.2.2.2.2.2.2.2.2.2.2.2.2.2.1 LC1 Ma Fo Sc Se Tr Ch Us Ta Dr G0 N0 G1 N1 G2 N2 G3 N3 Fo2 Sc2 Se2 Tr2 Fo3 Sc3 Se3 Tr3 M N hR y3 i1 i2 i3 i4 i5 _ _ _ hP hD hS hl h1379
      by_cases hc18 : z = 18
      · refine lv_tableIn (off := 699) (tgt := 732) hx hb dL_law_33 (by rw [hc18]; decide) (by rw [hc18]; decide) (by rw [hc18]; decide) (by decide) ?_
        exact lw_c18 PP.2.2.2.2.2.2.2.2.2.2.2.2.2.2.2.2.2.2.1 LC1 Ma Fo Sc Se Tr Ch Us Ta Dr G0 N0 G1 N1 G2 N2 G3 N3 Fo2 Sc2 Se2 Tr2 Fo3 Sc3 Se3 Tr3 M N hR y3 i1 i2 i3 i4 i5 _ _ _ hP hD hS hl h1379
      by_cases hc19 : z = 19
      · refine lv_tableIn (off := 732) (tgt := 765) hx hb dL_law_33 (by rw [hc19]; decide) (by rw [hc19]; decide) (by rw [hc19]; decide) (by decide) ?_
        exact lw_c19 PP.2.2.2.2.2.2.2.2.2.2.2.2.2.2.2.2.2.2.2.1 LC1 Ma Fo Sc Se Tr Ch Us Ta Dr G0 N0 G1 N1 G2 N2 G3 N3 Fo2 Sc2 Se2 Tr2 Fo3 Sc3 Se3 Tr3 M N hR y3 i1 i2 i3 i4 i5 _ _ _ hP hD hS hl h1379
      by_cases hc20 : z = 20
      · refine lv_tableIn (off := 765) (tgt := 798) hx hb dL_law_33 (by rw [hc20]; decide) (by rw [hc20]; decide) (by rw [hc20]; decide) (by decide) ?_
        exact lw_c20 PP.2.2.2.2.2.2.2.2.2.2.2.2.2.2.2.2.2.2.2.2.1 LC1 Ma Fo Sc Se Tr Ch Us Ta Dr G0 N0 G1 N1 G2 N2 G3 N3 Fo2 Sc2 Se2 Tr2 Fo3 Sc3 Se3 Tr3 M N hR y3 i1 i2 i3 i4 i5 _ _ _ hP hD hS hl h1379
      by_cases hc21 : z = 21
      · refine lv_tableIn (off := 808) (tgt := 841) hx hb dL_law_33 (by rw [hc21]; decide) (by rw [hc21]; decide) (by rw [hc21]; decide) (by decide) ?_
        exact lw_c21 PP.2.2.2.2.2.2.2.2.2.2.2.2.2.2.2.2.2.2.2.2.2.1 LC1 Ma Fo Sc Se Tr Ch Us Ta Dr G0 N0 G1 N1 G2 N2 G3 N3 Fo2 Sc2 Se2 Tr2 Fo3 Sc3 Se3 Tr3 M N hR y3 i1 i2 i3 i4 i5 _ _ _ hP hD hS hl h1379
      by_cases hc22 : z = 22
      · refine lv_tableIn (off := 821) (tgt := 854) hx hb dL_law_33 (by rw [hc22]; decide) (by rw [hc22]; decide) (by rw [hc22]; decide) (by decide) ?_
        exact lw_c22 PP.2.2.2.2.2.2.2.2.2.2.2.2.2.2.2.2.2.2.2.2.2.2.1 LC1 Ma Fo Sc Se Tr Ch Us Ta Dr G0 N0 G1 N1 G2 N2 G3 N3 Fo2 Sc2 Se2 Tr2 Fo3 Sc3 Se3 Tr3 M N hR y3 i1 i2 i3 i4 i5 _ _ _ hP hD hS hl h1379
      by_cases hc23 : z = 23
      · refine lv_tableIn (off := 864) (tgt := 897) hx hb dL_law_33 (by rw [hc23]; decide) (by rw [hc23]; decide) (by rw [hc23]; decide) (by decide) ?_
        exact lw_c23 PP.2.2.2.2.2.2.2.2.2.2.2.2.2.2.2.2.2.2.2.2.2.2.2.1 LC1 Ma Fo Sc Se Tr Ch Us Ta Dr G0 N0 G1 N1 G2 N2 G3 N3 Fo2 Sc2 Se2 Tr2 Fo3 Sc3 Se3 Tr3 M N hR y3 i1 i2 i3 i4 i5 _ _ _ hP hD hS hl h1379
      by_cases hc24 : z = 24
      · refine lv_tableIn (off := 887) (tgt := 920) hx hb dL_law_33 (by rw [hc24]; decide) (by rw [hc24]; decide) (by rw [hc24]; decide) (by decide) ?_
        exact lw_c24 PP.2.2.2.2.2.2.2.2.2.2.2.2.2.2.2.2.2.2.2.2.2.2.2.2.1 LC1 Ma Fo Sc Se Tr Ch Us Ta Dr G0 N0 G1 N1 G2 N2 G3 N3 Fo2 Sc2 Se2 Tr2 Fo3 Sc3 Se3 Tr3 M N hR y3 i1 i2 i3 i4 i5 _ _ _ hP hD hS hl h1379
      by_cases hc25 : z = 25
      · refine lv_tableIn (off := 920) (tgt := 953) hx hb dL_law_33 (by rw [hc25]; decide) (by rw [hc25]; decide) (by rw [hc25]; decide) (by decide) ?_
        exact lw_c25 PP.2.2.2.2.2.2.2.2.2.2.2.2.2.2.2.2.2.2.2.2.2.2.2.2.2.1 LC1 Ma Fo Sc Se Tr Ch Us Ta Dr G0 N0 G1 N1 G2 N2 G3 N3 Fo2 Sc2 Se2 Tr2 Fo3 Sc3 Se3 Tr3 M N hR y3 i1 i2 i3 i4 i5 _ _ _ hP hD hS hl h1379
      by_cases hc26 : z = 26
      · refine lv_tableIn (off := 953) (tgt := 986) hx hb dL_law_33 (by rw [hc26]; decide) (by rw [hc26]; decide) (by rw [hc26]; decide) (by decide) ?_
        exact lw_c26 PP.2.2.2.2.2.2.2.2.2.2.2.2.2.2.2.2.2.2.2.2.2.2.2.2.2.2.1 LC1 Ma Fo Sc Se Tr Ch Us Ta Dr G0 N0 G1 N1 G2 N2 G3 N3 Fo2 Sc2 Se2 Tr2 Fo3 Sc3 Se3 Tr3 M N hR y3 i1 i2 i3 i4 i5 _ _ _ hP hD hS hl h1379
      by_cases hc27 : z = 27
      · refine lv_tableIn (off := 966) (tgt := 999) hx hb dL_law_33 (by rw [hc27]; decide) (by rw [hc27]; decide) (by rw [hc27]; decide) (by decide) ?_
        exact lw_c27 PP.2.2.2.2.2.2.2.2.2.2.2.2.2.2.2.2.2.2.2.2.2.2.2.2.2.2.2.1 LC1 Ma Fo Sc Se Tr Ch Us Ta Dr G0 N0 G1 N1 G2 N2 G3 N3 Fo2 Sc2 Se2 Tr2 Fo3 Sc3 Se3 Tr3 M N hR y3 i1 i2 i3 i4 i5 _ _ _ hP hD hS hl h1379
      by_cases hc28 : z = 28
      · refine lv_tableIn (off := 979) (tgt := 1012) hx hb dL_law_33 (by rw [hc28]; decide) (by rw [hc28]; decide) (by rw [hc28]; decide) (by decide) ?_
        exact lw_c28 PP.2.2.2.2.2.2.2.2.2.2.2.2.2.2.2.2.2.2.2.2.2.2.2.2.2.2.2.2.1 LC1 Ma Fo Sc Se Tr Ch Us Ta Dr G0 N0 G1 N1 G2 N2 G3 N3 Fo2 Sc2 Se2 Tr2 Fo3 Sc3 Se3 Tr3 M N hR y3 i1 i2 i3 i4 i5 _ _ _ hP hD hS hl h1379
      by_cases hc29 : z = 29
      · refine lv_tableIn (off := 1012) (tgt := 1045) hx hb dL_law_33 (by rw [hc29]; decide) (by rw [hc29]; decide) (by rw [hc29]; decide) (by decide) ?_
        exact lw_c29 PP.2.2.2.2.2.2.2.2.2.2.2.2.2.2.2.2.2.2.2.2.2.2.2.2.2.2.2.2.2.1 LC1 Ma Fo Sc Se Tr Ch Us Ta Dr G0 N0 G1 N1 G2 N2 G3 N3 Fo2 Sc2 Se2 Tr2 Fo3 Sc3 Se3 Tr3 M N hR y3 i1 i2 i3 i4 i5 _ _ _ hP hD hS hl h1379
      by_cases hc30 : z = 30
      · refine lv_tableIn (off := 1025) (tgt := 1058) hx hb dL_law_33 (by rw [hc30]; decide) (by rw [hc30]; decide) (by rw [hc30]; decide) (by decide) ?_
        exact lw_c30 PP.2.2.2.2.2.2.2.2.2.2.2.2.2.2.2.2.2.2.2.2.2.2.2.2.2.2.2.2.2.2.1 LC1 Ma Fo Sc Se Tr Ch Us Ta Dr G0 N0 G1 N1 G2 N2 G3 N3 Fo2 Sc2 Se2 Tr2 Fo3 Sc3 Se3 Tr3 M N hR y3 i1 i2 i3 i4 i5 _ _ _ hP hD hS hl h1379
      by_cases hc31 : z = 31
      · refine lv_tableIn (off := 1068) (tgt := 1101) hx hb dL_law_33 (by rw [hc31]; decide) (by rw [hc31]; decide) (by rw [hc31]; decide) (by decide) ?_
        exact lw_c31 PP.2.2.2.2.2.2.2.2.2.2.2.2.2.2.2.2.2.2.2.2.2.2.2.2.2.2.2.2.2.2.2.1 LC1 Ma Fo Sc Se Tr Ch Us Ta Dr G0 N0 G1 N1 G2 N2 G3 N3 Fo2 Sc2 Se2 Tr2 Fo3 Sc3 Se3 Tr3 M N hR y3 i1 i2 i3 i4 i5 _ _ _ hP hD hS hl h1379
      by_cases hc32 : z = 32
      · refine lv_tableIn (off := 1142) (tgt := 1175) hx hb dL_law_33 (by rw [hc32]; decide) (by rw [hc32]; decide) (by rw [hc32]; decide) (by decide) ?_
        exact lw_c32 PP.2.2.2.2.2.2.2.2.2.2.2.2.2.2.2.2.2.2.2.2.2.2.2.2.2.2.2.2.2.2.2.2.1 LC1 Ma Fo Sc Se Tr Ch Us Ta Dr G0 N0 G1 N1 G2 N2 G3 N3 Fo2 Sc2 Se2 Tr2 Fo3 Sc3 Se3 Tr3 M N hR y3 i1 i2 i3 i4 i5 _ _ _ hP hD hS hl h1379
      by_cases hc33 : z = 33
      · refine lv_tableIn (off := 1205) (tgt := 1238) hx hb dL_law_33 (by rw [hc33]; decide) (by rw [hc33]; decide) (by rw [hc33]; decide) (by decide) ?_
        exact lw_c33 PP.2.2.2.2.2.2.2.2.2.2.2.2.2.2.2.2.2.2.2.2.2.2.2.2.2.2.2.2.2.2.2.2.2.1 LC1 Ma Fo Sc Se Tr Ch Us Ta Dr G0 N0 G1 N1 G2 N2 G3 N3 Fo2 Sc2 Se2 Tr2 Fo3 Sc3 Se3 Tr3 M N hR y3 i1 i2 i3 i4 i5 _ _ _ hP hD hS hl h1379
      by_cases hc34 : z = 34
      · refine lv_tableIn (off := 1238) (tgt := 1271) hx hb dL_law_33 (by rw [hc34]; decide) (by rw [hc34]; decide) (by rw [hc34]; decide) (by decide) ?_
        exact lw_c34 PP.2.2.2.2.2.2.2.2.2.2.2.2.2.2.2.2.2.2.2.2.2.2.2.2.2.2.2.2.2.2.2.2.2.2.1 LC1 Ma Fo Sc Se Tr Ch Us Ta Dr G0 N0 G1 N1 G2 N2 G3 N3 Fo2 Sc2 Se2 Tr2 Fo3 Sc3 Se3 Tr3 M N hR y3 i1 i2 i3 i4 i5 _ _ _ hP hD hS hl h1379
      by_cases hc35 : z = 35
      · refine lv_tableIn (off := 1261) (tgt := 1294) hx hb dL_law_33 (by rw [hc35]; decide) (by rw [hc35]; decide) (by rw [hc35]; decide) (by decide) ?_
        exact lw_c35 PP.2.2.2.2.2.2.2.2.2.2.2.2.2.2.2.2.2.2.2.2.2.2.2.2.2.2.2.2.2.2.2.2.2.2.2.1 LC1 Ma Fo Sc Se Tr Ch Us Ta Dr G0 N0 G1 N1 G2 N2 G3 N3 Fo2 Sc2 Se2 Tr2 Fo3 Sc3 Se3 Tr3 M N hR y3 i1 i2 i3 i4 i5 _ _ _ hP hD hS hl h1379
      by_cases hc36 : z = 36
      · refine lv_tableIn (off := 1274) (tgt := 1307) hx hb dL_law_33 (by rw [hc36]; decide) (by rw [hc36]; decide) (by rw [hc36]; decide) (by decide) ?_
        exact lw_c36 PP.2.2.2.2.2.2.2.2.2.2.2.2.2.2.2.2.2.2.2.2.2.2.2.2.2.2.2.2.2.2.2.2.2.2.2.2.1 LC1 Ma Fo Sc Se Tr Ch Us Ta Dr G0 N0 G1 N1 G2 N2 G3 N3 Fo2 Sc2 Se2 Tr2 Fo3 Sc3 Se3 Tr3 M N hR y3 i1 i2 i3 i4 i5 _ _ _ hP hD hS hl h1379
      by_cases hc37 : z = 37
      · refine lv_tableIn (off := 1287) (tgt := 1320) hx hb dL_law_33 (by rw [hc37]; decide) (by rw [hc37]; decide) (by rw [hc37]; decide) (by decide) ?_
        exact lw_c37 PP.2.2.2.2.2.2.2.2.2.2.2.2.2.2.2.2.2.2.2.2.2.2.2.2.2.2.2.2.2.2.2.2.2.2.2.2.2.1 LC1 Ma Fo Sc Se Tr Ch Us Ta Dr G0 N0 G1 N1 G2 N2 G3 N3 Fo2 Sc2 Se2 Tr2 Fo3 Sc3 Se3 Tr3 M N hR y3 i1 i2 i3 i4 i5 _ _ _ hP hD hS hl h1379
      by_cases hc38 : z = 38
      · refine lv_tableIn (off := 1300) (tgt := 1333) hx hb dL_law_33 (by rw [hc38]; decide) (by rw [hc38]; decide) (by rw [hc38]; decide) (by decide) ?_
        exact lw_c38 PP.2.2.2.2.2.2.2.2.2.2.2.2.2.2.2.2.2.2.2.2.2.2.2.2.2.2.2.2.2.2.2.2.2.2.2.2.2.2.1 LC1 Ma Fo Sc Se Tr Ch Us Ta Dr G0 N0 G1 N1 G2 N2 G3 N3 Fo2 Sc2 Se2 Tr2 Fo3 Sc3 Se3 Tr3 M N hR y3 i1 i2 i3 i4 i5 _ _ _ hP hD hS hl h1379
      by_cases hc39 : z = 39
      · refine lv_tableIn (off := 1323) (tgt := 1356) hx hb dL_law_33 (by rw [hc39]; decide) (by rw [hc39]; decide) (by rw [hc39]; decide) (by decide) ?_
        exact lw_c39 PP.2.2.2.2.2.2.2.2.2.2.2.2.2.2.2.2.2.2.2.2.2.2.2.2.2.2.2.2.2.2.2.2.2.2.2.2.2.2.2 LC1 Ma Fo Sc Se Tr Ch Us Ta Dr G0 N0 G1 N1 G2 N2 G3 N3 Fo2 Sc2 Se2 Tr2 Fo3 Sc3 Se3 Tr3 M N hR y3 i1 i2 i3 i4 i5 _ _ _ hP hD hS hl h1379
      have nh0 := sw_ne (a := 0) hc0 (by decide)
      have nh1 := sw_ne (a := 1) hc1 (by decide)
      have nh2 := sw_ne (a := 2) hc2 (by decide)
      have nh3 := sw_ne (a := 3) hc3 (by decide)
      have nh4 := sw_ne (a := 4) hc4 (by decide)
      have nh5 := sw_ne (a := 5) hc5 (by decide)
      have nh6 := sw_ne (a := 6) hc6 (by decide)
      have nh7 := sw_ne (a := 7) hc7 (by decide)
      have nh8 := sw_ne (a := 8) hc8 (by decide)
      have nh9 := sw_ne (a := 9) hc9 (by decide)
      have nh10 := sw_ne (a := 10) hc10 (by decide)
      have nh11 := sw_ne (a := 11) hc11 (by decide)
      have nh12 := sw_ne (a := 12) hc12 (by decide)
      have nh13 := sw_ne (a := 13) hc13 (by decide)
      have nh14 := sw_ne (a := 14) hc14 (by decide)
      have nh15 := sw_ne (a := 15) hc15 (by decide)
      have nh16 := sw_ne (a := 16) hc16 (by decide)
      have nh17 := sw_ne (a := 17) hc17 (by decide)
      have nh18 := sw_ne (a := 18) hc18 (by decide)
      have nh19 := sw_ne (a := 19) hc19 (by decide)
      have nh20 := sw_ne (a := 20) hc20 (by decide)
      have nh21 := sw_ne (a := 21) hc21 (by decide)
      have nh22 := sw_ne (a := 22) hc22 (by decide)
      have nh23 := sw_ne (a := 23) hc23 (by decide)
      have nh24 := sw_ne (a := 24) hc24 (by decide)
      have nh25 := sw_ne (a := 25) hc25 (by decide)
      have nh26 := sw_ne (a := 26) hc26 (by decide)
      have nh27 := sw_ne (a := 27) hc27 (by decide)
      have nh28 := sw_ne (a := 28) hc28 (by decide)
      have nh29 := sw_ne (a := 29) hc29 (by decide)
      have nh30 := sw_ne (a := 30) hc30 (by decide)
      have nh31 := sw_ne (a := 31) hc31 (by decide)
      have nh32 := sw_ne (a := 32) hc32 (by decide)
      have nh33 := sw_ne (a := 33) hc33 (by decide)
      have nh34 := sw_ne (a := 34) hc34 (by decide)
      have nh35 := sw_ne (a := 35) hc35 (by decide)
      have nh36 := sw_ne (a := 36) hc36 (by decide)
      have nh37 := sw_ne (a := 37) hc37 (by decide)
      have nh38 := sw_ne (a := 38) hc38 (by decide)
      have nh39 := sw_ne (a := 39) hc39 (by decide)
      refine lv_tableOut (tgt := 1379) hx hb dL_law_33 (by omega) (by decide) ?_
      exact h1379 Ma Fo Sc Se Tr Ch Us Ta Dr G0 N0 G1 N1 G2 N2 G3 N3 Fo2 Sc2 Se2 Tr2 Fo3 Sc3 Se3 Tr3 M N hR _ _ hP hD hS
def RR0 (RR : RT) : Prop := RR i7 i1 i3 i4 i4 i0 i4 i6 i3 i5 (fun _ => 0) i5 (fun _ => 0) i5 (fun _ => 0) i5 (fun _ => 0) i1 i3 i4 i4 i1 i3 i4 i4 i8 (fun _ => 0)
theorem known_all {args : Array Value} {s : State} (hu : ∀ w ∈ uw, w.before args s = true) : ∃ (dC : Nat → ClassId) (dI : Nat → Nat → Nat), ∀ (k : Nat) (q : vw_C), vwCl[k]? = some q → u_Kn s q.1 q.2.1 q.2.2 (dC k) (dI k) := by
  obtain ⟨c0, iS0, k0⟩ := u_known (C := RX0) (T := TX0) (N := 8) (n := 8) hu inX0 (hu _ q215)
  obtain ⟨c1, iS1, k1⟩ := u_known (C := RX1) (T := TX1) (N := 9) (n := 9) hu inX1 (hu _ q87)
  obtain ⟨c2, iS2, k2⟩ := u_known (C := RX2) (T := TX2) (N := 4) (n := 4) hu inX2 (hu _ q81)
  obtain ⟨c3, iS3, k3⟩ := u_known (C := RX3) (T := TX3) (N := 3) (n := 3) hu inX3 (hu _ q135)
  obtain ⟨c4, iS4, k4⟩ := u_known (C := RX4) (T := TX4) (N := 10) (n := 10) hu inX4 (hu _ q153)
  obtain ⟨c5, iS5, k5⟩ := u_known (C := RX5) (T := TX5) (N := 3) (n := 3) hu inX5 (hu _ q281)
  obtain ⟨c6, iS6, k6⟩ := u_known (C := RX6) (T := TX6) (N := 5) (n := 5) hu inX6 (hu _ q252)
  obtain ⟨c7, iS7, k7⟩ := u_known (C := RX7) (T := TX7) (N := 8) (n := 8) hu inX7 (hu _ q73)
  obtain ⟨c8, iS8, k8⟩ := u_known (C := RX8) (T := TX8) (N := 26) (n := 26) hu inX8 (hu _ q912)
  refine ⟨fun k => match k with | 0 => c0 | 1 => c1 | 2 => c2 | 3 => c3 | 4 => c4 | 5 => c5 | 6 => c6 | 7 => c7 | _ => c8, fun k => match k with | 0 => iS0 | 1 => iS1 | 2 => iS2 | 3 => iS3 | 4 => iS4 | 5 => iS5 | 6 => iS6 | 7 => iS7 | _ => iS8, ?_⟩
  intro k q hq
  match k, hq with
  | 0, hq => cases hq; exact k0
  | 1, hq => cases hq; exact k1
  | 2, hq => cases hq; exact k2
  | 3, hq => cases hq; exact k3
  | 4, hq => cases hq; exact k4
  | 5, hq => cases hq; exact k5
  | 6, hq => cases hq; exact k6
  | 7, hq => cases hq; exact k7
  | 8, hq => cases hq; exact k8
  | k + 9, hq => exact absurd (List.getElem?_eq_some_iff.mp hq).1 (by show ¬ k + 9 < 9; omega)
theorem arr_of {args : Array Value} {s : State} {ty : FieldType} (hnr : ∀ C, ty ≠ .object C) (h : (Cond.arrayClass ty).before args s = true) : ∃ cA : ClassId, ArrOfT s cA ty ∧ va_RA s cA ty := by
  obtain ⟨cA, k, comp, h1, h2, h3⟩ := Cond.arrayClass_spec h
  refine ⟨cA, fun n z => ⟨fun k h => (by cases h), k, h2, comp, h3⟩, ?_⟩
  cases ty with
  | object C => exact absurd rfl (hnr C)
  | _ => exact h1
theorem arr_ofS {args : Array Value} {s : State} {C : String} (h : (Cond.arrayOver (.object C)).before args s = true) : ∃ cA : ClassId, ArrOfT s cA (.object C) ∧ va_RA s cA (.object C) := by
  obtain ⟨comp, cA, k, h1, h2, h3, h4, h5⟩ := Cond.arrayOver_spec h
  exact ⟨cA, fun n z => ⟨fun k h => (by cases h), k, h3, comp, h4⟩, k, comp, h3, h4, h1, h5⟩
theorem tab_of {args : Array Value} {s : State} {n : String} {N : Nat} {f : Nat → Int32} (hN : N < 2 ^ 31) (hl : (Cond.laysStatic "NextButOne" n "[I").before args s = true) (hini : (Cond.initialized "NextButOne").before args s = true) (harr : (Cond.arrayOf (.static "NextButOne" n "[I") .int).before args s = true) (hlen : (Cond.eq (.length (.static "NextButOne" n "[I")) (.int (Int32.ofNat N))).before args s = true) (hel : ∀ j : Nat, j < N → (Cond.eq (.elem (.static "NextButOne" n "[I") (.int (Int32.ofNat j))) (.int (f j))).before args s = true) : ∃ t : Nat, va_Z "NextButOne" n "[I" (.ref t) (lwA s) s s.heap ∧ va_T .int t N (fun j => .int (f j)) (lwA s) s s.heap := by
  have hA : ∀ a : Nat, a < s.heap.size → ¬ lwA s a := fun a h => Nat.not_le.mpr h
  obtain ⟨t, h1, h2⟩ := va_Tof (A := lwA s) (f := fun j => .int (f j)) hN harr (va_eqt hlen) (fun j hj => va_eqt (hel j hj)) hA
  exact ⟨t, va_Zof hl hini h1 hA, h2⟩

set_option maxRecDepth 100000 in
set_option maxHeartbeats 4000000 in
theorem stat_all {s : State} {b : Nat} (hts : ∀ w ∈ lw_tbl, w.before #[Value.ref b] s = true) (hgv : (Jvm.Cond.and given_1 narrow_1).before #[Value.ref b] s = true) : ∃ (t0 t1 t2 t3 t4 : Nat), (va_Z "NextButOne" "KIND_ABOVE" "[I" (.ref t0) (lwA s) s s.heap ∧ va_T .int t0 7 (fun j => .int (tabK j)) (lwA s) s s.heap) ∧ (va_Z "NextButOne" "RULE_LEAST" "[I" (.ref t1) (lwA s) s s.heap ∧ va_T .int t1 6 (fun j => .int (tabL j)) (lwA s) s s.heap) ∧ (va_Z "NextButOne" "RULE_MOST" "[I" (.ref t2) (lwA s) s s.heap ∧ va_T .int t2 6 (fun j => .int (tabM j)) (lwA s) s s.heap) ∧ va_Z "java/lang/String" "COMPACT_STRINGS" "Z" (.int 1) (lwA s) s s.heap ∧ vk_R "NextButOne$Tape" 73 "laswrn" t3 s ∧ vk_S 1 [6] [[108, 97, 115, 119, 114, 110]] (fun _ => t3) (fun _ => t4) (lwA s) s s.heap := by
  have hs := flat_of_before _ hgv
  have hA : ∀ a : Nat, a < s.heap.size → ¬ lwA s a := fun a h => Nat.not_le.mpr h
  obtain ⟨t0, zt0⟩ := tab_of (n := "KIND_ABOVE") (N := 7) (f := tabK) (by decide) (hts _ (List.mem_of_getElem? (i := 464) rfl)) (hts _ (List.mem_of_getElem? (i := 54) rfl)) (hs _ (by decide +kernel)) (hs _ (by decide +kernel)) (fun j hj => by
    match j, hj with
    | 0, _ => exact hs _ (by decide +kernel)
    | 1, _ => exact hs _ (by decide +kernel)
    | 2, _ => exact hs _ (by decide +kernel)
    | 3, _ => exact hs _ (by decide +kernel)
    | 4, _ => exact hs _ (by decide +kernel)
    | 5, _ => exact hs _ (by decide +kernel)
    | 6, _ => exact hs _ (by decide +kernel)
    )
  obtain ⟨t1, zt1⟩ := tab_of (n := "RULE_LEAST") (N := 6) (f := tabL) (by decide) (hts _ (List.mem_of_getElem? (i := 483) rfl)) (hts _ (List.mem_of_getElem? (i := 54) rfl)) (hs _ (by decide +kernel)) (hs _ (by decide +kernel)) (fun j hj => by
    match j, hj with
    | 0, _ => exact hs _ (by decide +kernel)
    | 1, _ => exact hs _ (by decide +kernel)
    | 2, _ => exact hs _ (by decide +kernel)
    | 3, _ => exact hs _ (by decide +kernel)
    | 4, _ => exact hs _ (by decide +kernel)
    | 5, _ => exact hs _ (by decide +kernel)
    )
  obtain ⟨t2, zt2⟩ := tab_of (n := "RULE_MOST") (N := 6) (f := tabM) (by decide) (hts _ (List.mem_of_getElem? (i := 485) rfl)) (hts _ (List.mem_of_getElem? (i := 54) rfl)) (hs _ (by decide +kernel)) (hs _ (by decide +kernel)) (fun j hj => by
    match j, hj with
    | 0, _ => exact hs _ (by decide +kernel)
    | 1, _ => exact hs _ (by decide +kernel)
    | 2, _ => exact hs _ (by decide +kernel)
    | 3, _ => exact hs _ (by decide +kernel)
    | 4, _ => exact hs _ (by decide +kernel)
    | 5, _ => exact hs _ (by decide +kernel)
    )
  have zc := va_Zof (A := lwA s) (hts _ (List.mem_of_getElem? (i := 740) rfl)) (hts _ (List.mem_of_getElem? (i := 66) rfl)) (va_eqi (z := 1) (hs _ (by decide +kernel))) hA
  obtain ⟨adK, adV, hS, hev⟩ := vk_Sof (A := lwA s) (N := 1) (tm := fun _ => Term.string "NextButOne$Tape" 73) (len := [6]) (byt := [[108, 97, 115, 119, 114, 110]]) (args := #[Value.ref b]) (s := s) (by decide : ∀ i : Nat, i < 1 → ([6] : List Nat).getD i 0 < 2 ^ 31)
    (fun i hi => hs _ (by decide +kernel)) (fun i hi => hs _ (by decide +kernel)) (fun i hi => hs _ (by decide +kernel)) (fun i hi => by
      have : i = 0 := by omega
      subst this
      exact hs _ (by decide +kernel)) (fun i hi j hj => by
      have : i = 0 := by omega
      subst this
      match j, hj with
      | 0, _ => exact hs _ (by decide +kernel)
      | 1, _ => exact hs _ (by decide +kernel)
      | 2, _ => exact hs _ (by decide +kernel)
      | 3, _ => exact hs _ (by decide +kernel)
      | 4, _ => exact hs _ (by decide +kernel)
      | 5, _ => exact hs _ (by decide +kernel)
      | k + 6, hj => exact absurd hj (by show ¬ k + 6 < 6; omega)) (fun i j hi hj hij => absurd (by omega) hij) hA
  refine ⟨t0, t1, t2, adK 0, adV 0, zt0, zt1, zt2, zc, vk_R.of (hts _ (List.mem_of_getElem? (i := 726) rfl)) (hev 0 (by decide)), fun i hi => ?_, fun i j hi hj _ => by omega⟩
  have : i = 0 := by omega
  subst this
  exact hS.1 0 (by decide)
set_option maxRecDepth 100000 in
set_option maxHeartbeats 4000000 in
theorem law_start {p : Program} {e : Env} {s : State} {m : MethodId} {below : List Frame} {meth : Method} {c : Code} (l : Launch) {b L : Nat} {xs : Nat → Int32} (hL : L ≤ 384) (C0 : lw_At p s m meth c b L xs) {RR : RT} (PP : PPall RR) (h0 : RR0 RR) : W p l e room_1 s m #[Value.ref b] below meth c s.heap [] 0 0 (lw_Z below #[Value.ref b] s) (entryFrame m ([Value.ref b] : List Value).toArray 4) := by
  obtain ⟨hx, hb, hr, hml, hown, hts, hX, hbl, hlocks, hgv⟩ := id C0
  have hu : ∀ w ∈ uw, w.before #[Value.ref b] s = true := fun w h => hts w (List.mem_filter.mp h).1
  have hA : ∀ q : Nat, s.heap.size ≤ q → lwA s q := fun _ h => h
  have hbA : ¬ lwA s b := Nat.not_le.mpr hbl
  obtain ⟨dC, dI, hKc⟩ := known_all hu
  obtain ⟨cI, aI, bI⟩ := arr_of (ty := .int) (fun _ h => by cases h) (hu _ q133)
  obtain ⟨cJ, aJ, bJ⟩ := arr_of (ty := .long) (fun _ h => by cases h) (hu _ q299)
  obtain ⟨cC, aC, bC⟩ := arr_of (ty := .char) (fun _ h => by cases h) (hu _ q278)
  obtain ⟨cZ, aZ, bZ⟩ := arr_of (ty := .boolean) (fun _ h => by cases h) (hu _ q996)
  obtain ⟨cO, aO, bO⟩ := arr_ofS (C := "NextButOne$Sheet") (hts _ (List.mem_of_getElem? (i := 280) rfl))
  obtain ⟨t0, t1, t2, t3, t4, hz⟩ := stat_all hts hgv
  obtain ⟨cs, hcs⟩ : ∃ cs : Nat → ClassId, cs = fun i => match i with | 0 => cI | 1 => cJ | 2 => cC | 3 => cZ | 4 => cO | 10 => t0 | 11 => t1 | 12 => t2 | 13 => t3 | 14 => t4 | _ => 0 := ⟨_, rfl⟩
  have hK : gK (dC, dI) cs s := by
    refine ⟨⟨hKc, fun k q hq => ?_⟩, va_Nw.of rfl (hts _ (List.mem_of_getElem? (i := 361) rfl)), va_Nw.of rfl (hts _ (List.mem_of_getElem? (i := 382) rfl))⟩
    rw [hcs] at hq
    match k, hq with
    | 0, hq => cases hq; exact ⟨aI, bI⟩
    | 1, hq => cases hq; exact ⟨aJ, bJ⟩
    | 2, hq => cases hq; exact ⟨aC, bC⟩
    | 3, hq => cases hq; exact ⟨aZ, bZ⟩
    | 4, hq => cases hq; exact ⟨aO, bO⟩
    | k + 5, hq => exact absurd (List.getElem?_eq_some_iff.mp hq).1 (by show ¬ k + 5 < 5; omega)
  have hZ : gZ cs (lwA s) s := by rw [hcs]; exact hz
  have hN : gN s := ⟨va_Nw.of rfl (hts _ (List.mem_of_getElem? (i := 82) rfl)), va_Nw.of rfl (hts _ (List.mem_of_getElem? (i := 88) rfl)), va_Nw.of rfl (hts _ (List.mem_of_getElem? (i := 136) rfl)), va_Nw.of rfl (hts _ (List.mem_of_getElem? (i := 253) rfl)), va_Nw.of rfl (hts _ (List.mem_of_getElem? (i := 258) rfl)), va_Nw.of rfl (hts _ (List.mem_of_getElem? (i := 282) rfl)), va_AO.of (hts _ (List.mem_of_getElem? (i := 280) rfl))⟩
  have hS : va_S (lwA s) s.heap s.heap [] := va_S.rf
  have hP : va_P (dC, dI) vwCl [] s.heap := fun k q h => by simp at h
  have hD : va_D (lwA s) [] := ⟨fun i j p q h => by simp at h, fun k q h => by simp at h⟩
  have hl := lv_entry ([.ref b]) (n := 4) (Nat.le_of_ble_eq_true rfl)
  rw [lg_entry_eq]
  generalize (lg_sl ([.ref b]) ++ List.replicate (4 - (lg_sl ([.ref b])).length) Slot.unset).toArray = ls at hl ⊢
  have hl : lv_has ls 4 [(0, .ref b)] := hl
  refine va_new (ci := 7) (fs := [.null, .null, .null, .null, .null, .null, .null, .int 0]) (C := RX7) (T := TX7) (N := 8) hx hb hu inX7 tyX7 tyX7_ok hown (hu _ q72) (hu _ q73) (hu _ q54) hK.1 hP hD hS hA rfl (fun j hj => by match j, hj with | 0, _ => exact rfl | 1, _ => exact rfl | 2, _ => exact rfl | 3, _ => exact rfl | 4, _ => exact rfl | 5, _ => exact rfl | 6, _ => exact rfl | 7, _ => exact rfl) (Nat.le_of_ble_eq_true rfl) (Nat.le_of_ble_eq_true rfl) dL_law_0 (fun q0 H hP hD hS => ?_)
  refine lv_dup hx hb dL_law_3 rfl ?_
  refine cc_I [] hx hb hml hown hu (tX7_init l (dC, dI) cs q0) q76 q54 q74 q75 rfl pdX7_init ⟨rfl, rfl, Nat.le_of_ble_eq_true rfl, Nat.le_of_ble_eq_true rfl⟩ hK hZ hN hP hD hS hA rfl hl.1 rfl (Nat.le_of_ble_eq_true rfl) dL_law_4 ⟨Nat.le_of_ble_eq_true rfl, Nat.le_of_ble_eq_true rfl⟩ (fun ad H locs had hPn hDn hS => ?_)
  subst had
  have hP : va_P (dC, dI) vwCl (wfX7 cs ad) H := hPn
  have hD : va_D (lwA s) (wfX7 cs ad) := hDn
  refine lv_astore_n (lv' := [(1, .ref (ad 0 0)), (0, .ref b)]) hx hb dL_law_7 rfl hl (by decide) rfl (fun ls hl => ?_)
  refine va_new (ci := 8) (fs := [.null, .null, .int 0, .null, .null, .int 0, .null, .null, .null, .int 0, .int 0, .null, .int 0, .null, .null, .null, .int 0, .int 0, .null, .int 0, .null, .int 0, .null, .int 0, .int 0, .null]) (C := RX8) (T := TX8) (N := 26) hx hb hu inX8 tyX8 tyX8_ok hown (hu _ q911) (hu _ q912) (hu _ q62) hK.1 hP hD hS hA rfl (fun j hj => by match j, hj with | 0, _ => exact rfl | 1, _ => exact rfl | 2, _ => exact rfl | 3, _ => exact rfl | 4, _ => exact rfl | 5, _ => exact rfl | 6, _ => exact rfl | 7, _ => exact rfl | 8, _ => exact rfl | 9, _ => exact rfl | 10, _ => exact rfl | 11, _ => exact rfl | 12, _ => exact rfl | 13, _ => exact rfl | 14, _ => exact rfl | 15, _ => exact rfl | 16, _ => exact rfl | 17, _ => exact rfl | 18, _ => exact rfl | 19, _ => exact rfl | 20, _ => exact rfl | 21, _ => exact rfl | 22, _ => exact rfl | 23, _ => exact rfl | 24, _ => exact rfl | 25, _ => exact rfl | k + 26, hj => exact absurd hj (by omega)) (Nat.le_of_ble_eq_true rfl) (Nat.le_of_ble_eq_true rfl) dL_law_8 (fun q1 H hP hD hS => ?_)
  refine lv_dup hx hb dL_law_11 rfl ?_
  refine cc_I [] hx hb hml hown hu (tX8_init l (dC, dI) cs q1) q915 q62 q913 q914 rfl pdX8_init ⟨rfl, rfl, Nat.le_of_ble_eq_true rfl, Nat.le_of_ble_eq_true rfl⟩ hK hZ hN hP hD hS hA rfl hl.1 rfl (Nat.le_of_ble_eq_true rfl) dL_law_12 ⟨Nat.le_of_ble_eq_true rfl, Nat.le_of_ble_eq_true rfl⟩ (fun bd H locs hbd hPn hDn hS => ?_)
  subst hbd
  have hP : va_P (dC, dI) vwCl ((List.range 31).flatMap (wB cs ad bd i7 i1 i3 i4 i4 i0 i4 i6 i3 i5 (fun _ => 0) i5 (fun _ => 0) i5 (fun _ => 0) i5 (fun _ => 0) i1 i3 i4 i4 i1 i3 i4 i4 i8 (fun _ => 0))) H := hPn
  have hD : va_D (lwA s) ((List.range 31).flatMap (wB cs ad bd i7 i1 i3 i4 i4 i0 i4 i6 i3 i5 (fun _ => 0) i5 (fun _ => 0) i5 (fun _ => 0) i5 (fun _ => 0) i1 i3 i4 i4 i1 i3 i4 i4 i8 (fun _ => 0))) := hDn
  refine lv_astore_n (lv' := [(2, .ref (bd 0 0)), (1, .ref (ad 0 0)), (0, .ref b)]) hx hb dL_law_15 rfl hl (by decide) rfl (fun ls hl => ?_)
  refine lv_iconst (v := 0) hx hb dL_law_16 (by decide) ?_
  refine lv_istore_n (lv' := [(3, .int 0), (2, .ref (bd 0 0)), (1, .ref (ad 0 0)), (0, .ref b)]) hx hb dL_law_17 rfl hl (by decide) rfl (fun ls hl => ?_)
  refine W.widen (k := 98) (n := 4085) (Nat.le_of_ble_eq_true rfl) (Nat.le_of_ble_eq_true rfl) ?_
  exact law_loop hL hr hlocks ⟨hx, hb, hml, hown, hu, hK, hZ, hX, hbl, hbA, hA⟩ PP (L + 1) 0 0 (by decide) (Nat.zero_le L) (by omega) i7 i1 i3 i4 i4 i0 i4 i6 i3 i5 (fun _ => 0) i5 (fun _ => 0) i5 (fun _ => 0) i5 (fun _ => 0) i1 i3 i4 i4 i1 i3 i4 i4 i8 (fun _ => 0) h0 _ _ _ hP hD hS (lv_sub hl [3, 2, 1, 0] rfl)
