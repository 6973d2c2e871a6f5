-- LAW: calls with cells made before; the world in blocks
theorem wp_iff {D : va_G} {cl : List vw_C} {w : va_W} {H : Heap} : va_P D cl w H ↔ ∀ q ∈ w, va_at D cl q H := by
  constructor
  · intro h q hq
    obtain ⟨k, hk⟩ := List.getElem?_of_mem hq
    exact h k q hk
  · intro h k q hk
    exact h q (List.mem_of_getElem? hk)
theorem wp_perm {D : va_G} {cl : List vw_C} {w w' : va_W} {H : Heap} (hp : w.Perm w') (h : va_P D cl w H) : va_P D cl w' H := wp_iff.mpr (fun q hq => wp_iff.mp h q (hp.mem_iff.mpr hq))
theorem wd_iff {A : Nat → Prop} {w : va_W} : va_D A w ↔ (w.map (fun q => q.1)).Nodup ∧ ∀ q ∈ w, A q.1 := by
  constructor
  · intro h
    refine ⟨?_, fun q hq => ?_⟩
    · rw [List.nodup_iff_pairwise_ne, List.pairwise_iff_getElem]
      intro i j hi hj hij he
      rw [List.length_map] at hi hj
      rw [List.getElem_map, List.getElem_map] at he
      have := h.1 i j w[i] w[j] (List.getElem?_eq_getElem hi) (List.getElem?_eq_getElem hj) he
      omega
    · obtain ⟨k, hk⟩ := List.getElem?_of_mem hq
      exact h.2 k q hk
  · intro h
    refine ⟨fun i j p q hp hq he => ?_, fun k q hk => h.2 q (List.mem_of_getElem? hk)⟩
    obtain ⟨hi, ei⟩ := List.getElem?_eq_some_iff.mp hp
    obtain ⟨hj, ej⟩ := List.getElem?_eq_some_iff.mp hq
    have hN := h.1
    rw [List.nodup_iff_pairwise_ne, List.pairwise_iff_getElem] at hN
    rcases Nat.lt_trichotomy i j with z | z | z
    · exact absurd (by rw [List.getElem_map, List.getElem_map, ei, ej]; exact he) (hN i j (by simpa using hi) (by simpa using hj) z)
    · exact z
    · exact absurd (by rw [List.getElem_map, List.getElem_map, ei, ej]; exact he.symm) (hN j i (by simpa using hj) (by simpa using hi) z)
theorem wd_perm {A : Nat → Prop} {w w' : va_W} (hp : w.Perm w') (h : va_D A w) : va_D A w' := by
  rw [wd_iff] at h ⊢
  exact ⟨(hp.map _).nodup_iff.mp h.1, fun q hq => h.2 q (hp.mem_iff.mpr hq)⟩
/-- blocks: a choice of them and the rest -/
theorem bl_perm {B : Nat → va_W} {isC isR all : List Nat} (hp : (isR ++ isC).Perm all) : (isR.flatMap B ++ isC.flatMap B).Perm (all.flatMap B) := by
  rw [← List.flatMap_append]
  exact hp.flatMap_right B
section DCL
variable {p : Program} {l : Launch} {e : Env} {R : Room} {s : State} {m : MethodId} {args : Array Value} {below : List Frame} {meth : Method} {c : Code} {H : Heap} {locs : List Loc} {Q : State → Prop} {cells slots : Nat}
variable {cc : ByteArray} {pc : Nat} {ls : Array Slot} {rest st0 : List Value}
theorem cl_run {D : va_G} {cs : Nat → ClassId} {rv : Option Value} {A : Nat → Prop} {w wc wc' wr w' : va_W} {a : Array Value} {g : JFrame} (hg : g = F0 m pc ls st0)
    (hr : va_Run p l e R s m args below meth c H locs cells slots 0 0 g rest (fun st oc t => gPost D rv wc wc' H.size st oc t) (va_A wc H.size))
    (hP : va_P D vwCl w H) (hD : va_D A w) (hS : va_S A s.heap H locs) (hA : ∀ q, s.heap.size ≤ q → A q) (isC isR isB : List Nat)
    (hC : isC.map (fun i => w[i]?) = wc.map some) (hR : isR.map (fun i => w[i]?) = wr.map some) (hn : va_nd isR = true) (hdis : isR.all (fun i => !(isC.contains i)) = true)
    (hB : isB.map (fun i => (wr ++ wc')[i]?) = w'.map some) (hnB : va_nd isB = true)
    (kk : ∀ (H1 : Heap) (locs1 : List Loc), va_P D vwCl w' H1 → va_D A w' → va_S A s.heap H1 locs1 → W p l e R s m args below meth c H1 locs1 cells slots Q (F0 m (pc + 3) ls (rv.toList ++ rest))) : W p l e R s m args below meth c H locs cells slots Q (F0 m pc ls st0) := by
  subst hg
  have hF := va_free (wc := wc) hD hS hA isC hC
  intro T hT X
  obtain ⟨v, st₀, t, T', L, h0, X', hL, e1, e2, ⟨⟨hv, hP1, hD1⟩, hz, hk⟩, st⟩ := hr T hT X
  have hv : v = rv := by cases hv; rfl
  subst hv
  rw [h0] at hz hk
  have hdis' : ∀ i ∈ isR, i ∉ isC := by
    intro i hi hc
    have := List.all_eq_true.mp hdis i hi
    simp [hc] at this
  obtain ⟨hP2, hD2⟩ := va_join hP hD isC isR hC hR hn hdis' hk hF hP1 hD1
  have hB' : isB.filterMap (fun i => (wr ++ wc')[i]?) = w' := by
    have h1 : ∀ (l : List Nat) (f : Nat → Option (Nat × va_E)) (w : va_W), l.map f = w.map some → l.filterMap f = w := by
      intro l f
      induction l with
      | nil => intro w h; cases w with
        | nil => rfl
        | cons a b => cases h
      | cons x xs ih => intro w h; cases w with
        | nil => cases h
        | cons a b =>
          simp only [List.map_cons, List.cons.injEq] at h
          rw [List.filterMap_cons, h.1, ih b h.2]
    exact h1 _ _ _ hB
  have hP3 : va_P D vwCl w' T'.heap := by rw [e1]; exact hP2.sub isB hB'
  have hD3 : va_D A w' := hD2.sub isB hnB hB
  obtain ⟨t2, a1, b1⟩ := kk T'.heap (locs ++ L) hP3 hD3 ⟨Nat.le_trans hS.1 (by rw [e1]; exact hz), fun q h1 h2 => by rw [e1, hk q (Nat.lt_of_lt_of_le h1 hS.1) (fun z => h2 (hF q z))]; exact hS.2.1 q h1 h2, fun q hq => by
      rcases List.mem_append.mp hq with h | h
      · exact hS.2.2 q h
      · exact hF _ (hL q h)⟩ T' rfl X'
  exact ⟨t2, st t2 a1, b1⟩

theorem cl_VB {D : va_G} {cs : Nat → ClassId} {rv : Option Value} {A : Nat → Prop} {B B' : Nat → va_W} {wc wc' : va_W} {own : String} {index maxL nL n ci b N : Nat} {Tt : u_T} {fs : List Value} {y : MethodName} {bytes : ByteArray} {ret : Option FieldType} {rm : Room} (As : List Value)
    (hx : p.tables.exec = Jvm.exec) (hb : c.code = cc) (hml : c.maxLocals = nL) (hown : s.vm.findClass own = some m.cls) (hu : ∀ w ∈ uw, w.before args s = true)
    (hM : CG l y (wsm y bytes maxL ret) rm D cs (.ref b :: As) rv wc wc')
    (hcode : Cond.code y bytes maxL ret ∈ uw) (hini : Cond.initialized y.cls ∈ uw) (hl : Cond.methodLink own index y ∈ uw) (hin : Cond.instanceMethod y ∈ uw) (hse : Cond.selects y.cls y y ∈ uw)
    (hd : y.cls ≠ "java/lang/invoke/MethodHandle" ∧ y.cls ≠ "java/lang/invoke/VarHandle" ∧ (parseMethodDescriptor y.desc).map (fun d => d.parameters.length) = some n)
    (hrm2 : cells + 0 ≤ R.cells ∧ slots + 0 ≤ R.slots) (hR0 : rm.cells = 0 ∧ rm.slots = 0 ∧ rm.frames + 1 ≤ R.frames ∧ 8 + (maxL + 11) + rm.locals ≤ R.locals)
    (all isC isR : List Nat) (hK : gK D cs s) (hZ : gZ cs A s) (hP : va_P D vwCl (all.flatMap B) H) (hD : va_D A (all.flatMap B)) (hS : va_S A s.heap H locs) (hA : ∀ q, s.heap.size ≤ q → A q)
    (hp : (isR ++ isC).Perm all) (hC : isC.flatMap B = wc) (hC' : isC.flatMap B' = wc') (hR : isR.map B = isR.map B')
    (hrv : wc[0]? = some (b, .inr (ci, fs))) (hcl : vwCl[ci]? = some (y.cls, Tt, N)) (hlen : As.length = n) (hsz : ls.size = nL) (hst : st0 = As.reverse ++ .ref b :: rest) (hrm : (rest.map fun v => v.category).sum ≤ 8)
    (hdg : decode cc pc = .ok (.invokevirtual index, 3)) {st1 : List Value} (hst1 : rv.toList ++ rest = st1)
    (kk : ∀ (H1 : Heap) (locs1 : List Loc), va_P D vwCl (all.flatMap B') H1 → va_D A (all.flatMap B') → va_S A s.heap H1 locs1 → W p l e R s m args below meth c H1 locs1 cells slots Q (F0 m (pc + 3) ls st1)) : W p l e R s m args below meth c H locs cells slots Q (F0 m pc ls st0) := by
  subst hst1
  subst hC
  subst hC'
  have hRf : isR.flatMap B = isR.flatMap B' := by rw [List.flatMap_def, List.flatMap_def, hR]
  have hP2 : va_P D vwCl (isR.flatMap B ++ isC.flatMap B) H := wp_perm (bl_perm hp).symm hP
  have hD2 : va_D A (isR.flatMap B ++ isC.flatMap B) := wd_perm (bl_perm hp).symm hD
  generalize hwr : isR.flatMap B = wr at hP2 hD2
  generalize hwc : isC.flatMap B = wc at *
  have hlenC : ((List.range wc.length).map (· + wr.length)).map (fun i => (wr ++ wc)[i]?) = wc.map some := by
    rw [← rg_map wc, List.map_map]
    apply List.map_congr_left
    intro i hi
    show (wr ++ wc)[i + wr.length]? = wc[i]?
    rw [List.getElem?_append_right (by omega), Nat.add_sub_cancel]
  have hlenR : (List.range wr.length).map (fun i => (wr ++ wc)[i]?) = wr.map some := by
    rw [← rg_map wr]
    apply List.map_congr_left
    intro i hi
    exact List.getElem?_append_left (List.mem_range.mp hi)
  have hndC : va_nd ((List.range wc.length).map (· + wr.length)) = true := nd_gt _ (List.pairwise_map.mpr ((List.nodup_range (n := wc.length)).imp (fun {a b} h e => h (by omega))))
  have hPc : va_P D vwCl wc H := wp_iff.mpr (fun q hq => wp_iff.mp hP2 q (List.mem_append_right _ hq))
  have hDc := hD2.sub _ hndC hlenC
  refine cl_run (cs := cs) (rest := rest) (rv := rv) (wc := wc) (wc' := isC.flatMap B') (wr := wr) (w' := wr ++ isC.flatMap B') (a := #[]) rfl ?_ hP2 hD2 hS hA ((List.range wc.length).map (· + wr.length)) (List.range wr.length) (List.range (wr ++ isC.flatMap B').length) hlenC hlenR (nd_rg _) ?_ (rg_map _) (nd_rg _) ?_
  · have cw : CallW R s args own y.cls index y bytes maxL ret (wsm y bytes maxL ret) rm 0 0 n := ⟨callB_of n hu (good_uw (c0 := .tt) hcode) rfl hR0.1 hR0.2.1 (hu _ hini) (hu _ hl) hd hR0.2.2, hu _ hin, hu _ hse⟩
    exact va_runV (As := As) (rest := rest) ⟨hx, hb, hml, hown, hu⟩ (hM H.size) cw ⟨gPre.blind, va_recv hK.1 hPc hcl hrv, fun U hU hW => ⟨rfl, by rw [hU], by rw [hU]; exact hPc, hK.warm hW, hDc.weaken (fun _ _ _ _ => trivial), hZ.call hW hU hS (va_free (wc := wc) hD2 hS hA _ hlenC)⟩⟩ rfl hlen hsz hst (lv_room hrm) hdg hrm2
  · rw [List.all_eq_true]
    intro i hi
    have h1 := List.mem_range.mp hi
    simp only [List.contains_eq_mem, Bool.not_eq_eq_eq_not, Bool.not_true, decide_eq_false_iff_not, List.mem_map, List.mem_range, not_exists, not_and]
    intro z hz
    omega
  · intro H1 locs1 hP3 hD3 hS3
    rw [← hwr, hRf] at hP3 hD3
    exact kk H1 locs1 (wp_perm (bl_perm hp) hP3) (wd_perm (bl_perm hp) hD3) hS3
end DCL
theorem lg_cmp_self (x : Int64) : lg_cmp x x = 0 := by
  unfold lg_cmp
  simp
abbrev RT : Type := ST → ST → ST → ST → ST → ST → ST → ST → ST → ST → LT → ST → LT → ST → LT → ST → LT → ST → ST → ST → ST → ST → ST → ST → ST → ST → LT → Prop
def P_person (RR : RT) : Prop := ∀ (x1 : Int32) (x2 : Int32) (x3 : Int32) (Ma : ST) (Fo : ST) (Sc : ST) (Se : ST) (Tr : ST) (Ch : ST) (Us : ST) (Ta : ST) (Dr : ST) (G0 : ST) (N0 : LT) (G1 : ST) (N1 : LT) (G2 : ST) (N2 : LT) (G3 : ST) (N3 : LT) (Fo2 : ST) (Sc2 : ST) (Se2 : ST) (Tr2 : ST) (Fo3 : ST) (Sc3 : ST) (Se3 : ST) (Tr3 : ST) (M : ST) (N : LT), RR Ma Fo Sc Se Tr Ch Us Ta Dr G0 N0 G1 N1 G2 N2 G3 N3 Fo2 Sc2 Se2 Tr2 Fo3 Sc3 Se3 Tr3 M N → ∃ (r0 : Int32) (Maz : ST) (Foz : ST) (Mz : ST), fX7_person x1 x2 x3 Ma Fo = some (r0, Maz, Foz) ∧ fX8_person x1 x2 x3 M = some (r0, Mz) ∧ RR Maz Foz Sc Se Tr Ch Us Ta Dr G0 N0 G1 N1 G2 N2 G3 N3 Fo2 Sc2 Se2 Tr2 Fo3 Sc3 Se3 Tr3 Mz N
def P_of (RR : RT) : Prop := ∀ (x1 : Int32) (x2 : Int32) (Ma : ST) (Fo : ST) (Sc : ST) (Se : ST) (Tr : ST) (Ch : ST) (Us : ST) (Ta : ST) (Dr : ST) (G0 : ST) (N0 : LT) (G1 : ST) (N1 : LT) (G2 : ST) (N2 : LT) (G3 : ST) (N3 : LT) (Fo2 : ST) (Sc2 : ST) (Se2 : ST) (Tr2 : ST) (Fo3 : ST) (Sc3 : ST) (Se3 : ST) (Tr3 : ST) (M : ST) (N : LT), RR Ma Fo Sc Se Tr Ch Us Ta Dr G0 N0 G1 N1 G2 N2 G3 N3 Fo2 Sc2 Se2 Tr2 Fo3 Sc3 Se3 Tr3 M N → ∃ (r0 : Int32) (Maz : ST) (Scz : ST) (Trz : ST) (Mz : ST), fX7_of x1 x2 Ma Fo Sc Se Tr = some (r0, Maz, Scz, Trz) ∧ fX8_of x1 x2 M = some (r0, Mz) ∧ RR Maz Fo Scz Se Trz Ch Us Ta Dr G0 N0 G1 N1 G2 N2 G3 N3 Fo2 Sc2 Se2 Tr2 Fo3 Sc3 Se3 Tr3 Mz N
def P_set (RR : RT) : Prop := ∀ (x1 : Int32) (x2 : Int32) (x3 : Int32) (Ma : ST) (Fo : ST) (Sc : ST) (Se : ST) (Tr : ST) (Ch : ST) (Us : ST) (Ta : ST) (Dr : ST) (G0 : ST) (N0 : LT) (G1 : ST) (N1 : LT) (G2 : ST) (N2 : LT) (G3 : ST) (N3 : LT) (Fo2 : ST) (Sc2 : ST) (Se2 : ST) (Tr2 : ST) (Fo3 : ST) (Sc3 : ST) (Se3 : ST) (Tr3 : ST) (M : ST) (N : LT), RR Ma Fo Sc Se Tr Ch Us Ta Dr G0 N0 G1 N1 G2 N2 G3 N3 Fo2 Sc2 Se2 Tr2 Fo3 Sc3 Se3 Tr3 M N → ∃ (r0 : Int32) (Maz : ST) (Foz : ST) (Mz : ST), fX7_set x1 x2 x3 Ma Fo = some (r0, Maz, Foz) ∧ fX8_set x1 x2 x3 M = some (r0, Mz) ∧ RR Maz Foz Sc Se Tr Ch Us Ta Dr G0 N0 G1 N1 G2 N2 G3 N3 Fo2 Sc2 Se2 Tr2 Fo3 Sc3 Se3 Tr3 Mz N
def P_as (RR : RT) : Prop := ∀ (x1 : Int32) (x2 : Int32) (Ma : ST) (Fo : ST) (Sc : ST) (Se : ST) (Tr : ST) (Ch : ST) (Us : ST) (Ta : ST) (Dr : ST) (G0 : ST) (N0 : LT) (G1 : ST) (N1 : LT) (G2 : ST) (N2 : LT) (G3 : ST) (N3 : LT) (Fo2 : ST) (Sc2 : ST) (Se2 : ST) (Tr2 : ST) (Fo3 : ST) (Sc3 : ST) (Se3 : ST) (Tr3 : ST) (M : ST) (N : LT), RR Ma Fo Sc Se Tr Ch Us Ta Dr G0 N0 G1 N1 G2 N2 G3 N3 Fo2 Sc2 Se2 Tr2 Fo3 Sc3 Se3 Tr3 M N → ∃ (r0 : Int32) (Maz : ST) (Mz : ST), fX7_as x1 x2 Ma Fo Se = some (r0, Maz) ∧ fX8_as x1 x2 M = some (r0, Mz) ∧ RR Maz Fo Sc Se Tr Ch Us Ta Dr G0 N0 G1 N1 G2 N2 G3 N3 Fo2 Sc2 Se2 Tr2 Fo3 Sc3 Se3 Tr3 Mz N
def P_likes (RR : RT) : Prop := ∀ (x1 : Int32) (x2 : Int32) (x3 : Int32) (Ma : ST) (Fo : ST) (Sc : ST) (Se : ST) (Tr : ST) (Ch : ST) (Us : ST) (Ta : ST) (Dr : ST) (G0 : ST) (N0 : LT) (G1 : ST) (N1 : LT) (G2 : ST) (N2 : LT) (G3 : ST) (N3 : LT) (Fo2 : ST) (Sc2 : ST) (Se2 : ST) (Tr2 : ST) (Fo3 : ST) (Sc3 : ST) (Se3 : ST) (Tr3 : ST) (M : ST) (N : LT), RR Ma Fo Sc Se Tr Ch Us Ta Dr G0 N0 G1 N1 G2 N2 G3 N3 Fo2 Sc2 Se2 Tr2 Fo3 Sc3 Se3 Tr3 M N → ∃ (r0 : Int32) (Maz : ST) (Foz : ST) (Mz : ST), fX7_likes x1 x2 x3 Ma Fo = some (r0, Maz, Foz) ∧ fX8_likes x1 x2 x3 M = some (r0, Mz) ∧ RR Maz Foz Sc Se Tr Ch Us Ta Dr G0 N0 G1 N1 G2 N2 G3 N3 Fo2 Sc2 Se2 Tr2 Fo3 Sc3 Se3 Tr3 Mz N
def P_worth (RR : RT) : Prop := ∀ (x1 : Int32) (x2 : Int32) (x3 : Int32) (Ma : ST) (Fo : ST) (Sc : ST) (Se : ST) (Tr : ST) (Ch : ST) (Us : ST) (Ta : ST) (Dr : ST) (G0 : ST) (N0 : LT) (G1 : ST) (N1 : LT) (G2 : ST) (N2 : LT) (G3 : ST) (N3 : LT) (Fo2 : ST) (Sc2 : ST) (Se2 : ST) (Tr2 : ST) (Fo3 : ST) (Sc3 : ST) (Se3 : ST) (Tr3 : ST) (M : ST) (N : LT), RR Ma Fo Sc Se Tr Ch Us Ta Dr G0 N0 G1 N1 G2 N2 G3 N3 Fo2 Sc2 Se2 Tr2 Fo3 Sc3 Se3 Tr3 M N → ∃ (r0 : Int32) (Maz : ST) (Foz : ST) (Mz : ST), fX7_worth x1 x2 x3 Ma Fo = some (r0, Maz, Foz) ∧ fX8_worth x1 x2 x3 M = some (r0, Mz) ∧ RR Maz Foz Sc Se Tr Ch Us Ta Dr G0 N0 G1 N1 G2 N2 G3 N3 Fo2 Sc2 Se2 Tr2 Fo3 Sc3 Se3 Tr3 Mz N
def P_rule (RR : RT) : Prop := ∀ (x1 : Int32) (x2 : Int32) (Ma : ST) (Fo : ST) (Sc : ST) (Se : ST) (Tr : ST) (Ch : ST) (Us : ST) (Ta : ST) (Dr : ST) (G0 : ST) (N0 : LT) (G1 : ST) (N1 : LT) (G2 : ST) (N2 : LT) (G3 : ST) (N3 : LT) (Fo2 : ST) (Sc2 : ST) (Se2 : ST) (Tr2 : ST) (Fo3 : ST) (Sc3 : ST) (Se3 : ST) (Tr3 : ST) (M : ST) (N : LT), RR Ma Fo Sc Se Tr Ch Us Ta Dr G0 N0 G1 N1 G2 N2 G3 N3 Fo2 Sc2 Se2 Tr2 Fo3 Sc3 Se3 Tr3 M N → ∃ (r0 : Int32) (Maz : ST) (Sez : ST) (Mz : ST), fX7_rule x1 x2 Ma Se = some (r0, Maz, Sez) ∧ fX8_rule x1 x2 M = some (r0, Mz) ∧ RR Maz Fo Sc Sez Tr Ch Us Ta Dr G0 N0 G1 N1 G2 N2 G3 N3 Fo2 Sc2 Se2 Tr2 Fo3 Sc3 Se3 Tr3 Mz N
def P_sit (RR : RT) : Prop := ∀ (x1 : Int32) (Ma : ST) (Fo : ST) (Sc : ST) (Se : ST) (Tr : ST) (Ch : ST) (Us : ST) (Ta : ST) (Dr : ST) (G0 : ST) (N0 : LT) (G1 : ST) (N1 : LT) (G2 : ST) (N2 : LT) (G3 : ST) (N3 : LT) (Fo2 : ST) (Sc2 : ST) (Se2 : ST) (Tr2 : ST) (Fo3 : ST) (Sc3 : ST) (Se3 : ST) (Tr3 : ST) (M : ST) (N : LT), RR Ma Fo Sc Se Tr Ch Us Ta Dr G0 N0 G1 N1 G2 N2 G3 N3 Fo2 Sc2 Se2 Tr2 Fo3 Sc3 Se3 Tr3 M N → ∃ (r0 : Int32) (Maz : ST) (Sez : ST) (Mz : ST), fX7_sit x1 Ma Fo Se = some (r0, Maz, Sez) ∧ fX8_sit x1 M = some (r0, Mz) ∧ RR Maz Fo Sc Sez Tr Ch Us Ta Dr G0 N0 G1 N1 G2 N2 G3 N3 Fo2 Sc2 Se2 Tr2 Fo3 Sc3 Se3 Tr3 Mz N
def P_line (RR : RT) : Prop := ∀ (x1 : Int32) (x2 : Int32) (Ma : ST) (Fo : ST) (Sc : ST) (Se : ST) (Tr : ST) (Ch : ST) (Us : ST) (Ta : ST) (Dr : ST) (G0 : ST) (N0 : LT) (G1 : ST) (N1 : LT) (G2 : ST) (N2 : LT) (G3 : ST) (N3 : LT) (Fo2 : ST) (Sc2 : ST) (Se2 : ST) (Tr2 : ST) (Fo3 : ST) (Sc3 : ST) (Se3 : ST) (Tr3 : ST) (M : ST) (N : LT), RR Ma Fo Sc Se Tr Ch Us Ta Dr G0 N0 G1 N1 G2 N2 G3 N3 Fo2 Sc2 Se2 Tr2 Fo3 Sc3 Se3 Tr3 M N → ∃ (r0 : Int32) (Maz : ST) (Sez : ST) (Mz : ST), fX7_line x1 x2 Ma Fo Se = some (r0, Maz, Sez) ∧ fX8_line x1 x2 M = some (r0, Mz) ∧ RR Maz Fo Sc Sez Tr Ch Us Ta Dr G0 N0 G1 N1 G2 N2 G3 N3 Fo2 Sc2 Se2 Tr2 Fo3 Sc3 Se3 Tr3 Mz N
def P_may (RR : RT) : Prop := ∀ (x1 : Int32) (Ma : ST) (Fo : ST) (Sc : ST) (Se : ST) (Tr : ST) (Ch : ST) (Us : ST) (Ta : ST) (Dr : ST) (G0 : ST) (N0 : LT) (G1 : ST) (N1 : LT) (G2 : ST) (N2 : LT) (G3 : ST) (N3 : LT) (Fo2 : ST) (Sc2 : ST) (Se2 : ST) (Tr2 : ST) (Fo3 : ST) (Sc3 : ST) (Se3 : ST) (Tr3 : ST) (M : ST) (N : LT), RR Ma Fo Sc Se Tr Ch Us Ta Dr G0 N0 G1 N1 G2 N2 G3 N3 Fo2 Sc2 Se2 Tr2 Fo3 Sc3 Se3 Tr3 M N → ∃ (r0 : Int32) (Maz : ST) (Mz : ST), fX7_may x1 Ma Fo Se = some (r0, Maz) ∧ fX8_may x1 M = some (r0, Mz) ∧ RR Maz Fo Sc Se Tr Ch Us Ta Dr G0 N0 G1 N1 G2 N2 G3 N3 Fo2 Sc2 Se2 Tr2 Fo3 Sc3 Se3 Tr3 Mz N
def P_follows (RR : RT) : Prop := ∀ (x1 : Int32) (x2 : Int32) (Ma : ST) (Fo : ST) (Sc : ST) (Se : ST) (Tr : ST) (Ch : ST) (Us : ST) (Ta : ST) (Dr : ST) (G0 : ST) (N0 : LT) (G1 : ST) (N1 : LT) (G2 : ST) (N2 : LT) (G3 : ST) (N3 : LT) (Fo2 : ST) (Sc2 : ST) (Se2 : ST) (Tr2 : ST) (Fo3 : ST) (Sc3 : ST) (Se3 : ST) (Tr3 : ST) (M : ST) (N : LT), RR Ma Fo Sc Se Tr Ch Us Ta Dr G0 N0 G1 N1 G2 N2 G3 N3 Fo2 Sc2 Se2 Tr2 Fo3 Sc3 Se3 Tr3 M N → ∃ (r0 : Int32) (Maz : ST) (Scz : ST) (Trz : ST) (Mz : ST), fX7_follows x1 x2 Ma Fo Sc Se Tr = some (r0, Maz, Scz, Trz) ∧ fX8_follows x1 x2 M = some (r0, Mz) ∧ RR Maz Fo Scz Se Trz Ch Us Ta Dr G0 N0 G1 N1 G2 N2 G3 N3 Fo2 Sc2 Se2 Tr2 Fo3 Sc3 Se3 Tr3 Mz N
def P_come (RR : RT) : Prop := ∀ (Ma : ST) (Fo : ST) (Sc : ST) (Se : ST) (Tr : ST) (Ch : ST) (Us : ST) (Ta : ST) (Dr : ST) (G0 : ST) (N0 : LT) (G1 : ST) (N1 : LT) (G2 : ST) (N2 : LT) (G3 : ST) (N3 : LT) (Fo2 : ST) (Sc2 : ST) (Se2 : ST) (Tr2 : ST) (Fo3 : ST) (Sc3 : ST) (Se3 : ST) (Tr3 : ST) (M : ST) (N : LT), RR Ma Fo Sc Se Tr Ch Us Ta Dr G0 N0 G1 N1 G2 N2 G3 N3 Fo2 Sc2 Se2 Tr2 Fo3 Sc3 Se3 Tr3 M N → ∃ (r0 : Int32) (Scz : ST) (Sez : ST) (Trz : ST) (Mz : ST), fX7_come Ma Fo Sc Se Tr = some (r0, Scz, Sez, Trz) ∧ fX8_come M = some (r0, Mz) ∧ RR Ma Fo Scz Sez Trz Ch Us Ta Dr G0 N0 G1 N1 G2 N2 G3 N3 Fo2 Sc2 Se2 Tr2 Fo3 Sc3 Se3 Tr3 Mz N
def P_years (RR : RT) : Prop := ∀ (x1 : Int32) (Ma : ST) (Fo : ST) (Sc : ST) (Se : ST) (Tr : ST) (Ch : ST) (Us : ST) (Ta : ST) (Dr : ST) (G0 : ST) (N0 : LT) (G1 : ST) (N1 : LT) (G2 : ST) (N2 : LT) (G3 : ST) (N3 : LT) (Fo2 : ST) (Sc2 : ST) (Se2 : ST) (Tr2 : ST) (Fo3 : ST) (Sc3 : ST) (Se3 : ST) (Tr3 : ST) (M : ST) (N : LT), RR Ma Fo Sc Se Tr Ch Us Ta Dr G0 N0 G1 N1 G2 N2 G3 N3 Fo2 Sc2 Se2 Tr2 Fo3 Sc3 Se3 Tr3 M N → ∃ (r0 : Int32) (Maz : ST) (Foz : ST) (Scz : ST) (Sez : ST) (Trz : ST) (Mz : ST), fX7_years x1 Ma Fo Sc Se Tr = some (r0, Maz, Foz, Scz, Sez, Trz) ∧ fX8_years x1 M = some (r0, Mz) ∧ RR Maz Foz Scz Sez Trz Ch Us Ta Dr G0 N0 G1 N1 G2 N2 G3 N3 Fo2 Sc2 Se2 Tr2 Fo3 Sc3 Se3 Tr3 Mz N
def P_seed (RR : RT) : Prop := ∀ (x1 : Int32) (Ma : ST) (Fo : ST) (Sc : ST) (Se : ST) (Tr : ST) (Ch : ST) (Us : ST) (Ta : ST) (Dr : ST) (G0 : ST) (N0 : LT) (G1 : ST) (N1 : LT) (G2 : ST) (N2 : LT) (G3 : ST) (N3 : LT) (Fo2 : ST) (Sc2 : ST) (Se2 : ST) (Tr2 : ST) (Fo3 : ST) (Sc3 : ST) (Se3 : ST) (Tr3 : ST) (M : ST) (N : LT), RR Ma Fo Sc Se Tr Ch Us Ta Dr G0 N0 G1 N1 G2 N2 G3 N3 Fo2 Sc2 Se2 Tr2 Fo3 Sc3 Se3 Tr3 M N → ∃ (r0 : Int32) (Foz : ST) (Mz : ST), fX7_seed x1 Ma Fo = some (r0, Foz) ∧ fX8_seed x1 M = some (r0, Mz) ∧ RR Ma Foz Sc Se Tr Ch Us Ta Dr G0 N0 G1 N1 G2 N2 G3 N3 Fo2 Sc2 Se2 Tr2 Fo3 Sc3 Se3 Tr3 Mz N
def P_now (RR : RT) : Prop := ∀ (x1 : Int32) (Ma : ST) (Fo : ST) (Sc : ST) (Se : ST) (Tr : ST) (Ch : ST) (Us : ST) (Ta : ST) (Dr : ST) (G0 : ST) (N0 : LT) (G1 : ST) (N1 : LT) (G2 : ST) (N2 : LT) (G3 : ST) (N3 : LT) (Fo2 : ST) (Sc2 : ST) (Se2 : ST) (Tr2 : ST) (Fo3 : ST) (Sc3 : ST) (Se3 : ST) (Tr3 : ST) (M : ST) (N : LT), RR Ma Fo Sc Se Tr Ch Us Ta Dr G0 N0 G1 N1 G2 N2 G3 N3 Fo2 Sc2 Se2 Tr2 Fo3 Sc3 Se3 Tr3 M N → ∃ (r0 : Int32) (Maz : ST) (Mz : ST), fX7_now x1 Ma Se = some (r0, Maz) ∧ fX8_now x1 M = some (r0, Mz) ∧ RR Maz Fo Sc Se Tr Ch Us Ta Dr G0 N0 G1 N1 G2 N2 G3 N3 Fo2 Sc2 Se2 Tr2 Fo3 Sc3 Se3 Tr3 Mz N
def P_ahead (RR : RT) : Prop := ∀ (x1 : Int32) (Ma : ST) (Fo : ST) (Sc : ST) (Se : ST) (Tr : ST) (Ch : ST) (Us : ST) (Ta : ST) (Dr : ST) (G0 : ST) (N0 : LT) (G1 : ST) (N1 : LT) (G2 : ST) (N2 : LT) (G3 : ST) (N3 : LT) (Fo2 : ST) (Sc2 : ST) (Se2 : ST) (Tr2 : ST) (Fo3 : ST) (Sc3 : ST) (Se3 : ST) (Tr3 : ST) (M : ST) (N : LT), RR Ma Fo Sc Se Tr Ch Us Ta Dr G0 N0 G1 N1 G2 N2 G3 N3 Fo2 Sc2 Se2 Tr2 Fo3 Sc3 Se3 Tr3 M N → ∃ (r0 : Int32) (Maz : ST) (Scz : ST) (Trz : ST) (Usz : ST) (Mz : ST), fX7_ahead x1 Ma Fo Sc Se Tr Ch Us = some (r0, Maz, Scz, Trz, Usz) ∧ fX8_ahead x1 M = some (r0, Mz) ∧ RR Maz Fo Scz Se Trz Ch Usz Ta Dr G0 N0 G1 N1 G2 N2 G3 N3 Fo2 Sc2 Se2 Tr2 Fo3 Sc3 Se3 Tr3 Mz N
def P_ever (RR : RT) : Prop := ∀ (Ma : ST) (Fo : ST) (Sc : ST) (Se : ST) (Tr : ST) (Ch : ST) (Us : ST) (Ta : ST) (Dr : ST) (G0 : ST) (N0 : LT) (G1 : ST) (N1 : LT) (G2 : ST) (N2 : LT) (G3 : ST) (N3 : LT) (Fo2 : ST) (Sc2 : ST) (Se2 : ST) (Tr2 : ST) (Fo3 : ST) (Sc3 : ST) (Se3 : ST) (Tr3 : ST) (M : ST) (N : LT), RR Ma Fo Sc Se Tr Ch Us Ta Dr G0 N0 G1 N1 G2 N2 G3 N3 Fo2 Sc2 Se2 Tr2 Fo3 Sc3 Se3 Tr3 M N → ∃ (r0 : Int32) (Maz : ST) (Scz : ST) (Trz : ST) (Chz : ST) (Usz : ST) (Mz : ST), fX7_ever Ma Fo Sc Se Tr Ch Us = some (r0, Maz, Scz, Trz, Chz, Usz) ∧ fX8_ever M = some (r0, Mz) ∧ RR Maz Fo Scz Se Trz Chz Usz Ta Dr G0 N0 G1 N1 G2 N2 G3 N3 Fo2 Sc2 Se2 Tr2 Fo3 Sc3 Se3 Tr3 Mz N
def P_turns (RR : RT) : Prop := ∀ (x1 : Int32) (Ma : ST) (Fo : ST) (Sc : ST) (Se : ST) (Tr : ST) (Ch : ST) (Us : ST) (Ta : ST) (Dr : ST) (G0 : ST) (N0 : LT) (G1 : ST) (N1 : LT) (G2 : ST) (N2 : LT) (G3 : ST) (N3 : LT) (Fo2 : ST) (Sc2 : ST) (Se2 : ST) (Tr2 : ST) (Fo3 : ST) (Sc3 : ST) (Se3 : ST) (Tr3 : ST) (M : ST) (N : LT), RR Ma Fo Sc Se Tr Ch Us Ta Dr G0 N0 G1 N1 G2 N2 G3 N3 Fo2 Sc2 Se2 Tr2 Fo3 Sc3 Se3 Tr3 M N → ∃ (r0 : Int32) (Maz : ST) (Scz : ST) (Trz : ST) (Chz : ST) (Usz : ST) (Mz : ST), fX7_turns x1 Ma Fo Sc Se Tr Ch Us = some (r0, Maz, Scz, Trz, Chz, Usz) ∧ fX8_turns x1 M = some (r0, Mz) ∧ RR Maz Fo Scz Se Trz Chz Usz Ta Dr G0 N0 G1 N1 G2 N2 G3 N3 Fo2 Sc2 Se2 Tr2 Fo3 Sc3 Se3 Tr3 Mz N
def P_share (RR : RT) : Prop := ∀ (x1 : Int32) (x2 : Int32) (Ma : ST) (Fo : ST) (Sc : ST) (Se : ST) (Tr : ST) (Ch : ST) (Us : ST) (Ta : ST) (Dr : ST) (G0 : ST) (N0 : LT) (G1 : ST) (N1 : LT) (G2 : ST) (N2 : LT) (G3 : ST) (N3 : LT) (Fo2 : ST) (Sc2 : ST) (Se2 : ST) (Tr2 : ST) (Fo3 : ST) (Sc3 : ST) (Se3 : ST) (Tr3 : ST) (M : ST) (N : LT), RR Ma Fo Sc Se Tr Ch Us Ta Dr G0 N0 G1 N1 G2 N2 G3 N3 Fo2 Sc2 Se2 Tr2 Fo3 Sc3 Se3 Tr3 M N → ∃ (r0 : Int32) (Maz : ST) (Scz : ST) (Trz : ST) (Chz : ST) (Usz : ST) (Mz : ST), fX7_share x1 x2 Ma Fo Sc Se Tr Ch Us = some (r0, Maz, Scz, Trz, Chz, Usz) ∧ fX8_share x1 x2 M = some (r0, Mz) ∧ RR Maz Fo Scz Se Trz Chz Usz Ta Dr G0 N0 G1 N1 G2 N2 G3 N3 Fo2 Sc2 Se2 Tr2 Fo3 Sc3 Se3 Tr3 Mz N
def P_has (RR : RT) : Prop := ∀ (x1 : Int32) (x2 : Int32) (Ma : ST) (Fo : ST) (Sc : ST) (Se : ST) (Tr : ST) (Ch : ST) (Us : ST) (Ta : ST) (Dr : ST) (G0 : ST) (N0 : LT) (G1 : ST) (N1 : LT) (G2 : ST) (N2 : LT) (G3 : ST) (N3 : LT) (Fo2 : ST) (Sc2 : ST) (Se2 : ST) (Tr2 : ST) (Fo3 : ST) (Sc3 : ST) (Se3 : ST) (Tr3 : ST) (M : ST) (N : LT), RR Ma Fo Sc Se Tr Ch Us Ta Dr G0 N0 G1 N1 G2 N2 G3 N3 Fo2 Sc2 Se2 Tr2 Fo3 Sc3 Se3 Tr3 M N → ∃ (r0 : Int32) (Maz : ST) (Scz : ST) (Trz : ST) (Chz : ST) (Usz : ST) (Mz : ST), fX7_has x1 x2 Ma Fo Sc Se Tr Ch Us = some (r0, Maz, Scz, Trz, Chz, Usz) ∧ fX8_has x1 x2 M = some (r0, Mz) ∧ RR Maz Fo Scz Se Trz Chz Usz Ta Dr G0 N0 G1 N1 G2 N2 G3 N3 Fo2 Sc2 Se2 Tr2 Fo3 Sc3 Se3 Tr3 Mz N
def P_but (RR : RT) : Prop := ∀ (x1 : Int32) (x2 : Int32) (x3 : Int32) (Ma : ST) (Fo : ST) (Sc : ST) (Se : ST) (Tr : ST) (Ch : ST) (Us : ST) (Ta : ST) (Dr : ST) (G0 : ST) (N0 : LT) (G1 : ST) (N1 : LT) (G2 : ST) (N2 : LT) (G3 : ST) (N3 : LT) (Fo2 : ST) (Sc2 : ST) (Se2 : ST) (Tr2 : ST) (Fo3 : ST) (Sc3 : ST) (Se3 : ST) (Tr3 : ST) (M : ST) (N : LT), RR Ma Fo Sc Se Tr Ch Us Ta Dr G0 N0 G1 N1 G2 N2 G3 N3 Fo2 Sc2 Se2 Tr2 Fo3 Sc3 Se3 Tr3 M N → ∃ (r0 : Int32) (Maz : ST) (Scz : ST) (Trz : ST) (Chz : ST) (Usz : ST) (Mz : ST), fX7_but x1 x2 x3 Ma Fo Sc Se Tr Ch Us = some (r0, Maz, Scz, Trz, Chz, Usz) ∧ fX8_but x1 x2 x3 M = some (r0, Mz) ∧ RR Maz Fo Scz Se Trz Chz Usz Ta Dr G0 N0 G1 N1 G2 N2 G3 N3 Fo2 Sc2 Se2 Tr2 Fo3 Sc3 Se3 Tr3 Mz N
def P_vote (RR : RT) : Prop := ∀ (Ma : ST) (Fo : ST) (Sc : ST) (Se : ST) (Tr : ST) (Ch : ST) (Us : ST) (Ta : ST) (Dr : ST) (G0 : ST) (N0 : LT) (G1 : ST) (N1 : LT) (G2 : ST) (N2 : LT) (G3 : ST) (N3 : LT) (Fo2 : ST) (Sc2 : ST) (Se2 : ST) (Tr2 : ST) (Fo3 : ST) (Sc3 : ST) (Se3 : ST) (Tr3 : ST) (M : ST) (N : LT), RR Ma Fo Sc Se Tr Ch Us Ta Dr G0 N0 G1 N1 G2 N2 G3 N3 Fo2 Sc2 Se2 Tr2 Fo3 Sc3 Se3 Tr3 M N → ∃ (r0 : Int32) (Maz : ST) (Mz : ST), fX7_vote Ma Fo = some (r0, Maz) ∧ fX8_vote M = some (r0, Mz) ∧ RR Maz Fo Sc Se Tr Ch Us Ta Dr G0 N0 G1 N1 G2 N2 G3 N3 Fo2 Sc2 Se2 Tr2 Fo3 Sc3 Se3 Tr3 Mz N
def P_kept (RR : RT) : Prop := ∀ (x1 : Int32) (x2 : Int32) (x3 : Int32) (Ma : ST) (Fo : ST) (Sc : ST) (Se : ST) (Tr : ST) (Ch : ST) (Us : ST) (Ta : ST) (Dr : ST) (G0 : ST) (N0 : LT) (G1 : ST) (N1 : LT) (G2 : ST) (N2 : LT) (G3 : ST) (N3 : LT) (Fo2 : ST) (Sc2 : ST) (Se2 : ST) (Tr2 : ST) (Fo3 : ST) (Sc3 : ST) (Se3 : ST) (Tr3 : ST) (M : ST) (N : LT), RR Ma Fo Sc Se Tr Ch Us Ta Dr G0 N0 G1 N1 G2 N2 G3 N3 Fo2 Sc2 Se2 Tr2 Fo3 Sc3 Se3 Tr3 M N → ∃ (r0 : Int32) (Maz : ST) (Scz : ST) (Trz : ST) (Chz : ST) (Usz : ST) (Mz : ST), fX7_kept x1 x2 x3 Ma Fo Sc Se Tr Ch Us = some (r0, Maz, Scz, Trz, Chz, Usz) ∧ fX8_kept x1 x2 x3 M = some (r0, Mz) ∧ RR Maz Fo Scz Se Trz Chz Usz Ta Dr G0 N0 G1 N1 G2 N2 G3 N3 Fo2 Sc2 Se2 Tr2 Fo3 Sc3 Se3 Tr3 Mz N
def P_pact (RR : RT) : Prop := ∀ (x1 : Int32) (Ma : ST) (Fo : ST) (Sc : ST) (Se : ST) (Tr : ST) (Ch : ST) (Us : ST) (Ta : ST) (Dr : ST) (G0 : ST) (N0 : LT) (G1 : ST) (N1 : LT) (G2 : ST) (N2 : LT) (G3 : ST) (N3 : LT) (Fo2 : ST) (Sc2 : ST) (Se2 : ST) (Tr2 : ST) (Fo3 : ST) (Sc3 : ST) (Se3 : ST) (Tr3 : ST) (M : ST) (N : LT), RR Ma Fo Sc Se Tr Ch Us Ta Dr G0 N0 G1 N1 G2 N2 G3 N3 Fo2 Sc2 Se2 Tr2 Fo3 Sc3 Se3 Tr3 M N → ∃ (r0 : Int32) (Maz : ST) (Scz : ST) (Trz : ST) (Chz : ST) (Usz : ST) (Mz : ST), fX7_pact x1 Ma Fo Sc Se Tr Ch Us = some (r0, Maz, Scz, Trz, Chz, Usz) ∧ fX8_pact x1 M = some (r0, Mz) ∧ RR Maz Fo Scz Se Trz Chz Usz Ta Dr G0 N0 G1 N1 G2 N2 G3 N3 Fo2 Sc2 Se2 Tr2 Fo3 Sc3 Se3 Tr3 Mz N
def P_odds (RR : RT) : Prop := ∀ (x1 : Int32) (x2 : Int32) (Ma : ST) (Fo : ST) (Sc : ST) (Se : ST) (Tr : ST) (Ch : ST) (Us : ST) (Ta : ST) (Dr : ST) (G0 : ST) (N0 : LT) (G1 : ST) (N1 : LT) (G2 : ST) (N2 : LT) (G3 : ST) (N3 : LT) (Fo2 : ST) (Sc2 : ST) (Se2 : ST) (Tr2 : ST) (Fo3 : ST) (Sc3 : ST) (Se3 : ST) (Tr3 : ST) (M : ST) (N : LT), RR Ma Fo Sc Se Tr Ch Us Ta Dr G0 N0 G1 N1 G2 N2 G3 N3 Fo2 Sc2 Se2 Tr2 Fo3 Sc3 Se3 Tr3 M N → ∃ (r0 : Int32) (Maz : ST) (Fo3z : ST) (Sc3z : ST) (Se3z : ST) (Tr3z : ST) (Mz : ST), fX7_odds x1 x2 Ma Fo Sc Se Fo3 Sc3 Se3 Tr3 = some (r0, Maz, Fo3z, Sc3z, Se3z, Tr3z) ∧ fX8_odds x1 x2 M = some (r0, Mz) ∧ RR Maz Fo Sc Se Tr Ch Us Ta Dr G0 N0 G1 N1 G2 N2 G3 N3 Fo2 Sc2 Se2 Tr2 Fo3z Sc3z Se3z Tr3z Mz N
def P_feed (RR : RT) : Prop := ∀ (x1 : Int32) (x2 : Int32) (Ma : ST) (Fo : ST) (Sc : ST) (Se : ST) (Tr : ST) (Ch : ST) (Us : ST) (Ta : ST) (Dr : ST) (G0 : ST) (N0 : LT) (G1 : ST) (N1 : LT) (G2 : ST) (N2 : LT) (G3 : ST) (N3 : LT) (Fo2 : ST) (Sc2 : ST) (Se2 : ST) (Tr2 : ST) (Fo3 : ST) (Sc3 : ST) (Se3 : ST) (Tr3 : ST) (M : ST) (N : LT), RR Ma Fo Sc Se Tr Ch Us Ta Dr G0 N0 G1 N1 G2 N2 G3 N3 Fo2 Sc2 Se2 Tr2 Fo3 Sc3 Se3 Tr3 M N → ∃ (r0 : Int32) (Maz : ST) (Taz : ST) (Mz : ST), fX7_feed x1 x2 Ma Ta = some (r0, Maz, Taz) ∧ fX8_feed x1 x2 M = some (r0, Mz) ∧ RR Maz Fo Sc Se Tr Ch Us Taz Dr G0 N0 G1 N1 G2 N2 G3 N3 Fo2 Sc2 Se2 Tr2 Fo3 Sc3 Se3 Tr3 Mz N
def P_wipe (RR : RT) : Prop := ∀ (Ma : ST) (Fo : ST) (Sc : ST) (Se : ST) (Tr : ST) (Ch : ST) (Us : ST) (Ta : ST) (Dr : ST) (G0 : ST) (N0 : LT) (G1 : ST) (N1 : LT) (G2 : ST) (N2 : LT) (G3 : ST) (N3 : LT) (Fo2 : ST) (Sc2 : ST) (Se2 : ST) (Tr2 : ST) (Fo3 : ST) (Sc3 : ST) (Se3 : ST) (Tr3 : ST) (M : ST) (N : LT), RR Ma Fo Sc Se Tr Ch Us Ta Dr G0 N0 G1 N1 G2 N2 G3 N3 Fo2 Sc2 Se2 Tr2 Fo3 Sc3 Se3 Tr3 M N → ∃ (r0 : Int32) (Taz : ST) (Mz : ST), fX7_wipe Ma Ta = some (r0, Taz) ∧ fX8_wipe M = some (r0, Mz) ∧ RR Ma Fo Sc Se Tr Ch Us Taz Dr G0 N0 G1 N1 G2 N2 G3 N3 Fo2 Sc2 Se2 Tr2 Fo3 Sc3 Se3 Tr3 Mz N
def P_text (RR : RT) : Prop := ∀ (Ma : ST) (Fo : ST) (Sc : ST) (Se : ST) (Tr : ST) (Ch : ST) (Us : ST) (Ta : ST) (Dr : ST) (G0 : ST) (N0 : LT) (G1 : ST) (N1 : LT) (G2 : ST) (N2 : LT) (G3 : ST) (N3 : LT) (Fo2 : ST) (Sc2 : ST) (Se2 : ST) (Tr2 : ST) (Fo3 : ST) (Sc3 : ST) (Se3 : ST) (Tr3 : ST) (M : ST) (N : LT), RR Ma Fo Sc Se Tr Ch Us Ta Dr G0 N0 G1 N1 G2 N2 G3 N3 Fo2 Sc2 Se2 Tr2 Fo3 Sc3 Se3 Tr3 M N → ∃ (r0 : Int32) (Scz : ST) (Taz : ST) (Drz : ST) (Mz : ST), fX7_text Ma Sc Ta Dr = some (r0, Scz, Taz, Drz) ∧ fX8_text M = some (r0, Mz) ∧ RR Ma Fo Scz Se Tr Ch Us Taz Drz G0 N0 G1 N1 G2 N2 G3 N3 Fo2 Sc2 Se2 Tr2 Fo3 Sc3 Se3 Tr3 Mz N
def P_gives (RR : RT) : Prop := ∀ (x1 : Int32) (x2 : Int32) (Ma : ST) (Fo : ST) (Sc : ST) (Se : ST) (Tr : ST) (Ch : ST) (Us : ST) (Ta : ST) (Dr : ST) (G0 : ST) (N0 : LT) (G1 : ST) (N1 : LT) (G2 : ST) (N2 : LT) (G3 : ST) (N3 : LT) (Fo2 : ST) (Sc2 : ST) (Se2 : ST) (Tr2 : ST) (Fo3 : ST) (Sc3 : ST) (Se3 : ST) (Tr3 : ST) (M : ST) (N : LT), RR Ma Fo Sc Se Tr Ch Us Ta Dr G0 N0 G1 N1 G2 N2 G3 N3 Fo2 Sc2 Se2 Tr2 Fo3 Sc3 Se3 Tr3 M N → ∃ (r0 : Int32) (Maz : ST) (Scz : ST) (Mz : ST), fX7_gives x1 x2 Ma Fo Sc Se = some (r0, Maz, Scz) ∧ fX8_gives x1 x2 M = some (r0, Mz) ∧ RR Maz Fo Scz Se Tr Ch Us Ta Dr G0 N0 G1 N1 G2 N2 G3 N3 Fo2 Sc2 Se2 Tr2 Fo3 Sc3 Se3 Tr3 Mz N
def P_untell (RR : RT) : Prop := ∀ (Ma : ST) (Fo : ST) (Sc : ST) (Se : ST) (Tr : ST) (Ch : ST) (Us : ST) (Ta : ST) (Dr : ST) (G0 : ST) (N0 : LT) (G1 : ST) (N1 : LT) (G2 : ST) (N2 : LT) (G3 : ST) (N3 : LT) (Fo2 : ST) (Sc2 : ST) (Se2 : ST) (Tr2 : ST) (Fo3 : ST) (Sc3 : ST) (Se3 : ST) (Tr3 : ST) (M : ST) (N : LT), RR Ma Fo Sc Se Tr Ch Us Ta Dr G0 N0 G1 N1 G2 N2 G3 N3 Fo2 Sc2 Se2 Tr2 Fo3 Sc3 Se3 Tr3 M N → ∃ (r0 : Int32) (Scz : ST) (Mz : ST), fX7_untell Ma Sc = some (r0, Scz) ∧ fX8_untell M = some (r0, Mz) ∧ RR Ma Fo Scz Se Tr Ch Us Ta Dr G0 N0 G1 N1 G2 N2 G3 N3 Fo2 Sc2 Se2 Tr2 Fo3 Sc3 Se3 Tr3 Mz N
def P_sheet (RR : RT) : Prop := ∀ (x1 : Int32) (x2 : Int32) (x3 : Int32) (Ma : ST) (Fo : ST) (Sc : ST) (Se : ST) (Tr : ST) (Ch : ST) (Us : ST) (Ta : ST) (Dr : ST) (G0 : ST) (N0 : LT) (G1 : ST) (N1 : LT) (G2 : ST) (N2 : LT) (G3 : ST) (N3 : LT) (Fo2 : ST) (Sc2 : ST) (Se2 : ST) (Tr2 : ST) (Fo3 : ST) (Sc3 : ST) (Se3 : ST) (Tr3 : ST) (M : ST) (N : LT), RR Ma Fo Sc Se Tr Ch Us Ta Dr G0 N0 G1 N1 G2 N2 G3 N3 Fo2 Sc2 Se2 Tr2 Fo3 Sc3 Se3 Tr3 M N → ∃ (r0 : Int32) (Maz : ST) (G0z : ST) (N0z : LT) (G1z : ST) (N1z : LT) (G2z : ST) (N2z : LT) (G3z : ST) (N3z : LT) (Mz : ST) (Nz : LT), fX7_sheet x1 x2 x3 Ma G0 N0 G1 N1 G2 N2 G3 N3 = some (r0, Maz, G0z, N0z, G1z, N1z, G2z, N2z, G3z, N3z) ∧ fX8_sheet x1 x2 x3 M N = some (r0, Mz, Nz) ∧ RR Maz Fo Sc Se Tr Ch Us Ta Dr G0z N0z G1z N1z G2z N2z G3z N3z Fo2 Sc2 Se2 Tr2 Fo3 Sc3 Se3 Tr3 Mz Nz
def P_write (RR : RT) : Prop := ∀ (x1 : Int32) (x2 : Int32) (x3 : Int64) (Ma : ST) (Fo : ST) (Sc : ST) (Se : ST) (Tr : ST) (Ch : ST) (Us : ST) (Ta : ST) (Dr : ST) (G0 : ST) (N0 : LT) (G1 : ST) (N1 : LT) (G2 : ST) (N2 : LT) (G3 : ST) (N3 : LT) (Fo2 : ST) (Sc2 : ST) (Se2 : ST) (Tr2 : ST) (Fo3 : ST) (Sc3 : ST) (Se3 : ST) (Tr3 : ST) (M : ST) (N : LT), RR Ma Fo Sc Se Tr Ch Us Ta Dr G0 N0 G1 N1 G2 N2 G3 N3 Fo2 Sc2 Se2 Tr2 Fo3 Sc3 Se3 Tr3 M N → ∃ (r0 : Int64) (Maz : ST) (N0z : LT) (N1z : LT) (N2z : LT) (N3z : LT) (Mz : ST) (Nz : LT), fX7_write x1 x2 x3 Ma G0 N0 G1 N1 G2 N2 G3 N3 = some (r0, Maz, N0z, N1z, N2z, N3z) ∧ fX8_write x1 x2 x3 M N = some (r0, Mz, Nz) ∧ RR Maz Fo Sc Se Tr Ch Us Ta Dr G0 N0z G1 N1z G2 N2z G3 N3z Fo2 Sc2 Se2 Tr2 Fo3 Sc3 Se3 Tr3 Mz Nz
def P_copy (RR : RT) : Prop := ∀ (x1 : Int32) (x2 : Int32) (x3 : Int32) (x4 : Int32) (x5 : Int32) (Ma : ST) (Fo : ST) (Sc : ST) (Se : ST) (Tr : ST) (Ch : ST) (Us : ST) (Ta : ST) (Dr : ST) (G0 : ST) (N0 : LT) (G1 : ST) (N1 : LT) (G2 : ST) (N2 : LT) (G3 : ST) (N3 : LT) (Fo2 : ST) (Sc2 : ST) (Se2 : ST) (Tr2 : ST) (Fo3 : ST) (Sc3 : ST) (Se3 : ST) (Tr3 : ST) (M : ST) (N : LT), RR Ma Fo Sc Se Tr Ch Us Ta Dr G0 N0 G1 N1 G2 N2 G3 N3 Fo2 Sc2 Se2 Tr2 Fo3 Sc3 Se3 Tr3 M N → ∃ (r0 : Int32) (Maz : ST) (N0z : LT) (N1z : LT) (N2z : LT) (N3z : LT) (Mz : ST) (Nz : LT), fX7_copy x1 x2 x3 x4 x5 Ma G0 N0 G1 N1 G2 N2 G3 N3 = some (r0, Maz, N0z, N1z, N2z, N3z) ∧ fX8_copy x1 x2 x3 x4 x5 M N = some (r0, Mz, Nz) ∧ RR Maz Fo Sc Se Tr Ch Us Ta Dr G0 N0z G1 N1z G2 N2z G3 N3z Fo2 Sc2 Se2 Tr2 Fo3 Sc3 Se3 Tr3 Mz Nz
def P_lays (RR : RT) : Prop := ∀ (x1 : Int32) (x2 : Int32) (Ma : ST) (Fo : ST) (Sc : ST) (Se : ST) (Tr : ST) (Ch : ST) (Us : ST) (Ta : ST) (Dr : ST) (G0 : ST) (N0 : LT) (G1 : ST) (N1 : LT) (G2 : ST) (N2 : LT) (G3 : ST) (N3 : LT) (Fo2 : ST) (Sc2 : ST) (Se2 : ST) (Tr2 : ST) (Fo3 : ST) (Sc3 : ST) (Se3 : ST) (Tr3 : ST) (M : ST) (N : LT), RR Ma Fo Sc Se Tr Ch Us Ta Dr G0 N0 G1 N1 G2 N2 G3 N3 Fo2 Sc2 Se2 Tr2 Fo3 Sc3 Se3 Tr3 M N → ∃ (r0 : Int32) (Maz : ST) (Foz : ST) (Mz : ST), fX7_lays x1 x2 Ma Fo G0 N0 G1 N1 G2 N2 G3 N3 = some (r0, Maz, Foz) ∧ fX8_lays x1 x2 M N = some (r0, Mz) ∧ RR Maz Foz Sc Se Tr Ch Us Ta Dr G0 N0 G1 N1 G2 N2 G3 N3 Fo2 Sc2 Se2 Tr2 Fo3 Sc3 Se3 Tr3 Mz N
def P_read (RR : RT) : Prop := ∀ (x1 : Int32) (Ma : ST) (Fo : ST) (Sc : ST) (Se : ST) (Tr : ST) (Ch : ST) (Us : ST) (Ta : ST) (Dr : ST) (G0 : ST) (N0 : LT) (G1 : ST) (N1 : LT) (G2 : ST) (N2 : LT) (G3 : ST) (N3 : LT) (Fo2 : ST) (Sc2 : ST) (Se2 : ST) (Tr2 : ST) (Fo3 : ST) (Sc3 : ST) (Se3 : ST) (Tr3 : ST) (M : ST) (N : LT), RR Ma Fo Sc Se Tr Ch Us Ta Dr G0 N0 G1 N1 G2 N2 G3 N3 Fo2 Sc2 Se2 Tr2 Fo3 Sc3 Se3 Tr3 M N → ∃ (r0 : Int32) (Maz : ST) (Scz : ST) (Trz : ST) (Usz : ST) (Mz : ST), fX7_read x1 Ma Fo Sc Se Tr Ch Us G0 N0 G1 N1 G2 N2 G3 N3 = some (r0, Maz, Scz, Trz, Usz) ∧ fX8_read x1 M N = some (r0, Mz) ∧ RR Maz Fo Scz Se Trz Ch Usz Ta Dr G0 N0 G1 N1 G2 N2 G3 N3 Fo2 Sc2 Se2 Tr2 Fo3 Sc3 Se3 Tr3 Mz N
def P_image (RR : RT) : Prop := ∀ (Ma : ST) (Fo : ST) (Sc : ST) (Se : ST) (Tr : ST) (Ch : ST) (Us : ST) (Ta : ST) (Dr : ST) (G0 : ST) (N0 : LT) (G1 : ST) (N1 : LT) (G2 : ST) (N2 : LT) (G3 : ST) (N3 : LT) (Fo2 : ST) (Sc2 : ST) (Se2 : ST) (Tr2 : ST) (Fo3 : ST) (Sc3 : ST) (Se3 : ST) (Tr3 : ST) (M : ST) (N : LT), RR Ma Fo Sc Se Tr Ch Us Ta Dr G0 N0 G1 N1 G2 N2 G3 N3 Fo2 Sc2 Se2 Tr2 Fo3 Sc3 Se3 Tr3 M N → ∃ (r0 : Int32) (Maz : ST) (Fo2z : ST) (Sc2z : ST) (Se2z : ST) (Mz : ST), fX7_image Ma Fo Sc Se Fo2 Sc2 Se2 = some (r0, Maz, Fo2z, Sc2z, Se2z) ∧ fX8_image M = some (r0, Mz) ∧ RR Maz Fo Sc Se Tr Ch Us Ta Dr G0 N0 G1 N1 G2 N2 G3 N3 Fo2z Sc2z Se2z Tr2 Fo3 Sc3 Se3 Tr3 Mz N
def P_undo (RR : RT) : Prop := ∀ (Ma : ST) (Fo : ST) (Sc : ST) (Se : ST) (Tr : ST) (Ch : ST) (Us : ST) (Ta : ST) (Dr : ST) (G0 : ST) (N0 : LT) (G1 : ST) (N1 : LT) (G2 : ST) (N2 : LT) (G3 : ST) (N3 : LT) (Fo2 : ST) (Sc2 : ST) (Se2 : ST) (Tr2 : ST) (Fo3 : ST) (Sc3 : ST) (Se3 : ST) (Tr3 : ST) (M : ST) (N : LT), RR Ma Fo Sc Se Tr Ch Us Ta Dr G0 N0 G1 N1 G2 N2 G3 N3 Fo2 Sc2 Se2 Tr2 Fo3 Sc3 Se3 Tr3 M N → ∃ (r0 : Int32) (Maz : ST) (Foz : ST) (Scz : ST) (Sez : ST) (Mz : ST), fX7_undo Ma Fo Sc Se Fo2 Sc2 Se2 = some (r0, Maz, Foz, Scz, Sez) ∧ fX8_undo M = some (r0, Mz) ∧ RR Maz Foz Scz Sez Tr Ch Us Ta Dr G0 N0 G1 N1 G2 N2 G3 N3 Fo2 Sc2 Se2 Tr2 Fo3 Sc3 Se3 Tr3 Mz N
def P_tear (RR : RT) : Prop := ∀ (Ma : ST) (Fo : ST) (Sc : ST) (Se : ST) (Tr : ST) (Ch : ST) (Us : ST) (Ta : ST) (Dr : ST) (G0 : ST) (N0 : LT) (G1 : ST) (N1 : LT) (G2 : ST) (N2 : LT) (G3 : ST) (N3 : LT) (Fo2 : ST) (Sc2 : ST) (Se2 : ST) (Tr2 : ST) (Fo3 : ST) (Sc3 : ST) (Se3 : ST) (Tr3 : ST) (M : ST) (N : LT), RR Ma Fo Sc Se Tr Ch Us Ta Dr G0 N0 G1 N1 G2 N2 G3 N3 Fo2 Sc2 Se2 Tr2 Fo3 Sc3 Se3 Tr3 M N → ∃ (r0 : Int32) (Maz : ST) (Mz : ST), fX7_tear Ma = some (r0, Maz) ∧ fX8_tear M = some (r0, Mz) ∧ RR Maz Fo Sc Se Tr Ch Us Ta Dr G0 N0 G1 N1 G2 N2 G3 N3 Fo2 Sc2 Se2 Tr2 Fo3 Sc3 Se3 Tr3 Mz N
def P_count (RR : RT) : Prop := ∀ (x1 : Int32) (Ma : ST) (Fo : ST) (Sc : ST) (Se : ST) (Tr : ST) (Ch : ST) (Us : ST) (Ta : ST) (Dr : ST) (G0 : ST) (N0 : LT) (G1 : ST) (N1 : LT) (G2 : ST) (N2 : LT) (G3 : ST) (N3 : LT) (Fo2 : ST) (Sc2 : ST) (Se2 : ST) (Tr2 : ST) (Fo3 : ST) (Sc3 : ST) (Se3 : ST) (Tr3 : ST) (M : ST) (N : LT), RR Ma Fo Sc Se Tr Ch Us Ta Dr G0 N0 G1 N1 G2 N2 G3 N3 Fo2 Sc2 Se2 Tr2 Fo3 Sc3 Se3 Tr3 M N → ∃ (r0 : Int32) (Maz : ST) (Mz : ST), fX7_count x1 Ma Fo Se Ta = some (r0, Maz) ∧ fX8_count x1 M = some (r0, Mz) ∧ RR Maz Fo Sc Se Tr Ch Us Ta Dr G0 N0 G1 N1 G2 N2 G3 N3 Fo2 Sc2 Se2 Tr2 Fo3 Sc3 Se3 Tr3 Mz N
def P_status (RR : RT) : Prop := ∀ (x1 : Int32) (Ma : ST) (Fo : ST) (Sc : ST) (Se : ST) (Tr : ST) (Ch : ST) (Us : ST) (Ta : ST) (Dr : ST) (G0 : ST) (N0 : LT) (G1 : ST) (N1 : LT) (G2 : ST) (N2 : LT) (G3 : ST) (N3 : LT) (Fo2 : ST) (Sc2 : ST) (Se2 : ST) (Tr2 : ST) (Fo3 : ST) (Sc3 : ST) (Se3 : ST) (Tr3 : ST) (M : ST) (N : LT), RR Ma Fo Sc Se Tr Ch Us Ta Dr G0 N0 G1 N1 G2 N2 G3 N3 Fo2 Sc2 Se2 Tr2 Fo3 Sc3 Se3 Tr3 M N → ∃ (r0 : Int32) (Maz : ST) (Mz : ST), fX7_status x1 Ma = some (r0, Maz) ∧ fX8_status x1 M = some (r0, Mz) ∧ RR Maz Fo Sc Se Tr Ch Us Ta Dr G0 N0 G1 N1 G2 N2 G3 N3 Fo2 Sc2 Se2 Tr2 Fo3 Sc3 Se3 Tr3 Mz N
abbrev wX (cs : Nat → ClassId) (ad : Nat → Nat → Nat) (Ma : ST) (Fo : ST) (Sc : ST) (Se : ST) (Tr : ST) (Ch : ST) (Us : ST) (Ta : ST) (Dr : ST) (G0 : ST) (N0 : LT) (G1 : ST) (N1 : LT) (G2 : ST) (N2 : LT) (G3 : ST) (N3 : LT) (Fo2 : ST) (Sc2 : ST) (Se2 : ST) (Tr2 : ST) (Fo3 : ST) (Sc3 : ST) (Se3 : ST) (Tr3 : ST) : va_W := ((kX7 cs (ad 0) (.ref ((ad 1) 0)) (.ref ((ad 19) 0)) (.ref ((ad 24) 0)) (.ref ((ad 6) 0)) (.ref ((ad 8) 0)) (.ref ((ad 10) 0)) Ma) ++ ((kX2 cs (ad 1) (.ref ((ad 2) 0)) (.ref ((ad 3) 0)) (.ref ((ad 5) 0)) (.ref ((ad 4) 0)) ) ++ ((kX1 cs (ad 2)  Fo) ++ ((kX3 cs (ad 3)  Sc) ++ ((kX4 cs (ad 4) (.ref ((ad 2) 0)) (.ref ((ad 3) 0)) (.ref ((ad 5) 0)) Se) ++ ((kX4 cs (ad 5) (.ref ((ad 2) 0)) (.ref ((ad 3) 0)) .null Tr) ++ ((kX0 cs (ad 6) (.ref ((ad 1) 0)) (.ref ((ad 7) 0)) Ch) ++ ((kX4 cs (ad 7) (.ref ((ad 2) 0)) (.ref ((ad 3) 0)) (.ref ((ad 5) 0)) Us) ++ ((kX6 cs (ad 8) (.ref ((ad 9) 0)) Ta) ++ ((kX3 cs (ad 9)  Dr) ++ ((kSA cs (ad 10) ((ad 11) 0) ((ad 13) 0) ((ad 15) 0) ((ad 17) 0)) ++ ((kX5 cs (ad 11) (.ref ((ad 12) 0)) G0) ++ ((kJ40 cs (ad 12) N0) ++ ((kX5 cs (ad 13) (.ref ((ad 14) 0)) G1) ++ ((kJ40 cs (ad 14) N1) ++ ((kX5 cs (ad 15) (.ref ((ad 16) 0)) G2) ++ ((kJ40 cs (ad 16) N2) ++ ((kX5 cs (ad 17) (.ref ((ad 18) 0)) G3) ++ ((kJ40 cs (ad 18) N3) ++ ((kX2 cs (ad 19) (.ref ((ad 20) 0)) (.ref ((ad 21) 0)) (.ref ((ad 23) 0)) (.ref ((ad 22) 0)) ) ++ ((kX1 cs (ad 20)  Fo2) ++ ((kX3 cs (ad 21)  Sc2) ++ ((kX4 cs (ad 22) (.ref ((ad 20) 0)) (.ref ((ad 21) 0)) (.ref ((ad 23) 0)) Se2) ++ ((kX4 cs (ad 23) (.ref ((ad 20) 0)) (.ref ((ad 21) 0)) .null Tr2) ++ ((kX2 cs (ad 24) (.ref ((ad 25) 0)) (.ref ((ad 26) 0)) (.ref ((ad 28) 0)) (.ref ((ad 27) 0)) ) ++ ((kX1 cs (ad 25)  Fo3) ++ ((kX3 cs (ad 26)  Sc3) ++ ((kX4 cs (ad 27) (.ref ((ad 25) 0)) (.ref ((ad 26) 0)) (.ref ((ad 28) 0)) Se3) ++ ((kX4 cs (ad 28) (.ref ((ad 25) 0)) (.ref ((ad 26) 0)) .null Tr3))))))))))))))))))))))))))))))
abbrev wB (cs : Nat → ClassId) (ad bd : Nat → Nat → Nat) (Ma : ST) (Fo : ST) (Sc : ST) (Se : ST) (Tr : ST) (Ch : ST) (Us : ST) (Ta : ST) (Dr : ST) (G0 : ST) (N0 : LT) (G1 : ST) (N1 : LT) (G2 : ST) (N2 : LT) (G3 : ST) (N3 : LT) (Fo2 : ST) (Sc2 : ST) (Se2 : ST) (Tr2 : ST) (Fo3 : ST) (Sc3 : ST) (Se3 : ST) (Tr3 : ST) (M : ST) (N : LT) : Nat → va_W := fun i => match i with
  | 0 => kX7 cs (ad 0) (.ref ((ad 1) 0)) (.ref ((ad 19) 0)) (.ref ((ad 24) 0)) (.ref ((ad 6) 0)) (.ref ((ad 8) 0)) (.ref ((ad 10) 0)) Ma
  | 1 => kX2 cs (ad 1) (.ref ((ad 2) 0)) (.ref ((ad 3) 0)) (.ref ((ad 5) 0)) (.ref ((ad 4) 0)) 
  | 2 => kX1 cs (ad 2)  Fo
  | 3 => kX3 cs (ad 3)  Sc
  | 4 => kX4 cs (ad 4) (.ref ((ad 2) 0)) (.ref ((ad 3) 0)) (.ref ((ad 5) 0)) Se
  | 5 => kX4 cs (ad 5) (.ref ((ad 2) 0)) (.ref ((ad 3) 0)) .null Tr
  | 6 => kX0 cs (ad 6) (.ref ((ad 1) 0)) (.ref ((ad 7) 0)) Ch
  | 7 => kX4 cs (ad 7) (.ref ((ad 2) 0)) (.ref ((ad 3) 0)) (.ref ((ad 5) 0)) Us
  | 8 => kX6 cs (ad 8) (.ref ((ad 9) 0)) Ta
  | 9 => kX3 cs (ad 9)  Dr
  | 10 => kSA cs (ad 10) ((ad 11) 0) ((ad 13) 0) ((ad 15) 0) ((ad 17) 0)
  | 11 => kX5 cs (ad 11) (.ref ((ad 12) 0)) G0
  | 12 => kJ40 cs (ad 12) N0
  | 13 => kX5 cs (ad 13) (.ref ((ad 14) 0)) G1
  | 14 => kJ40 cs (ad 14) N1
  | 15 => kX5 cs (ad 15) (.ref ((ad 16) 0)) G2
  | 16 => kJ40 cs (ad 16) N2
  | 17 => kX5 cs (ad 17) (.ref ((ad 18) 0)) G3
  | 18 => kJ40 cs (ad 18) N3
  | 19 => kX2 cs (ad 19) (.ref ((ad 20) 0)) (.ref ((ad 21) 0)) (.ref ((ad 23) 0)) (.ref ((ad 22) 0)) 
  | 20 => kX1 cs (ad 20)  Fo2
  | 21 => kX3 cs (ad 21)  Sc2
  | 22 => kX4 cs (ad 22) (.ref ((ad 20) 0)) (.ref ((ad 21) 0)) (.ref ((ad 23) 0)) Se2
  | 23 => kX4 cs (ad 23) (.ref ((ad 20) 0)) (.ref ((ad 21) 0)) .null Tr2
  | 24 => kX2 cs (ad 24) (.ref ((ad 25) 0)) (.ref ((ad 26) 0)) (.ref ((ad 28) 0)) (.ref ((ad 27) 0)) 
  | 25 => kX1 cs (ad 25)  Fo3
  | 26 => kX3 cs (ad 26)  Sc3
  | 27 => kX4 cs (ad 27) (.ref ((ad 25) 0)) (.ref ((ad 26) 0)) (.ref ((ad 28) 0)) Se3
  | 28 => kX4 cs (ad 28) (.ref ((ad 25) 0)) (.ref ((ad 26) 0)) .null Tr3
  | 29 => kX8 cs (bd 0) (.ref ((bd 1) 0)) M
  | _ => kJ160 cs (bd 1) N
abbrev wM (cs : Nat → ClassId) (bd : Nat → Nat → Nat) (M : ST) (N : LT) : va_W := ((kX8 cs (bd 0) (.ref ((bd 1) 0)) M) ++ ((kJ160 cs (bd 1) N)))
def LC (p : Program) (s : State) (m : MethodId) (c : Code) (b L : Nat) (xs : Nat → Int32) (D : va_G) (cs : Nat → ClassId) (A : Nat → Prop) : Prop := p.tables.exec = Jvm.exec ∧ c.code = code ∧ c.maxLocals = 4 ∧ s.vm.findClass "NextButOneLaw" = some m.cls ∧ (∀ w ∈ uw, w.before #[Value.ref b] s = true) ∧ gK D cs s ∧ gZ cs A s ∧ va_X b L xs s s.heap ∧ b < s.heap.size ∧ ¬ A b ∧ (∀ q, s.heap.size ≤ q → A q)
