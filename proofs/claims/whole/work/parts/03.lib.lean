-- LIB: pure combinators of the decompiled functions, contracts, calls
abbrev ST : Type := Nat → Nat → Int32
abbrev LT : Type := Nat → Int64
abbrev tyL (cs : Nat → ClassId) : List (ClassId × FieldType) := [(cs 0, .int), (cs 1, .long), (cs 2, .char), (cs 3, .boolean), (cs 4, .object "NextButOne$Sheet")]
abbrev wsm (y : MethodName) (b : ByteArray) (n : Nat) (r : Option FieldType) : List Cond := .code y b n r :: uw
def dc_lt {α β : Type} (x : α) (k : α → Option β) : Option β := k x
def dc_ck {β : Type} (i : Int32) (n : Nat) (k : Option β) : Option β := if (i < 0 ∨ n ≤ i.toNatClampNeg) then none else k
def dc_dz {β : Type} (y : Int32) (k : Option β) : Option β := if y = 0 then none else k
def dc_b1 {α β : Type} (o : Option α) (k : α → Option β) : Option β := match o with
  | none => none
  | some a => k a
def dc_b2 {α γ β : Type} (o : Option (α × γ)) (k : α → γ → Option β) : Option β := match o with
  | none => none
  | some (a, b) => k a b
def dc_b3 {α γ δ β : Type} (o : Option (α × γ × δ)) (k : α → γ → δ → Option β) : Option β := match o with
  | none => none
  | some (a, b, c) => k a b c
def dc_b4 {α γ δ ε β : Type} (o : Option (α × γ × δ × ε)) (k : α → γ → δ → ε → Option β) : Option β := match o with
  | none => none
  | some (a, b, c, d) => k a b c d
def dc_b5 {α γ δ ε ζ β : Type} (o : Option (α × γ × δ × ε × ζ)) (k : α → γ → δ → ε → ζ → Option β) : Option β := match o with
  | none => none
  | some (a, b, c, d, e) => k a b c d e
theorem lt_el {α β : Type} {x : α} {k : α → Option β} {r : β} (h : dc_lt x k = some r) : ∃ y, y = x ∧ k y = some r := ⟨x, rfl, h⟩
theorem ck_el {β : Type} {i : Int32} {n : Nat} {k : Option β} {r : β} (h : dc_ck i n k = some r) : vp_in i n ∧ k = some r := by
  unfold dc_ck at h
  by_cases q : (i < 0 ∨ n ≤ i.toNatClampNeg)
  · rw [if_pos q] at h; cases h
  · rw [if_neg q] at h; exact ⟨q, h⟩
theorem dz_el {β : Type} {y : Int32} {k : Option β} {r : β} (h : dc_dz y k = some r) : ¬ y = 0 ∧ k = some r := by
  unfold dc_dz at h
  by_cases q : y = 0
  · rw [if_pos q] at h; cases h
  · rw [if_neg q] at h; exact ⟨q, h⟩
theorem b1_el {α β : Type} {o : Option α} {k : α → Option β} {r : β} (h : dc_b1 o k = some r) : ∃ a, o = some a ∧ k a = some r := by
  cases o with
  | none => cases h
  | some a => exact ⟨a, rfl, h⟩
theorem b2_el {α γ β : Type} {o : Option (α × γ)} {k : α → γ → Option β} {r : β} (h : dc_b2 o k = some r) : ∃ a b, o = some (a, b) ∧ k a b = some r := by
  cases o with
  | none => cases h
  | some a => exact ⟨a.1, a.2, rfl, h⟩
theorem b3_el {α γ δ β : Type} {o : Option (α × γ × δ)} {k : α → γ → δ → Option β} {r : β} (h : dc_b3 o k = some r) : ∃ a b c, o = some (a, b, c) ∧ k a b c = some r := by
  cases o with
  | none => cases h
  | some a => exact ⟨a.1, a.2.1, a.2.2, rfl, h⟩
theorem b4_el {α γ δ ε β : Type} {o : Option (α × γ × δ × ε)} {k : α → γ → δ → ε → Option β} {r : β} (h : dc_b4 o k = some r) : ∃ a b c d, o = some (a, b, c, d) ∧ k a b c d = some r := by
  cases o with
  | none => cases h
  | some a => exact ⟨a.1, a.2.1, a.2.2.1, a.2.2.2, rfl, h⟩
theorem b5_el {α γ δ ε ζ β : Type} {o : Option (α × γ × δ × ε × ζ)} {k : α → γ → δ → ε → ζ → Option β} {r : β} (h : dc_b5 o k = some r) : ∃ a b c d e, o = some (a, b, c, d, e) ∧ k a b c d e = some r := by
  cases o with
  | none => cases h
  | some a => exact ⟨a.1, a.2.1, a.2.2.1, a.2.2.2.1, a.2.2.2.2, rfl, h⟩
theorem no_el {β : Type} {r : β} {P : Prop} (h : (none : Option β) = some r) : P := by cases h
theorem ip_el {β : Type} {c : Prop} [Decidable c] {a b : Option β} {r : β} (hc : c) (h : (if c then a else b) = some r) : a = some r := by rw [if_pos hc] at h; exact h
theorem in_el {β : Type} {c : Prop} [Decidable c] {a b : Option β} {r : β} (hc : ¬ c) (h : (if c then a else b) = some r) : b = some r := by rw [if_neg hc] at h; exact h
/-- a place of a row becomes v -/
def sti (M : ST) (k i : Nat) (v : Int32) : ST := va_up M k (upd (M k) i v)
/-- what all contracts take as given of the tables, beside the words -/
def gK (D : va_G) (cs : Nat → ClassId) (U : State) : Prop := va_K D vwCl (tyL cs) U ∧ va_Nw (.methodLinkNest "NextButOne$Folk" 50 yX7_isIn "NextButOne") U ∧ va_Nw (.methodLinkNest "NextButOne$Seat" 84 yX7_isIn "NextButOne") U
theorem gK.warm {D : va_G} {cs : Nat → ClassId} {s U : State} (hW : s.WarmedH U.vm) (h : gK D cs s) : gK D cs U := ⟨va_K.moved hW.alike h.1, h.2.1.warmM hW, h.2.2.warmM hW⟩
theorem gK.blind {D : va_G} {cs : Nat → ClassId} {U : State} {g : JFrame} {mk : MethodId} {a : Array Value} (h : gK D cs U) : gK D cs (U.calling g mk a) := ⟨va_K.moved (u := U) (U := U.calling g mk a) (Vm.Alike.refl U.vm) h.1, va_Nw.same rfl rfl h.2.1, va_Nw.same rfl rfl h.2.2⟩
def tabK : Nat → Int32 := fun j => ([-1, 0, 1, 0, 0, 0, 0] : List Int32).getD j 0
def tabL : Nat → Int32 := fun j => ([1, 1, 0, 0, 0, 0] : List Int32).getD j 0
def tabM : Nat → Int32 := fun j => ([4, 40, 1, 1, 2, 20] : List Int32).getD j 0
def tabS : Nat → Int32 := fun j => (([[108, 97, 115, 119, 114, 110]] : List (List Int32)).getD 0 []).getD j 0
/-- statics and the one text: they lie outside of all that is written -/
def gZ (cs : Nat → ClassId) (A : Nat → Prop) (U : State) : Prop :=
  (va_Z "NextButOne" "KIND_ABOVE" "[I" (.ref (cs 10)) A U U.heap ∧ va_T .int (cs 10) 7 (fun j => .int (tabK j)) A U U.heap) ∧ (va_Z "NextButOne" "RULE_LEAST" "[I" (.ref (cs 11)) A U U.heap ∧ va_T .int (cs 11) 6 (fun j => .int (tabL j)) A U U.heap) ∧ (va_Z "NextButOne" "RULE_MOST" "[I" (.ref (cs 12)) A U U.heap ∧ va_T .int (cs 12) 6 (fun j => .int (tabM j)) A U U.heap) ∧
  va_Z "java/lang/String" "COMPACT_STRINGS" "Z" (.int 1) A U U.heap ∧ vk_R "NextButOne$Tape" 73 "laswrn" (cs 13) U ∧ vk_S 1 [6] [[108, 97, 115, 119, 114, 110]] (fun _ => cs 13) (fun _ => cs 14) A U U.heap
theorem gZ.blind {cs : Nat → ClassId} {A : Nat → Prop} {U : State} {g : JFrame} {mk : MethodId} {a : Array Value} (h : gZ cs A U) : gZ cs A (U.calling g mk a) := by
  obtain ⟨⟨h1, h2⟩, ⟨h3, h4⟩, ⟨h5, h6⟩, h7, h8, h9⟩ := h
  exact ⟨⟨va_Z.moved (u := U) (U := U.calling g mk a) (Vm.Alike.refl U.vm) h1, va_T.moved (u := U) (U := U.calling g mk a) (Vm.Alike.refl U.vm) h2⟩, ⟨va_Z.moved (u := U) (U := U.calling g mk a) (Vm.Alike.refl U.vm) h3, va_T.moved (u := U) (U := U.calling g mk a) (Vm.Alike.refl U.vm) h4⟩, ⟨va_Z.moved (u := U) (U := U.calling g mk a) (Vm.Alike.refl U.vm) h5, va_T.moved (u := U) (U := U.calling g mk a) (Vm.Alike.refl U.vm) h6⟩, va_Z.moved (u := U) (U := U.calling g mk a) (Vm.Alike.refl U.vm) h7, vk_R.same (u := U) (U := U.calling g mk a) rfl h8, vk_S.moved (u := U) (U := U.calling g mk a) (Vm.Alike.refl U.vm) h9⟩
theorem gZ.call {cs : Nat → ClassId} {A B : Nat → Prop} {s U : State} {H : Heap} {locs : List Loc} (hW : s.WarmedH U.vm) (hU : U.heap = H) (hS : va_S A s.heap H locs) (hF : ∀ q, B q → A q) (h : gZ cs A s) : gZ cs B U := by
  obtain ⟨⟨h1, h2⟩, ⟨h3, h4⟩, ⟨h5, h6⟩, h7, h8, h9⟩ := h
  unfold gZ
  rw [hU]
  exact ⟨⟨((h1.kept hS.2.1).narrow hF).moved hW.alike, ((h2.kept hS.2.1).narrow hF).moved hW.alike⟩, ⟨((h3.kept hS.2.1).narrow hF).moved hW.alike, ((h4.kept hS.2.1).narrow hF).moved hW.alike⟩, ⟨((h5.kept hS.2.1).narrow hF).moved hW.alike, ((h6.kept hS.2.1).narrow hF).moved hW.alike⟩, ((h7.kept hS.2.1).narrow hF).moved hW.alike, h8.warm hW, ((h9.kept hS.2.1).narrow hF).moved hW.alike⟩
def gPre (D : va_G) (cs : Nat → ClassId) (w0 : va_W) (sz : Nat) (U : State) : Prop := U.heap.size = sz ∧ va_P D vwCl w0 U.heap ∧ gK D cs U ∧ va_D (fun _ => True) w0 ∧ gZ cs (va_A w0 sz) U
def gPost (D : va_G) (rv : Option Value) (w0 w1 : va_W) (sz : Nat) (st : State) (oc : Outcome) (t : State) : Prop := (oc = .returned rv ∧ va_P D vwCl w1 t.heap ∧ va_D (va_A w0 sz) w1) ∧ va_F (va_A w0 sz) st t
/-- a contract: from the cells w0 the method comes to the cells w1, with the answer rv; nothing is made -/
def CG (l : Launch) (y : MethodName) (ws : List Cond) (rm : Room) (D : va_G) (cs : Nat → ClassId) (av : List Value) (rv : Option Value) (w0 w1 : va_W) : Prop :=
  ∀ sz : Nat, Met l y ws rm (va_Pc av (gPre D cs w0 sz)) (fun _ st oc t => gPost D rv w0 w1 sz st oc t) 0 0 (va_A w0 sz)
/-- what a walk's end must be -/
def gEnd (p : Program) (l : Launch) (e : Env) (rm : Room) (s : State) (m : MethodId) (av : List Value) (below : List Frame) (meth : Method) (c : Code) (D : va_G) (A : Nat → Prop) (w1 : va_W) (Q : State → Prop) (g : JFrame) : Prop :=
  ∀ (w : va_W) (H : Heap) (locs : List Loc), w = w1 → va_P D vwCl w H → va_D A w → va_S A s.heap H locs → W p l e rm s m av.toArray below meth c H locs 0 0 Q g
theorem CG.intro {l : Launch} {y : MethodName} {cc : ByteArray} {maxL : Nat} {ret : Option FieldType} {rm : Room} {D : va_G} {cs : Nat → ClassId} {av : List Value} {rv : Option Value} {w0 w1 : va_W}
    (hy : plainName y.cls = true) (hav : (lg_sl av).length ≤ maxL)
    (body : ∀ (p : Program) (e : Env) (s : State) (m : MethodId) (below : List Frame) (meth : Method) (c : Code) (A : Nat → Prop) (Q : State → Prop), p.tables.exec = Jvm.exec → c.code = cc → c.maxLocals = maxL → s.vm.findClass y.cls = some m.cls → (∀ w ∈ uw, w.before av.toArray s = true) → gK D cs s → gZ cs A s → va_P D vwCl w0 s.heap → va_D A w0 → va_S A s.heap s.heap [] → (∀ q, s.heap.size ≤ q → A q) →
      (∀ (v : Int32) (pc : Nat) (ls : Array Slot), ret = some .int → rv = some (.int v) → decode cc pc = .ok (.ireturn, 1) → gEnd p l e rm s m av below meth c D A w1 Q (F0 m pc ls [.int v])) →
      (∀ (v : Int32) (pc : Nat) (ls : Array Slot) (ty : FieldType), ret = some ty → narrow ty (.int v) = .int v → rv = some (.int v) → decode cc pc = .ok (.ireturn, 1) → gEnd p l e rm s m av below meth c D A w1 Q (F0 m pc ls [.int v])) →
      (∀ (v : Int64) (pc : Nat) (ls : Array Slot), ret = some .long → rv = some (.long v) → decode cc pc = .ok (.lreturn, 1) → gEnd p l e rm s m av below meth c D A w1 Q (F0 m pc ls [.long v])) →
      (∀ (pc : Nat) (ls : Array Slot), ret = none → rv = none → decode cc pc = .ok (.return_, 1) → gEnd p l e rm s m av below meth c D A w1 Q (F0 m pc ls [])) →
      (∀ (v : Nat) (pc : Nat) (ls : Array Slot) (ty : FieldType), ret = some (.array ty) → rv = some (.ref v) → decode cc pc = .ok (.areturn, 1) → gEnd p l e rm s m av below meth c D A w1 Q (F0 m pc ls [.ref v])) →
      ∀ (ls : Array Slot), lv_has ls maxL (lv_args 0 av) → W p l e rm s m av.toArray below meth c s.heap [] 0 0 Q (F0 m 0 ls [])) :
    CG l y (wsm y cc maxL ret) rm D cs av rv w0 w1 := by
  intro sz
  refine Met.ofW (cc := cc) (maxL := maxL) (ret := ret) hy rfl ?_
  intro p e s m args below meth c s₁ B hml hv
  obtain ⟨rfl, hsz, hP, hK, hD0, hZ⟩ := hv
  have hx := B.exec
  have hb := B.bytes
  have hr := B.returns
  have hlocks := B.notSynchronized
  have hts := atoms_spec (ws := wsm y cc maxL ret) B.pre
  have hown : s.vm.findClass y.cls = some m.cls := findClass_of_methodNamed B.named
  subst hsz
  have hD := hD0.self (sz := s.heap.size)
  have hl := lv_entry av (n := maxL) hav
  rw [lg_entry_eq]
  refine body p e s m below meth c (va_A w0 s.heap.size) _ hx hb hml hown (fun w h => hts w (List.mem_cons_of_mem _ h)) hK hZ hP hD va_S.rf (fun q h => Or.inr h) ?_ ?_ ?_ ?_ ?_ _ hl
  · intro v pc ls h1 h2 hd w H locs hw hP hD hS
    subst hw
    exact W.iret hx hb (hr.trans h1) (fun t ht hW => ⟨⟨by rw [h2], by rw [ht]; exact hP, hD⟩, hS.F ht⟩) hS.2.2 hd hlocks
  · intro v pc ls ty h1 hn h2 hd w H locs hw hP hD hS
    subst hw
    exact W.zret hx hb (hr.trans h1) hn (fun t ht hW => ⟨⟨by rw [h2], by rw [ht]; exact hP, hD⟩, hS.F ht⟩) hS.2.2 hd hlocks
  · intro v pc ls h1 h2 hd w H locs hw hP hD hS
    subst hw
    exact W.lret hx hb (hr.trans h1) (fun t ht hW => ⟨⟨by rw [h2], by rw [ht]; exact hP, hD⟩, hS.F ht⟩) hS.2.2 hd hlocks
  · intro pc ls h1 h2 hd w H locs hw hP hD hS
    subst hw
    exact W.vret hx hb (hr.trans h1) (fun t ht hW => ⟨⟨by rw [h2], by rw [ht]; exact hP, hD⟩, hS.F ht⟩) hS.2.2 hd hlocks
  · intro v pc ls ty h1 h2 hd w H locs hw hP hD hS
    subst hw
    exact W.aret hx hb (hr.trans h1) (Or.inr ⟨_, rfl⟩) (Or.inr ⟨_, rfl⟩) (fun t ht hW => ⟨⟨by rw [h2], by rw [ht]; exact hP, hD⟩, hS.F ht⟩) hS.2.2 hd hlocks

theorem rg_map (w : va_W) : (List.range w.length).map (fun i => w[i]?) = w.map some := by
  apply List.ext_getElem
  · simp
  · intro i h1 h2
    have h : i < w.length := by simpa using h2
    simp [h]
theorem nd_gt : ∀ (l : List Nat), l.Nodup → va_nd l = true := by
  intro l
  induction l with
  | nil => intro _; rfl
  | cons a t ih =>
    intro h
    have h1 := List.nodup_cons.mp h
    simp [va_nd, h1.1, ih h1.2]
theorem nd_rg (n : Nat) : va_nd (List.range n) = true := nd_gt _ List.nodup_range
section DCC
variable {p : Program} {l : Launch} {e : Env} {R : Room} {s : State} {m : MethodId} {args : Array Value} {below : List Frame} {meth : Method} {c : Code} {H : Heap} {locs : List Loc} {Q : State → Prop}
variable {cc : ByteArray} {pc : Nat} {ls : Array Slot} {rest st0 : List Value}
theorem lv_tope {x y : Int32} (h : y = x) (k : W p l e R s m args below meth c H locs 0 0 Q (F0 m pc ls (.int y :: rest))) : W p l e R s m args below meth c H locs 0 0 Q (F0 m pc ls (.int x :: rest)) := h ▸ k
theorem lv_topel {x y : Int64} (h : y = x) (k : W p l e R s m args below meth c H locs 0 0 Q (F0 m pc ls (.long y :: rest))) : W p l e R s m args below meth c H locs 0 0 Q (F0 m pc ls (.long x :: rest)) := h ▸ k
/-- behind a call, by its contract -/
theorem cc_run {D : va_G} {cs : Nat → ClassId} {rv : Option Value} {A : Nat → Prop} {w wc wc' wr w' : va_W} {a : Array Value} {g : JFrame} (hg : g = F0 m pc ls st0)
    (hr : va_Run p l e R s m args below meth c H locs 0 0 0 0 g rest (fun st oc t => gPost D rv wc wc' H.size st oc t) (va_A wc H.size))
    (hP : va_P D vwCl w H) (hD : va_D A w) (hS : va_S A s.heap H locs) (hA : ∀ q, s.heap.size ≤ q → A q) (isC isR isB : List Nat)
    (hC : isC.map (fun i => w[i]?) = wc.map some) (hR : isR.map (fun i => w[i]?) = wr.map some) (hn : va_nd isR = true) (hdis : isR.all (fun i => !(isC.contains i)) = true)
    (hB : isB.map (fun i => (wr ++ wc')[i]?) = w'.map some) (hnB : va_nd isB = true)
    (kk : ∀ (H1 : Heap) (locs1 : List Loc), va_P D vwCl w' H1 → va_D A w' → va_S A s.heap H1 locs1 → W p l e R s m args below meth c H1 locs1 0 0 Q (F0 m (pc + 3) ls (rv.toList ++ rest))) : W p l e R s m args below meth c H locs 0 0 Q (F0 m pc ls st0) := by
  subst hg
  have hF := va_free (wc := wc) hD hS hA isC hC
  intro T hT X
  obtain ⟨v, st₀, t, T', L, h0, X', hL, e1, e2, ⟨⟨hv, hP1, hD1⟩, hz, hk⟩, st⟩ := hr T hT X
  have hv : v = rv := by cases hv; rfl
  subst hv
  rw [h0] at hz hk
  have hdis' : ∀ i ∈ isR, i ∉ isC := by
    intro i hi hc
    have := List.all_eq_true.mp hdis i hi
    simp [hc] at this
  obtain ⟨hP2, hD2⟩ := va_join hP hD isC isR hC hR hn hdis' hk hF hP1 hD1
  have hB' : isB.filterMap (fun i => (wr ++ wc')[i]?) = w' := by
    have h1 : ∀ (l : List Nat) (f : Nat → Option (Nat × va_E)) (w : va_W), l.map f = w.map some → l.filterMap f = w := by
      intro l f
      induction l with
      | nil => intro w h; cases w with
        | nil => rfl
        | cons a b => cases h
      | cons x xs ih => intro w h; cases w with
        | nil => cases h
        | cons a b =>
          simp only [List.map_cons, List.cons.injEq] at h
          rw [List.filterMap_cons, h.1, ih b h.2]
    exact h1 _ _ _ hB
  have hP3 : va_P D vwCl w' T'.heap := by rw [e1]; exact hP2.sub isB hB'
  have hD3 : va_D A w' := hD2.sub isB hnB hB
  obtain ⟨t2, a1, b1⟩ := kk T'.heap (locs ++ L) hP3 hD3 ⟨Nat.le_trans hS.1 (by rw [e1]; exact hz), fun q h1 h2 => by rw [e1, hk q (Nat.lt_of_lt_of_le h1 hS.1) (fun z => h2 (hF q z))]; exact hS.2.1 q h1 h2, fun q hq => by
      rcases List.mem_append.mp hq with h | h
      · exact hS.2.2 q h
      · exact hF _ (hL q h)⟩ T' rfl X'
  exact ⟨t2, st t2 a1, b1⟩
theorem good_uw {c0 : Cond} {y : MethodName} {b : ByteArray} {n : Nat} {r : Option FieldType} (hc : Cond.code y b n r ∈ uw) : GoodIn uw (wsm y b n r) := by
  intro w hw
  have h1 : w ∈ uw := by
    rcases List.mem_cons.mp hw with h | h
    · rw [h]; exact hc
    · exact h
  exact ⟨h1, good_of_word (List.mem_filter.mp h1).2⟩
theorem gPre.blind {D : va_G} {cs : Nat → ClassId} {w0 : va_W} {sz : Nat} {av : List Value} : FrameBlind (va_Pc av (gPre D cs w0 sz)) := by
  intro a U g mk q
  obtain ⟨q0, q1, qP, qK, qD, qZ⟩ := q
  exact ⟨q0, q1, qP, qK.blind, qD, qZ.blind⟩
/-- a call of an instance method (invokevirtual), private ones of the same class too -/
theorem cc_V {D : va_G} {cs : Nat → ClassId} {rv : Option Value} {A : Nat → Prop} {w wc wc' wr w' : va_W} {own : String} {index maxL nL n ci b N : Nat} {Tt : u_T} {fs : List Value} {y : MethodName} {bytes : ByteArray} {ret : Option FieldType} {rm : Room} (As : List Value)
    (hx : p.tables.exec = Jvm.exec) (hb : c.code = cc) (hml : c.maxLocals = nL) (hown : s.vm.findClass own = some m.cls) (hu : ∀ w ∈ uw, w.before args s = true)
    (hM : CG l y (wsm y bytes maxL ret) rm D cs (.ref b :: As) rv wc wc')
    (hcode : Cond.code y bytes maxL ret ∈ uw) (hini : Cond.initialized y.cls ∈ uw) (hl : Cond.methodLink own index y ∈ uw) (hin : Cond.instanceMethod y ∈ uw) (hse : Cond.selects y.cls y y ∈ uw)
    (hd : y.cls ≠ "java/lang/invoke/MethodHandle" ∧ y.cls ≠ "java/lang/invoke/VarHandle" ∧ (parseMethodDescriptor y.desc).map (fun d => d.parameters.length) = some n)
    (hR0 : rm.cells = 0 ∧ rm.slots = 0 ∧ rm.frames + 1 ≤ R.frames ∧ 8 + (maxL + 11) + rm.locals ≤ R.locals)
    (hK : gK D cs s) (hZ : gZ cs A s) (hP : va_P D vwCl w H) (hD : va_D A w) (hS : va_S A s.heap H locs) (hA : ∀ q, s.heap.size ≤ q → A q) (isC isR isB : List Nat)
    (hC : isC.map (fun i => w[i]?) = wc.map some) (hR : isR.map (fun i => w[i]?) = wr.map some) (hn : va_nd isR = true) (hdis : isR.all (fun i => !(isC.contains i)) = true)
    (hB : isB.map (fun i => (wr ++ wc')[i]?) = w'.map some) (hnB : va_nd isB = true) (hnC : va_nd isC = true)
    (hrv : wc[0]? = some (b, .inr (ci, fs))) (hcl : vwCl[ci]? = some (y.cls, Tt, N)) (hlen : As.length = n) (hsz : ls.size = nL) (hst : st0 = As.reverse ++ .ref b :: rest) (hrm : (rest.map fun v => v.category).sum ≤ 8)
    (hdg : decode cc pc = .ok (.invokevirtual index, 3))
    {st1 : List Value} (hst1 : rv.toList ++ rest = st1)
    (kk : ∀ (H1 : Heap) (locs1 : List Loc), va_P D vwCl w' H1 → va_D A w' → va_S A s.heap H1 locs1 → W p l e R s m args below meth c H1 locs1 0 0 Q (F0 m (pc + 3) ls st1)) : W p l e R s m args below meth c H locs 0 0 Q (F0 m pc ls st0) := by
  subst hst1
  have hPc : va_P D vwCl wc H := by
    intro k q hq
    have h1 : (isC.map (fun i => w[i]?))[k]? = some (some q) := by rw [hC, List.getElem?_map, hq]; rfl
    rw [List.getElem?_map] at h1
    cases hi : isC[k]? with
    | none => rw [hi] at h1; cases h1
    | some i => rw [hi] at h1; exact hP i q (Option.some.inj h1)
  have hDc := hD.sub isC hnC hC
  refine cc_run (cs := cs) (rv := rv) (wc := wc) (wc' := wc') (wr := wr) (a := #[]) rfl ?_ hP hD hS hA isC isR isB hC hR hn hdis hB hnB kk
  have cw : CallW R s args own y.cls index y bytes maxL ret (wsm y bytes maxL ret) rm 0 0 n := ⟨callB_of n hu (good_uw (c0 := .tt) hcode) rfl hR0.1 hR0.2.1 (hu _ hini) (hu _ hl) hd hR0.2.2, hu _ hin, hu _ hse⟩
  exact va_runV (As := As) (rest := rest) ⟨hx, hb, hml, hown, hu⟩ (hM H.size) cw ⟨gPre.blind, va_recv hK.1 hPc hcl hrv, fun U hU hW => ⟨rfl, by rw [hU], by rw [hU]; exact hPc, hK.warm hW, hDc.weaken (fun _ _ _ _ => trivial), hZ.call hW hU hS (va_free (wc := wc) hD hS hA isC hC)⟩⟩ rfl hlen hsz hst (lv_room hrm) hdg ⟨Nat.zero_le _, Nat.zero_le _⟩
/-- a call of a static method -/
theorem cc_S {D : va_G} {cs : Nat → ClassId} {rv : Option Value} {A : Nat → Prop} {w wc wc' wr w' : va_W} {own : String} {index maxL nL n : Nat} {y : MethodName} {bytes : ByteArray} {ret : Option FieldType} {rm : Room} (As : List Value)
    (hx : p.tables.exec = Jvm.exec) (hb : c.code = cc) (hml : c.maxLocals = nL) (hown : s.vm.findClass own = some m.cls) (hu : ∀ w ∈ uw, w.before args s = true)
    (hM : CG l y (wsm y bytes maxL ret) rm D cs As rv wc wc')
    (hcode : Cond.code y bytes maxL ret ∈ uw) (hini : Cond.initialized y.cls ∈ uw) (hl : Cond.methodLink own index y ∈ uw) (hin : Cond.static y ∈ uw)
    (hd : y.cls ≠ "java/lang/invoke/MethodHandle" ∧ y.cls ≠ "java/lang/invoke/VarHandle" ∧ (parseMethodDescriptor y.desc).map (fun d => d.parameters.length) = some n)
    (hR0 : rm.cells = 0 ∧ rm.slots = 0 ∧ rm.frames + 1 ≤ R.frames ∧ 8 + (maxL + 11) + rm.locals ≤ R.locals)
    (hK : gK D cs s) (hZ : gZ cs A s) (hP : va_P D vwCl w H) (hD : va_D A w) (hS : va_S A s.heap H locs) (hA : ∀ q, s.heap.size ≤ q → A q) (isC isR isB : List Nat)
    (hC : isC.map (fun i => w[i]?) = wc.map some) (hR : isR.map (fun i => w[i]?) = wr.map some) (hn : va_nd isR = true) (hdis : isR.all (fun i => !(isC.contains i)) = true)
    (hB : isB.map (fun i => (wr ++ wc')[i]?) = w'.map some) (hnB : va_nd isB = true) (hnC : va_nd isC = true)
    (hlen : As.length = n) (hsz : ls.size = nL) (hst : st0 = As.reverse ++ rest) (hrm : (rest.map fun v => v.category).sum ≤ 8)
    (hdg : decode cc pc = .ok (.invokestatic index, 3))
    {st1 : List Value} (hst1 : rv.toList ++ rest = st1)
    (kk : ∀ (H1 : Heap) (locs1 : List Loc), va_P D vwCl w' H1 → va_D A w' → va_S A s.heap H1 locs1 → W p l e R s m args below meth c H1 locs1 0 0 Q (F0 m (pc + 3) ls st1)) : W p l e R s m args below meth c H locs 0 0 Q (F0 m pc ls st0) := by
  subst hst1
  have hPc : va_P D vwCl wc H := by
    intro k q hq
    have h1 : (isC.map (fun i => w[i]?))[k]? = some (some q) := by rw [hC, List.getElem?_map, hq]; rfl
    rw [List.getElem?_map] at h1
    cases hi : isC[k]? with
    | none => rw [hi] at h1; cases h1
    | some i => rw [hi] at h1; exact hP i q (Option.some.inj h1)
  have hDc := hD.sub isC hnC hC
  refine cc_run (cs := cs) (rv := rv) (wc := wc) (wc' := wc') (wr := wr) (a := #[]) rfl ?_ hP hD hS hA isC isR isB hC hR hn hdis hB hnB kk
  exact va_runS (As := As) (rest := rest) ⟨hx, hb, hml, hown, hu⟩ (hM H.size) ⟨callB_of n hu (good_uw (c0 := .tt) hcode) rfl hR0.1 hR0.2.1 (hu _ hini) (hu _ hl) hd hR0.2.2, hu _ hin⟩ ⟨gPre.blind, fun U hU hW => ⟨rfl, by rw [hU], by rw [hU]; exact hPc, hK.warm hW, hDc.weaken (fun _ _ _ _ => trivial), hZ.call hW hU hS (va_free (wc := wc) hD hS hA isC hC)⟩⟩ rfl hlen hsz hst (lv_room hrm) hdg ⟨Nat.zero_le _, Nat.zero_le _⟩
/-- a call of a static private method of a nest mate -/
theorem cc_SN {D : va_G} {cs : Nat → ClassId} {rv : Option Value} {A : Nat → Prop} {w wc wc' wr w' : va_W} {own host : String} {index maxL nL n : Nat} {y : MethodName} {bytes : ByteArray} {ret : Option FieldType} {rm : Room} (As : List Value)
    (hx : p.tables.exec = Jvm.exec) (hb : c.code = cc) (hml : c.maxLocals = nL) (hown : s.vm.findClass own = some m.cls) (hu : ∀ w ∈ uw, w.before args s = true)
    (hM : CG l y (wsm y bytes maxL ret) rm D cs As rv wc wc')
    (hcode : Cond.code y bytes maxL ret ∈ uw) (hini : Cond.initialized y.cls ∈ uw) (hl : va_Nw (.methodLinkNest own index y host) s) (hin : Cond.static y ∈ uw)
    (hd : y.cls ≠ "java/lang/invoke/MethodHandle" ∧ y.cls ≠ "java/lang/invoke/VarHandle" ∧ (parseMethodDescriptor y.desc).map (fun d => d.parameters.length) = some n)
    (hR0 : rm.cells = 0 ∧ rm.slots = 0 ∧ rm.frames + 1 ≤ R.frames ∧ 8 + (maxL + 11) + rm.locals ≤ R.locals)
    (hK : gK D cs s) (hZ : gZ cs A s) (hP : va_P D vwCl w H) (hD : va_D A w) (hS : va_S A s.heap H locs) (hA : ∀ q, s.heap.size ≤ q → A q) (isC isR isB : List Nat)
    (hC : isC.map (fun i => w[i]?) = wc.map some) (hR : isR.map (fun i => w[i]?) = wr.map some) (hn : va_nd isR = true) (hdis : isR.all (fun i => !(isC.contains i)) = true)
    (hB : isB.map (fun i => (wr ++ wc')[i]?) = w'.map some) (hnB : va_nd isB = true) (hnC : va_nd isC = true)
    (hlen : As.length = n) (hsz : ls.size = nL) (hst : st0 = As.reverse ++ rest) (hrm : (rest.map fun v => v.category).sum ≤ 8)
    (hdg : decode cc pc = .ok (.invokestatic index, 3))
    {st1 : List Value} (hst1 : rv.toList ++ rest = st1)
    (kk : ∀ (H1 : Heap) (locs1 : List Loc), va_P D vwCl w' H1 → va_D A w' → va_S A s.heap H1 locs1 → W p l e R s m args below meth c H1 locs1 0 0 Q (F0 m (pc + 3) ls st1)) : W p l e R s m args below meth c H locs 0 0 Q (F0 m pc ls st0) := by
  subst hst1
  have hPc : va_P D vwCl wc H := by
    intro k q hq
    have h1 : (isC.map (fun i => w[i]?))[k]? = some (some q) := by rw [hC, List.getElem?_map, hq]; rfl
    rw [List.getElem?_map] at h1
    cases hi : isC[k]? with
    | none => rw [hi] at h1; cases h1
    | some i => rw [hi] at h1; exact hP i q (Option.some.inj h1)
  have hDc := hD.sub isC hnC hC
  refine cc_run (cs := cs) (rv := rv) (wc := wc) (wc' := wc') (wr := wr) (a := #[]) rfl ?_ hP hD hS hA isC isR isB hC hR hn hdis hB hnB kk
  exact va_runSN (As := As) (rest := rest) ⟨hx, hb, hml, hown, hu⟩ (hM H.size) ⟨va_cnB n hu (good_uw (c0 := .tt) hcode) rfl hR0.1 hR0.2.1 hl (hu _ hini) hd hR0.2.2, hu _ hin, trivial⟩ ⟨gPre.blind, fun U hU hW => ⟨rfl, by rw [hU], by rw [hU]; exact hPc, hK.warm hW, hDc.weaken (fun _ _ _ _ => trivial), hZ.call hW hU hS (va_free (wc := wc) hD hS hA isC hC)⟩⟩ rfl hlen hsz hst (lv_room hrm) hdg ⟨Nat.zero_le _, Nat.zero_le _⟩
/-- a call that takes all my cells -/
theorem cc_V1 {D : va_G} {cs : Nat → ClassId} {rv : Option Value} {A : Nat → Prop} {w wc' w' : va_W} {own : String} {index maxL nL n ci b N : Nat} {Tt : u_T} {fs : List Value} {y : MethodName} {bytes : ByteArray} {ret : Option FieldType} {rm : Room} (As : List Value)
    (hx : p.tables.exec = Jvm.exec) (hb : c.code = cc) (hml : c.maxLocals = nL) (hown : s.vm.findClass own = some m.cls) (hu : ∀ w ∈ uw, w.before args s = true)
    (hM : CG l y (wsm y bytes maxL ret) rm D cs (.ref b :: As) rv w wc')
    (hcode : Cond.code y bytes maxL ret ∈ uw) (hini : Cond.initialized y.cls ∈ uw) (hl : Cond.methodLink own index y ∈ uw) (hin : Cond.instanceMethod y ∈ uw) (hse : Cond.selects y.cls y y ∈ uw)
    (hd : y.cls ≠ "java/lang/invoke/MethodHandle" ∧ y.cls ≠ "java/lang/invoke/VarHandle" ∧ (parseMethodDescriptor y.desc).map (fun d => d.parameters.length) = some n)
    (hR0 : rm.cells = 0 ∧ rm.slots = 0 ∧ rm.frames + 1 ≤ R.frames ∧ 8 + (maxL + 11) + rm.locals ≤ R.locals)
    (hK : gK D cs s) (hZ : gZ cs A s) (hP : va_P D vwCl w H) (hD : va_D A w) (hS : va_S A s.heap H locs) (hA : ∀ q, s.heap.size ≤ q → A q)
    (hw : wc' = w') (hrv : w[0]? = some (b, .inr (ci, fs))) (hcl : vwCl[ci]? = some (y.cls, Tt, N)) (hlen : As.length = n) (hsz : ls.size = nL) (hst : st0 = As.reverse ++ .ref b :: rest) (hrm : (rest.map fun v => v.category).sum ≤ 8)
    (hdg : decode cc pc = .ok (.invokevirtual index, 3)) {st1 : List Value} (hst1 : rv.toList ++ rest = st1)
    (kk : ∀ (H1 : Heap) (locs1 : List Loc), va_P D vwCl w' H1 → va_D A w' → va_S A s.heap H1 locs1 → W p l e R s m args below meth c H1 locs1 0 0 Q (F0 m (pc + 3) ls st1)) : W p l e R s m args below meth c H locs 0 0 Q (F0 m pc ls st0) := by
  subst hw
  refine cc_V (cs := cs) (wr := []) As hx hb hml hown hu hM hcode hini hl hin hse hd hR0 hK hZ hP hD hS hA (List.range w.length) [] (List.range wc'.length) (rg_map w) rfl rfl rfl (rg_map wc') (nd_rg _) (nd_rg _) hrv hcl hlen hsz hst hrm hdg hst1 kk
theorem cc_S0 {D : va_G} {cs : Nat → ClassId} {rv : Option Value} {A : Nat → Prop} {w : va_W} {own : String} {index maxL nL n : Nat} {y : MethodName} {bytes : ByteArray} {ret : Option FieldType} {rm : Room} (As : List Value)
    (hx : p.tables.exec = Jvm.exec) (hb : c.code = cc) (hml : c.maxLocals = nL) (hown : s.vm.findClass own = some m.cls) (hu : ∀ w ∈ uw, w.before args s = true)
    (hM : CG l y (wsm y bytes maxL ret) rm D cs As rv [] [])
    (hcode : Cond.code y bytes maxL ret ∈ uw) (hini : Cond.initialized y.cls ∈ uw) (hl : Cond.methodLink own index y ∈ uw) (hin : Cond.static y ∈ uw)
    (hd : y.cls ≠ "java/lang/invoke/MethodHandle" ∧ y.cls ≠ "java/lang/invoke/VarHandle" ∧ (parseMethodDescriptor y.desc).map (fun d => d.parameters.length) = some n)
    (hR0 : rm.cells = 0 ∧ rm.slots = 0 ∧ rm.frames + 1 ≤ R.frames ∧ 8 + (maxL + 11) + rm.locals ≤ R.locals)
    (hK : gK D cs s) (hZ : gZ cs A s) (hP : va_P D vwCl w H) (hD : va_D A w) (hS : va_S A s.heap H locs) (hA : ∀ q, s.heap.size ≤ q → A q)
    (hlen : As.length = n) (hsz : ls.size = nL) (hst : st0 = As.reverse ++ rest) (hrm : (rest.map fun v => v.category).sum ≤ 8)
    (hdg : decode cc pc = .ok (.invokestatic index, 3)) {st1 : List Value} (hst1 : rv.toList ++ rest = st1)
    (kk : ∀ (H1 : Heap) (locs1 : List Loc), va_P D vwCl w H1 → va_D A w → va_S A s.heap H1 locs1 → W p l e R s m args below meth c H1 locs1 0 0 Q (F0 m (pc + 3) ls st1)) : W p l e R s m args below meth c H locs 0 0 Q (F0 m pc ls st0) :=
  cc_S (cs := cs) (wr := w) As hx hb hml hown hu hM hcode hini hl hin hd hR0 hK hZ hP hD hS hA [] (List.range w.length) (List.range w.length) rfl (rg_map w) (nd_rg _) (by simp) (by simpa using rg_map w) (nd_rg _) rfl hlen hsz hst hrm hdg hst1 kk
theorem cc_SN0 {D : va_G} {cs : Nat → ClassId} {rv : Option Value} {A : Nat → Prop} {w : va_W} {own host : String} {index maxL nL n : Nat} {y : MethodName} {bytes : ByteArray} {ret : Option FieldType} {rm : Room} (As : List Value)
    (hx : p.tables.exec = Jvm.exec) (hb : c.code = cc) (hml : c.maxLocals = nL) (hown : s.vm.findClass own = some m.cls) (hu : ∀ w ∈ uw, w.before args s = true)
    (hM : CG l y (wsm y bytes maxL ret) rm D cs As rv [] [])
    (hcode : Cond.code y bytes maxL ret ∈ uw) (hini : Cond.initialized y.cls ∈ uw) (hl : va_Nw (.methodLinkNest own index y host) s) (hin : Cond.static y ∈ uw)
    (hd : y.cls ≠ "java/lang/invoke/MethodHandle" ∧ y.cls ≠ "java/lang/invoke/VarHandle" ∧ (parseMethodDescriptor y.desc).map (fun d => d.parameters.length) = some n)
    (hR0 : rm.cells = 0 ∧ rm.slots = 0 ∧ rm.frames + 1 ≤ R.frames ∧ 8 + (maxL + 11) + rm.locals ≤ R.locals)
    (hK : gK D cs s) (hZ : gZ cs A s) (hP : va_P D vwCl w H) (hD : va_D A w) (hS : va_S A s.heap H locs) (hA : ∀ q, s.heap.size ≤ q → A q)
    (hlen : As.length = n) (hsz : ls.size = nL) (hst : st0 = As.reverse ++ rest) (hrm : (rest.map fun v => v.category).sum ≤ 8)
    (hdg : decode cc pc = .ok (.invokestatic index, 3)) {st1 : List Value} (hst1 : rv.toList ++ rest = st1)
    (kk : ∀ (H1 : Heap) (locs1 : List Loc), va_P D vwCl w H1 → va_D A w → va_S A s.heap H1 locs1 → W p l e R s m args below meth c H1 locs1 0 0 Q (F0 m (pc + 3) ls st1)) : W p l e R s m args below meth c H locs 0 0 Q (F0 m pc ls st0) :=
  cc_SN (cs := cs) (wr := w) As hx hb hml hown hu hM hcode hini hl hin hd hR0 hK hZ hP hD hS hA [] (List.range w.length) (List.range w.length) rfl (rg_map w) (nd_rg _) (by simp) (by simpa using rg_map w) (nd_rg _) rfl hlen hsz hst hrm hdg hst1 kk
/-- a call on a text that is a constant: no cell of mine is touched -/
theorem cc_Z0 {D : va_G} {cs : Nat → ClassId} {rv : Option Value} {A : Nat → Prop} {w : va_W} {own : String} {index maxL nL n b : Nat} {y : MethodName} {bytes : ByteArray} {ret : Option FieldType} {rm : Room} (As : List Value)
    (hx : p.tables.exec = Jvm.exec) (hb : c.code = cc) (hml : c.maxLocals = nL) (hown : s.vm.findClass own = some m.cls) (hu : ∀ w ∈ uw, w.before args s = true)
    (hM : CG l y (wsm y bytes maxL ret) rm D cs (.ref b :: As) rv [] [])
    (hcode : Cond.code y bytes maxL ret ∈ uw) (hini : Cond.initialized y.cls ∈ uw) (hl : Cond.methodLink own index y ∈ uw) (hin : Cond.instanceMethod y ∈ uw) (hse : Cond.selects y.cls y y ∈ uw)
    (hd : y.cls ≠ "java/lang/invoke/MethodHandle" ∧ y.cls ≠ "java/lang/invoke/VarHandle" ∧ (parseMethodDescriptor y.desc).map (fun d => d.parameters.length) = some n)
    (hR0 : rm.cells = 0 ∧ rm.slots = 0 ∧ rm.frames + 1 ≤ R.frames ∧ 8 + (maxL + 11) + rm.locals ≤ R.locals)
    (hK : gK D cs s) (hZ : gZ cs A s) (hP : va_P D vwCl w H) (hD : va_D A w) (hS : va_S A s.heap H locs) (hA : ∀ q, s.heap.size ≤ q → A q)
    (hrv : ∃ cell : Cell, H[b]? = some cell ∧ cell.vm.isStatics = false ∧ s.vm.findClass y.cls = some cell.cls) (hlen : As.length = n) (hsz : ls.size = nL) (hst : st0 = As.reverse ++ .ref b :: rest) (hrm : (rest.map fun v => v.category).sum ≤ 8)
    (hdg : decode cc pc = .ok (.invokevirtual index, 3)) {st1 : List Value} (hst1 : rv.toList ++ rest = st1)
    (kk : ∀ (H1 : Heap) (locs1 : List Loc), va_P D vwCl w H1 → va_D A w → va_S A s.heap H1 locs1 → W p l e R s m args below meth c H1 locs1 0 0 Q (F0 m (pc + 3) ls st1)) : W p l e R s m args below meth c H locs 0 0 Q (F0 m pc ls st0) := by
  subst hst1
  refine cc_run (cs := cs) (rv := rv) (wc := []) (wc' := []) (wr := w) (w' := w) (a := #[]) rfl ?_ hP hD hS hA [] (List.range w.length) (List.range w.length) rfl (rg_map w) (nd_rg _) (by simp) (by simpa using rg_map w) (nd_rg _) kk
  have cw : CallW R s args own y.cls index y bytes maxL ret (wsm y bytes maxL ret) rm 0 0 n := ⟨callB_of n hu (good_uw (c0 := .tt) hcode) rfl hR0.1 hR0.2.1 (hu _ hini) (hu _ hl) hd hR0.2.2, hu _ hin, hu _ hse⟩
  exact va_runV (As := As) (rest := rest) ⟨hx, hb, hml, hown, hu⟩ (hM H.size) cw ⟨gPre.blind, hrv, fun U hU hW => ⟨rfl, by rw [hU], fun k q h => by simp at h, hK.warm hW, ⟨fun i j p q h => by simp at h, fun k q h => by simp at h⟩, hZ.call hW hU hS (va_free (wc := []) hD hS hA [] rfl)⟩⟩ rfl hlen hsz hst (lv_room hrm) hdg ⟨Nat.zero_le _, Nat.zero_le _⟩
/-- arraycopy of ints, written places -/
theorem cp_lit {D : va_G} {cs : Nat → ClassId} {A : Nat → Prop} {w : va_W} {a a0 : Nat} (hx : p.tables.exec = Jvm.exec) (hb : c.code = cc) (hml : c.maxLocals = ls.size) {own : String} {index : Nat} (hown : s.vm.findClass own = some m.cls) (hu : ∀ w ∈ uw, w.before args s = true) (hlink : Cond.methodLink own index arraycopyName ∈ uw) (hnat : Cond.native arraycopyName ∈ uw) (hstat : Cond.static arraycopyName ∈ uw) (hini : Cond.initialized "java/lang/System" ∈ uw)
    (hK : gK D cs s) (hP : va_P D vwCl w H) (hD : va_D A w) (hS : va_S A s.heap H locs) (q0 q1 k : Nat) {n0 n1 : Nat} {f g : Nat → Int32} (ha0 : w[q0]? = some (a0, .inl (cs 0, n0, .inl f))) (ha1 : w[q1]? = some (a, .inl (cs 0, n1, .inl g)))
    {n : Int32} (hn : n.toNatClampNeg = k ∧ ¬ n < 0) (h4 : k ≤ n0) (h5 : k ≤ n1)
    (hfr : 1 ≤ R.frames) (hlo : (rest.map fun v => v.category).sum + (nativeFrameWords "java/lang/System" "arraycopy" 5 + 11) ≤ R.locals) (hdg : decode cc pc = .ok (.invokestatic index, 3))
    (kk : ∀ (H1 : Heap) (locs1 : List Loc), va_P D vwCl (w.set q1 (a, .inl (cs 0, n1, .inl (va_cpy f g 0 0 k)))) H1 → va_D A (w.set q1 (a, .inl (cs 0, n1, .inl (va_cpy f g 0 0 k)))) → va_S A s.heap H1 locs1 → W p l e R s m args below meth c H1 locs1 0 0 Q (F0 m (pc + 3) ls rest)) : W p l e R s m args below meth c H locs 0 0 Q (F0 m pc ls (.int n :: .int 0 :: .ref a :: .int 0 :: .ref a0 :: rest)) := by
  obtain ⟨hn, hn2⟩ := hn
  subst hn
  exact va_copyi hx hb hml hown (hu _ hlink) (hu _ hnat) (hu _ hstat) (hu _ hini) hK.1 hP hD hS q0 q1 0 0 ha0 ha1 rfl rfl rfl (sp := 0) (dp := 0) (by decide) (by decide) hn2 (by show 0 + _ ≤ _; omega) (by show 0 + _ ≤ _; omega) (fun _ _ => rfl) hfr hlo hdg kk
/-- a row's element at a written place -/
theorem ia_lit {D : va_G} {cs : Nat → ClassId} {w : va_W} {a : Nat} (hx : p.tables.exec = Jvm.exec) (hb : c.code = cc) (hK : gK D cs s) (hP : va_P D vwCl w H) (q0 j : Nat) {n : Nat} {f : Nat → Int32} (ha : w[q0]? = some (a, .inl (cs 0, n, .inl f))) {i : Int32} (hi : ¬ i < 0 ∧ i.toNatClampNeg = j ∧ j < n) (hdg : decode cc pc = .ok (.iaload, 1))
    (kk : W p l e R s m args below meth c H locs 0 0 Q (F0 m (pc + 1) ls (.int (f j) :: rest))) : W p l e R s m args below meth c H locs 0 0 Q (F0 m pc ls (.int i :: .ref a :: rest)) := by
  obtain ⟨h1, h2, h3⟩ := hi
  subst h2
  exact va_iald hx hb hK.1 hP q0 0 ha rfl (fun h => h.elim h1 (fun h => absurd h3 (Nat.not_lt.mpr h))) hdg kk
theorem is_lit {D : va_G} {cs : Nat → ClassId} {A : Nat → Prop} {w : va_W} {a : Nat} (hx : p.tables.exec = Jvm.exec) (hb : c.code = cc) (hK : gK D cs s) (hP : va_P D vwCl w H) (hD : va_D A w) (hS : va_S A s.heap H locs) (q0 j : Nat) {n : Nat} {f : Nat → Int32} (ha : w[q0]? = some (a, .inl (cs 0, n, .inl f))) {i x : Int32} (hi : ¬ i < 0 ∧ i.toNatClampNeg = j ∧ j < n) (hdg : decode cc pc = .ok (.iastore, 1))
    (kk : ∀ (H1 : Heap) (locs1 : List Loc), va_P D vwCl (w.set q0 (a, .inl (cs 0, n, .inl (upd f j x)))) H1 → va_D A (w.set q0 (a, .inl (cs 0, n, .inl (upd f j x)))) → va_S A s.heap H1 locs1 → W p l e R s m args below meth c H1 locs1 0 0 Q (F0 m (pc + 1) ls rest)) : W p l e R s m args below meth c H locs 0 0 Q (F0 m pc ls (.int x :: .int i :: .ref a :: rest)) := by
  obtain ⟨h1, h2, h3⟩ := hi
  subst h2
  exact va_iast hx hb hK.1 hP hD hS q0 0 ha rfl (fun h => h.elim h1 (fun h => absurd h3 (Nat.not_lt.mpr h))) hdg kk
/-- the sheet at a known place -/
theorem sa_lit {env : Env} {D : va_G} {cs : Nat → ClassId} {w : va_W} {a e : Nat} (hx : p.tables.exec = Jvm.exec) (hb : c.code = cc) (hK : gK D cs s) (hP : va_P D vwCl w H) (q0 : Nat) {f : Nat → Option Nat} (ha : w[q0]? = some (a, .inl (cs 4, 4, .inr (.inr (.inr (.inr f)))))) {k : Nat} {i : Int32} (hi : ¬ i < 0 ∧ i.toNatClampNeg = k ∧ k < 4) (hv : f k = some e) (hdg : decode cc pc = .ok (.aaload, 1))
    (kk : W p l env R s m args below meth c H locs 0 0 Q (F0 m (pc + 1) ls (.ref e :: rest))) : W p l env R s m args below meth c H locs 0 0 Q (F0 m pc ls (.int i :: .ref a :: rest)) := by
  obtain ⟨h1, h2, h3⟩ := hi
  subst h2
  refine va_aldq hx hb hK.1 hP q0 4 ha rfl (fun h => h.elim h1 (fun h => absurd h3 (Nat.not_lt.mpr h))) hdg ?_
  rw [hv]
  exact kk
end DCC
theorem sw_ne {x k : Int32} {a : Int} (h : ¬ x = k) (hk : k.toInt = a) : x.toInt ≠ a := fun q => h (Int32.toInt_inj.mp (q.trans hk.symm))
def dc_bl {β : Type} (v : Int32) (k : Option β) : Option β := if v = 0 ∨ v = 1 then k else none
theorem bl_el {β : Type} {v : Int32} {k : Option β} {r : β} (h : dc_bl v k = some r) : (v = 0 ∨ v = 1) ∧ k = some r := by
  unfold dc_bl at h
  by_cases q : v = 0 ∨ v = 1
  · rw [if_pos q] at h; exact ⟨q, h⟩
  · rw [if_neg q] at h; cases h
theorem bl_nar {v : Int32} (h : v = 0 ∨ v = 1) : narrow .boolean (.int v) = .int v := by
  rcases h with h | h <;> subst h <;> rfl
abbrev dc_ushr (x y : Int32) : Int32 := (x.toUInt32 >>> (y.toUInt32 &&& Int32.toUInt32 31)).toInt32
def dc_cp {β : Type} (sp dp n : Int32) (l0 l1 : Nat) (k : Option β) : Option β := if (¬ sp < 0 ∧ ¬ dp < 0 ∧ ¬ n < 0 ∧ sp.toNatClampNeg + n.toNatClampNeg ≤ l0 ∧ dp.toNatClampNeg + n.toNatClampNeg ≤ l1) then k else none
theorem cp_el {β : Type} {sp dp n : Int32} {l0 l1 : Nat} {k : Option β} {r : β} (h : dc_cp sp dp n l0 l1 k = some r) : (¬ sp < 0 ∧ ¬ dp < 0 ∧ ¬ n < 0 ∧ sp.toNatClampNeg + n.toNatClampNeg ≤ l0 ∧ dp.toNatClampNeg + n.toNatClampNeg ≤ l1) ∧ k = some r := by
  unfold dc_cp at h
  by_cases q : (¬ sp < 0 ∧ ¬ dp < 0 ∧ ¬ n < 0 ∧ sp.toNatClampNeg + n.toNatClampNeg ≤ l0 ∧ dp.toNatClampNeg + n.toNatClampNeg ≤ l1)
  · rw [if_pos q] at h; exact ⟨q, h⟩
  · rw [if_neg q] at h; cases h
