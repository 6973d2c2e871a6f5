-- CONSTRUCTORS: what they take as given beside the contracts of methods; their contracts; their calls; new rows of known classes
def gN (U : State) : Prop := va_Nw (.methodLinkNest "NextButOne" 9 yX2_init "NextButOne") U ∧ va_Nw (.methodLinkNest "NextButOne$Realm" 9 yX1_init "NextButOne") U ∧ va_Nw (.methodLinkNest "NextButOne$Realm" 18 yX3_init "NextButOne") U ∧ va_Nw (.methodLinkNest "NextButOne" 33 yX6_init "NextButOne") U ∧ va_Nw (.methodLinkNest "NextButOne$Tape" 17 yX3_init "NextButOne") U ∧ va_Nw (.methodLinkNest "NextButOne" 52 yX5_init "NextButOne") U ∧ va_AO "NextButOne$Sheet" U
theorem gN.warm {s U : State} (hW : s.WarmedH U.vm) (h : gN s) : gN U := ⟨h.1.warmM hW, h.2.1.warmM hW, h.2.2.1.warmM hW, h.2.2.2.1.warmM hW, h.2.2.2.2.1.warmM hW, h.2.2.2.2.2.1.warmM hW, va_AO.moved hW.alike h.2.2.2.2.2.2⟩
theorem gN.blind {U : State} {g : JFrame} {mk : MethodId} {a : Array Value} (h : gN U) : gN (U.calling g mk a) := ⟨va_Nw.same rfl rfl h.1, va_Nw.same rfl rfl h.2.1, va_Nw.same rfl rfl h.2.2.1, va_Nw.same rfl rfl h.2.2.2.1, va_Nw.same rfl rfl h.2.2.2.2.1, va_Nw.same rfl rfl h.2.2.2.2.2.1, va_AO.moved (u := U) (U := U.calling g mk a) (Vm.Alike.refl U.vm) h.2.2.2.2.2.2⟩
def CC (l : Launch) (y : MethodName) (ws : List Cond) (rm : Room) (D : va_G) (cs : Nat → ClassId) (av : List Value) (w0 : va_W) (h0 : Nat) (wf : (Nat → Nat → Nat) → va_W) (mc ms : Nat) : Prop :=
  ∀ sz : Nat, Met l y ws rm (va_Pc av (fun U => gPre D cs w0 sz U ∧ gN U)) (fun _ st oc t => (oc = .returned none ∧ ∃ ad : Nat → Nat → Nat, ad 0 0 = h0 ∧ va_P D vwCl (wf ad) t.heap ∧ va_D (va_A w0 sz) (wf ad)) ∧ va_F (va_A w0 sz) st t) mc ms (va_A w0 sz)
theorem CC.intro {l : Launch} {y : MethodName} {cc : ByteArray} {maxL : Nat} {rm : Room} {D : va_G} {cs : Nat → ClassId} {av : List Value} {w0 : va_W} {h0 : Nat} {wf : (Nat → Nat → Nat) → va_W} {mc ms : Nat}
    (hy : plainName y.cls = true) (hav : (lg_sl av).length ≤ maxL)
    (body : ∀ (p : Program) (e : Env) (s : State) (m : MethodId) (below : List Frame) (meth : Method) (c : Code) (A : Nat → Prop) (Q : State → Prop), p.tables.exec = Jvm.exec → c.code = cc → c.maxLocals = maxL → s.vm.findClass y.cls = some m.cls → meth.name = y.name → (∀ w ∈ uw, w.before av.toArray s = true) → gK D cs s → gZ cs A s → gN s → va_P D vwCl w0 s.heap → va_D A w0 → va_S A s.heap s.heap [] → (∀ q, s.heap.size ≤ q → A q) →
      (∀ (pc : Nat) (ls : Array Slot) (H : Heap) (locs : List Loc) (ad : Nat → Nat → Nat), decode cc pc = .ok (.return_, 1) → ad 0 0 = h0 → va_P D vwCl (wf ad) H → va_D A (wf ad) → va_S A s.heap H locs → W p l e rm s m av.toArray below meth c H locs mc ms Q (F0 m pc ls [])) →
      ∀ (ls : Array Slot), lv_has ls maxL (lv_args 0 av) → W p l e rm s m av.toArray below meth c s.heap [] 0 0 Q (F0 m 0 ls [])) :
    CC l y (wsm y cc maxL none) rm D cs av w0 h0 wf mc ms := by
  intro sz
  refine Met.ofW (cc := cc) (maxL := maxL) (ret := none) hy rfl ?_
  intro p e s m args below meth c s₁ B hml hv
  obtain ⟨rfl, ⟨hsz, hP, hK, hD0, hZ⟩, hN⟩ := hv
  have hx := B.exec
  have hb := B.bytes
  have hr := B.returns
  have hlocks := B.notSynchronized
  have hts := atoms_spec (ws := wsm y cc maxL none) B.pre
  have hown : s.vm.findClass y.cls = some m.cls := findClass_of_methodNamed B.named
  have hnm : meth.name = y.name := (name_of_methodNamed B.named B.method).1
  subst hsz
  have hD := hD0.self (sz := s.heap.size)
  have hl := lv_entry av (n := maxL) hav
  rw [lg_entry_eq]
  refine body p e s m below meth c (va_A w0 s.heap.size) _ hx hb hml hown hnm (fun w h => hts w (List.mem_cons_of_mem _ h)) hK hZ hN hP hD va_S.rf (fun q h => Or.inr h) ?_ _ hl
  intro pc ls H locs ad hd had hP hD hS
  exact W.vret hx hb hr (fun t ht hW => ⟨⟨rfl, ad, had, by rw [ht]; exact hP, hD⟩, hS.F ht⟩) hS.2.2 hd hlocks
section DCI
variable {p : Program} {l : Launch} {e : Env} {R : Room} {s : State} {m : MethodId} {args : Array Value} {below : List Frame} {meth : Method} {c : Code} {H : Heap} {locs : List Loc} {Q : State → Prop} {cells slots : Nat}
variable {cc : ByteArray} {pc : Nat} {ls : Array Slot} {rest st0 : List Value}
theorem ci_run {D : va_G} {cs : Nat → ClassId} {A : Nat → Prop} {wr : va_W} {b : Nat} {e0 : va_E} {wf : (Nat → Nat → Nat) → va_W} {mc ms : Nat} {g : JFrame} (hg : g = F0 m pc ls st0)
    (hr : va_Run p l e R s m args below meth c H locs cells slots mc ms g rest (fun st oc t => (oc = .returned none ∧ ∃ ad : Nat → Nat → Nat, ad 0 0 = b ∧ va_P D vwCl (wf ad) t.heap ∧ va_D (va_A [(b, e0)] H.size) (wf ad)) ∧ va_F (va_A [(b, e0)] H.size) st t) (va_A [(b, e0)] H.size))
    (hP : va_P D vwCl (wr ++ [(b, e0)]) H) (hD : va_D A (wr ++ [(b, e0)])) (hS : va_S A s.heap H locs) (hA : ∀ q, s.heap.size ≤ q → A q)
    (kk : ∀ (ad : Nat → Nat → Nat) (H1 : Heap) (locs1 : List Loc), ad 0 0 = b → va_P D vwCl (wr ++ wf ad) H1 → va_D A (wr ++ wf ad) → va_S A s.heap H1 locs1 → W p l e R s m args below meth c H1 locs1 (cells + mc) (slots + ms) Q (F0 m (pc + 3) ls rest)) : W p l e R s m args below meth c H locs cells slots Q (F0 m pc ls st0) := by
  subst hg
  have hC : [wr.length].map (fun i => (wr ++ [(b, e0)])[i]?) = ([(b, e0)] : va_W).map some := by simp
  have hR : (List.range wr.length).map (fun i => (wr ++ [(b, e0)])[i]?) = wr.map some := by
    rw [← rg_map wr]
    apply List.map_congr_left
    intro i hi
    exact List.getElem?_append_left (List.mem_range.mp hi)
  have hF := va_free (wc := [(b, e0)]) hD hS hA [wr.length] hC
  intro T hT X
  obtain ⟨v, st₀, t, T', L, h0, X', hL, e1, e2, ⟨⟨hv, ad, had, hP1, hD1⟩, hz, hk⟩, st⟩ := hr T hT X
  have hv : v = none := by cases hv; rfl
  subst hv
  rw [h0] at hz hk
  obtain ⟨hP2, hD2⟩ := va_join hP hD [wr.length] (List.range wr.length) hC hR (nd_rg _) (fun i hi hc => by
    have h1 := List.mem_range.mp hi
    have h2 : i = wr.length := by simpa using hc
    omega) hk hF hP1 hD1
  obtain ⟨t2, a1, b1⟩ := kk ad T'.heap (locs ++ L) had (by rw [e1]; exact hP2) hD2 ⟨Nat.le_trans hS.1 (by rw [e1]; exact hz), fun q h1 h2 => by rw [e1, hk q (Nat.lt_of_lt_of_le h1 hS.1) (fun z => h2 (hF q z))]; exact hS.2.1 q h1 h2, fun q hq => by
      rcases List.mem_append.mp hq with h | h
      · exact hS.2.2 q h
      · exact hF _ (hL q h)⟩ T' rfl X'
  exact ⟨t2, st t2 a1, b1⟩
theorem ci_pre {D : va_G} {cs : Nat → ClassId} {A : Nat → Prop} {wr : va_W} {b : Nat} {e0 : va_E} {av : List Value} (hK : gK D cs s) (hZ : gZ cs A s) (hN : gN s) (hP : va_P D vwCl (wr ++ [(b, e0)]) H) (hD : va_D A (wr ++ [(b, e0)])) (hS : va_S A s.heap H locs) (hA : ∀ q, s.heap.size ≤ q → A q) :
    PreS s H (va_Pc av (fun U => gPre D cs [(b, e0)] H.size U ∧ gN U)) av := by
  have hC : [wr.length].map (fun i => (wr ++ [(b, e0)])[i]?) = ([(b, e0)] : va_W).map some := by simp
  have hP1 : va_P D vwCl [(b, e0)] H := hP.sub [wr.length] (by simp)
  have hD1 := hD.sub (ws' := [(b, e0)]) [wr.length] rfl hC
  refine ⟨?_, fun U hU hW => ⟨rfl, ⟨by rw [hU], by rw [hU]; exact hP1, hK.warm hW, hD1.weaken (fun _ _ _ _ => trivial), hZ.call hW hU hS (va_free (wc := [(b, e0)]) hD hS hA [wr.length] hC)⟩, hN.warm hW⟩⟩
  intro a U g mk q
  obtain ⟨q0, ⟨q1, qP, qK, qD, qZ⟩, qN⟩ := q
  exact ⟨q0, ⟨q1, qP, qK.blind, qD, qZ.blind⟩, qN.blind⟩
/-- a call of a constructor on the object that was made last -/
theorem cc_I {D : va_G} {cs : Nat → ClassId} {A : Nat → Prop} {wr : va_W} {own : String} {index maxL nL n b mc ms : Nat} {e0 : va_E} {wf : (Nat → Nat → Nat) → va_W} {y : MethodName} {bytes : ByteArray} {rm : Room} (As : List Value)
    (hx : p.tables.exec = Jvm.exec) (hb : c.code = cc) (hml : c.maxLocals = nL) (hown : s.vm.findClass own = some m.cls) (hu : ∀ w ∈ uw, w.before args s = true)
    (hM : CC l y (wsm y bytes maxL none) rm D cs (.ref b :: As) [(b, e0)] b wf mc ms)
    (hcode : Cond.code y bytes maxL none ∈ uw) (hini : Cond.initialized y.cls ∈ uw) (hl : Cond.methodLink own index y ∈ uw) (hin : Cond.instanceMethod y ∈ uw) (hy : y.name = "<init>")
    (hd : y.cls ≠ "java/lang/invoke/MethodHandle" ∧ y.cls ≠ "java/lang/invoke/VarHandle" ∧ (parseMethodDescriptor y.desc).map (fun d => d.parameters.length) = some n)
    (hR0 : rm.cells = mc ∧ rm.slots = ms ∧ rm.frames + 1 ≤ R.frames ∧ 8 + (maxL + 11) + rm.locals ≤ R.locals)
    (hK : gK D cs s) (hZ : gZ cs A s) (hN : gN s) (hP : va_P D vwCl (wr ++ [(b, e0)]) H) (hD : va_D A (wr ++ [(b, e0)])) (hS : va_S A s.heap H locs) (hA : ∀ q, s.heap.size ≤ q → A q)
    (hlen : As.length = n) (hsz : ls.size = nL) (hst : st0 = As.reverse ++ .ref b :: rest) (hrm : (rest.map fun v => v.category).sum ≤ 8)
    (hdg : decode cc pc = .ok (.invokespecial index, 3)) (hroom : cells + mc ≤ R.cells ∧ slots + ms ≤ R.slots)
    (kk : ∀ (ad : Nat → Nat → Nat) (H1 : Heap) (locs1 : List Loc), ad 0 0 = b → va_P D vwCl (wr ++ wf ad) H1 → va_D A (wr ++ wf ad) → va_S A s.heap H1 locs1 → W p l e R s m args below meth c H1 locs1 (cells + mc) (slots + ms) Q (F0 m (pc + 3) ls rest)) : W p l e R s m args below meth c H locs cells slots Q (F0 m pc ls st0) := by
  refine ci_run (cs := cs) rfl ?_ hP hD hS hA kk
  exact va_runI (As := As) (rest := rest) ⟨hx, hb, hml, hown, hu⟩ (hM H.size) ⟨callB_of n hu (good_uw (c0 := .tt) hcode) rfl hR0.1 hR0.2.1 (hu _ hini) (hu _ hl) hd hR0.2.2, hy, hu _ hin⟩ (ci_pre hK hZ hN hP hD hS hA) rfl hlen hsz hst (lv_room hrm) hdg hroom
theorem cc_IN {D : va_G} {cs : Nat → ClassId} {A : Nat → Prop} {wr : va_W} {own host : String} {index maxL nL n b mc ms : Nat} {e0 : va_E} {wf : (Nat → Nat → Nat) → va_W} {y : MethodName} {bytes : ByteArray} {rm : Room} (As : List Value)
    (hx : p.tables.exec = Jvm.exec) (hb : c.code = cc) (hml : c.maxLocals = nL) (hown : s.vm.findClass own = some m.cls) (hu : ∀ w ∈ uw, w.before args s = true)
    (hM : CC l y (wsm y bytes maxL none) rm D cs (.ref b :: As) [(b, e0)] b wf mc ms)
    (hcode : Cond.code y bytes maxL none ∈ uw) (hini : Cond.initialized y.cls ∈ uw) (hl : va_Nw (.methodLinkNest own index y host) s) (hin : Cond.instanceMethod y ∈ uw) (hy : y.name = "<init>")
    (hd : y.cls ≠ "java/lang/invoke/MethodHandle" ∧ y.cls ≠ "java/lang/invoke/VarHandle" ∧ (parseMethodDescriptor y.desc).map (fun d => d.parameters.length) = some n)
    (hR0 : rm.cells = mc ∧ rm.slots = ms ∧ rm.frames + 1 ≤ R.frames ∧ 8 + (maxL + 11) + rm.locals ≤ R.locals)
    (hK : gK D cs s) (hZ : gZ cs A s) (hN : gN s) (hP : va_P D vwCl (wr ++ [(b, e0)]) H) (hD : va_D A (wr ++ [(b, e0)])) (hS : va_S A s.heap H locs) (hA : ∀ q, s.heap.size ≤ q → A q)
    (hlen : As.length = n) (hsz : ls.size = nL) (hst : st0 = As.reverse ++ .ref b :: rest) (hrm : (rest.map fun v => v.category).sum ≤ 8)
    (hdg : decode cc pc = .ok (.invokespecial index, 3)) (hroom : cells + mc ≤ R.cells ∧ slots + ms ≤ R.slots)
    (kk : ∀ (ad : Nat → Nat → Nat) (H1 : Heap) (locs1 : List Loc), ad 0 0 = b → va_P D vwCl (wr ++ wf ad) H1 → va_D A (wr ++ wf ad) → va_S A s.heap H1 locs1 → W p l e R s m args below meth c H1 locs1 (cells + mc) (slots + ms) Q (F0 m (pc + 3) ls rest)) : W p l e R s m args below meth c H locs cells slots Q (F0 m pc ls st0) := by
  refine ci_run (cs := cs) rfl ?_ hP hD hS hA kk
  exact va_runIN (As := As) (rest := rest) ⟨hx, hb, hml, hown, hu⟩ (hM H.size) ⟨va_cnB n hu (good_uw (c0 := .tt) hcode) rfl hR0.1 hR0.2.1 hl (hu _ hini) hd hR0.2.2, hy, hu _ hin⟩ (ci_pre hK hZ hN hP hD hS hA) rfl hlen hsz hst (lv_room hrm) hdg hroom
/-- a constructor that reads other cells of mine too -/
theorem cc_IG {D : va_G} {cs : Nat → ClassId} {A : Nat → Prop} {w wc wr : va_W} {own : String} {index maxL nL n b mc ms : Nat} {wf : (Nat → Nat → Nat) → va_W} {y : MethodName} {bytes : ByteArray} {rm : Room} (As : List Value)
    (hx : p.tables.exec = Jvm.exec) (hb : c.code = cc) (hml : c.maxLocals = nL) (hown : s.vm.findClass own = some m.cls) (hu : ∀ w ∈ uw, w.before args s = true)
    (hM : CC l y (wsm y bytes maxL none) rm D cs (.ref b :: As) wc b wf mc ms)
    (hcode : Cond.code y bytes maxL none ∈ uw) (hini : Cond.initialized y.cls ∈ uw) (hl : Cond.methodLink own index y ∈ uw) (hin : Cond.instanceMethod y ∈ uw) (hy : y.name = "<init>")
    (hd : y.cls ≠ "java/lang/invoke/MethodHandle" ∧ y.cls ≠ "java/lang/invoke/VarHandle" ∧ (parseMethodDescriptor y.desc).map (fun d => d.parameters.length) = some n)
    (hR0 : rm.cells = mc ∧ rm.slots = ms ∧ rm.frames + 1 ≤ R.frames ∧ 8 + (maxL + 11) + rm.locals ≤ R.locals)
    (hK : gK D cs s) (hZ : gZ cs A s) (hN : gN s) (hP : va_P D vwCl w H) (hD : va_D A w) (hS : va_S A s.heap H locs) (hA : ∀ q, s.heap.size ≤ q → A q) (isC isR : List Nat)
    (hC : isC.map (fun i => w[i]?) = wc.map some) (hR : isR.map (fun i => w[i]?) = wr.map some) (hn : va_nd isR = true) (hdis : isR.all (fun i => !(isC.contains i)) = true) (hnC : va_nd isC = true)
    (hlen : As.length = n) (hsz : ls.size = nL) (hst : st0 = As.reverse ++ .ref b :: rest) (hrm : (rest.map fun v => v.category).sum ≤ 8)
    (hdg : decode cc pc = .ok (.invokespecial index, 3)) (hroom : cells + mc ≤ R.cells ∧ slots + ms ≤ R.slots)
    (kk : ∀ (ad : Nat → Nat → Nat) (H1 : Heap) (locs1 : List Loc), ad 0 0 = b → va_P D vwCl (wr ++ wf ad) H1 → va_D A (wr ++ wf ad) → va_S A s.heap H1 locs1 → W p l e R s m args below meth c H1 locs1 (cells + mc) (slots + ms) Q (F0 m (pc + 3) ls rest)) : W p l e R s m args below meth c H locs cells slots Q (F0 m pc ls st0) := by
  have hF := va_free (wc := wc) hD hS hA isC hC
  have hPc : va_P D vwCl wc H := by
    intro k q hq
    have h1 : (isC.map (fun i => w[i]?))[k]? = some (some q) := by rw [hC, List.getElem?_map, hq]; rfl
    rw [List.getElem?_map] at h1
    cases hi : isC[k]? with
    | none => rw [hi] at h1; cases h1
    | some i => rw [hi] at h1; exact hP i q (Option.some.inj h1)
  have hDc := hD.sub isC hnC hC
  have hr := va_runI (cells := cells) (slots := slots) (e := e) (below := below) (meth := meth) (locs := locs) (As := As) (rest := rest) (g := F0 m pc ls st0) ⟨hx, hb, hml, hown, hu⟩ (hM H.size) ⟨callB_of n hu (good_uw (c0 := .tt) hcode) rfl hR0.1 hR0.2.1 (hu _ hini) (hu _ hl) hd hR0.2.2, hy, hu _ hin⟩ (H := H) (b := b) ⟨fun a U g mk q => by
    obtain ⟨q0, ⟨q1, qP, qK, qD, qZ⟩, qN⟩ := q
    exact ⟨q0, ⟨q1, qP, qK.blind, qD, qZ.blind⟩, qN.blind⟩, fun U hU hW => ⟨rfl, ⟨by rw [hU], by rw [hU]; exact hPc, hK.warm hW, hDc.weaken (fun _ _ _ _ => trivial), hZ.call hW hU hS hF⟩, hN.warm hW⟩⟩ rfl hlen hsz hst (lv_room hrm) hdg hroom
  intro T hT X
  obtain ⟨v, st₀, t, T', L, h0, X', hL, e1, e2, ⟨⟨hv, ad, had, hP1, hD1⟩, hz, hk⟩, st⟩ := hr T hT X
  have hv : v = none := by cases hv; rfl
  subst hv
  rw [h0] at hz hk
  have hdis' : ∀ i ∈ isR, i ∉ isC := by
    intro i hi hc
    have := List.all_eq_true.mp hdis i hi
    simp [hc] at this
  obtain ⟨hP2, hD2⟩ := va_join hP hD isC isR hC hR hn hdis' hk hF hP1 hD1
  obtain ⟨t2, a1, b1⟩ := kk ad T'.heap (locs ++ L) had (by rw [e1]; exact hP2) hD2 ⟨Nat.le_trans hS.1 (by rw [e1]; exact hz), fun q h1 h2 => by rw [e1, hk q (Nat.lt_of_lt_of_le h1 hS.1) (fun z => h2 (hF q z))]; exact hS.2.1 q h1 h2, fun q hq => by
      rcases List.mem_append.mp hq with h | h
      · exact hS.2.2 q h
      · exact hF _ (hL q h)⟩ T' rfl X'
  exact ⟨t2, st t2 a1, b1⟩
/-- a new row of ints, longs, chars or booleans: its class is the known one -/
theorem na_row {D : va_G} {cs : Nat → ClassId} {A : Nat → Prop} {w : va_W} (hx : p.tables.exec = Jvm.exec) (hb : c.code = cc) {atype : ArrayType} {ty : FieldType} (hu : ∀ w ∈ uw, w.before args s = true) (harr : Cond.arrayClass ty ∈ uw) (hty : newarray.typeOf atype = ty) (hK : gK D cs s) (hP : va_P D vwCl w H) (hD : va_D A w) (hS : va_S A s.heap H locs) (hA : ∀ q, s.heap.size ≤ q → A q) (t0 : Nat) {cA0 : ClassId} (ht : (tyL cs)[t0]? = some (cA0, ty)) (hnr : ∀ C, ty ≠ .object C)
    {n : Int32} {N' : Nat} {a0 : vp_A} (ha : ∀ cA : ClassId, vp_cell cA a0 = arrV cA N' (fun _ => defaultValue ty)) (hn : ¬ n < 0) (hN : n.toNatClampNeg = N') (hbytes : N' * componentBytes ty ≤ 536870912) (hcells : cells + 1 ≤ R.cells) (hslots : slots + N' ≤ R.slots) (hdg : decode cc pc = .ok (.newarray atype, 2))
    (kk : ∀ (q : Nat) (H1 : Heap), va_P D vwCl (w ++ [(q, .inl (cA0, a0))]) H1 → va_D A (w ++ [(q, .inl (cA0, a0))]) → va_S A s.heap H1 locs →
      W p l e R s m args below meth c H1 locs (cells + 1) (slots + N') Q (F0 m (pc + 2) ls (.ref q :: rest))) : W p l e R s m args below meth c H locs cells slots Q (F0 m pc ls (.int n :: rest)) := by
  refine va_newa hx hb (by rw [hty]; exact hu _ harr) hty hK.1 hP hD hS hA ha hn hN hbytes hcells hslots hdg (fun q cA H1 hK1 hP1 hD1 hS1 => ?_)
  have h1 := (hK1.2 (tyL cs).length (cA, ty) (by simp)).2
  have h2 := (hK.1.2 t0 _ ht).2
  have e1 : cA = cA0 := by
    cases ty with
    | object C => exact absurd rfl (hnr C)
    | _ => exact Option.some.inj ((show s.vm.findClass _ = some cA from h1).symm.trans (show s.vm.findClass _ = some cA0 from h2))
  subst e1
  exact kk q H1 hP1 hD1 hS1
theorem na_sheets {D : va_G} {cs : Nat → ClassId} {A : Nat → Prop} {w : va_W} (hx : p.tables.exec = Jvm.exec) (hb : c.code = cc) {own : String} {index : Nat} (hown : s.vm.findClass own = some m.cls) (hu : ∀ w ∈ uw, w.before args s = true) (hclink : Cond.classLink own index "NextButOne$Sheet" ∈ uw) (hN0 : gN s) (hK : gK D cs s) (hP : va_P D vwCl w H) (hD : va_D A w) (hS : va_S A s.heap H locs) (hA : ∀ q, s.heap.size ≤ q → A q)
    {n : Int32} {N' : Nat} (hn : ¬ n < 0) (hN : n.toNatClampNeg = N') (hbytes : N' * 4 ≤ 536870912) (hcells : cells + 1 ≤ R.cells) (hslots : slots + N' ≤ R.slots) (hdg : decode cc pc = .ok (.anewarray index, 3))
    (kk : ∀ (q : Nat) (H1 : Heap), va_P D vwCl (w ++ [(q, .inl (cs 4, N', .inr (.inr (.inr (.inr (fun _ => none))))))]) H1 → va_D A (w ++ [(q, .inl (cs 4, N', .inr (.inr (.inr (.inr (fun _ => none))))))]) → va_S A s.heap H1 locs →
      W p l e R s m args below meth c H1 locs (cells + 1) (slots + N') Q (F0 m (pc + 3) ls (.ref q :: rest))) : W p l e R s m args below meth c H locs cells slots Q (F0 m pc ls (.int n :: rest)) := by
  refine va_newq hx hb hown (hu _ hclink) hN0.2.2.2.2.2.2 hK.1 hP hD hS hA hn hN hbytes hcells hslots hdg (fun q cA H1 hK1 hP1 hD1 hS1 => ?_)
  have h1 := (hK1.2 (tyL cs).length (cA, .object "NextButOne$Sheet") (by simp)).2
  have h2 := (hK.1.2 4 _ rfl).2
  obtain ⟨k1, c1, -, -, -, g1⟩ := h1
  obtain ⟨k2, c2, -, -, -, g2⟩ := h2
  have e1 : cA = cs 4 := Option.some.inj (g1.symm.trans g2)
  subst e1
  exact kk q H1 hP1 hD1 hS1
end DCI
theorem qObj : Cond.code Lib.objectInit ⟨#[0xb1]⟩ 1 none ∈ uw := mem_uw 79 rfl rfl
