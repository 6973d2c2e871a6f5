-- LAW: calls with cells made before
section DCL
variable {p : Program} {l : Launch} {e : Env} {R : Room} {s : State} {m : MethodId} {args : Array Value} {below : List Frame} {meth : Method} {c : Code} {H : Heap} {locs : List Loc} {Q : State → Prop} {cells slots : Nat}
variable {cc : ByteArray} {pc : Nat} {ls : Array Slot} {rest st0 : List Value}
theorem cl_run {D : va_G} {cs : Nat → ClassId} {rv : Option Value} {A : Nat → Prop} {w wc wc' wr w' : va_W} {a : Array Value} {g : JFrame} (hg : g = F0 m pc ls st0)
    (hr : va_Run p l e R s m args below meth c H locs cells slots 0 0 g rest (fun st oc t => gPost D rv wc wc' H.size st oc t) (va_A wc H.size))
    (hP : va_P D vwCl w H) (hD : va_D A w) (hS : va_S A s.heap H locs) (hA : ∀ q, s.heap.size ≤ q → A q) (isC isR isB : List Nat)
    (hC : isC.map (fun i => w[i]?) = wc.map some) (hR : isR.map (fun i => w[i]?) = wr.map some) (hn : va_nd isR = true) (hdis : isR.all (fun i => !(isC.contains i)) = true)
    (hB : isB.map (fun i => (wr ++ wc')[i]?) = w'.map some) (hnB : va_nd isB = true)
    (kk : ∀ (H1 : Heap) (locs1 : List Loc), va_P D vwCl w' H1 → va_D A w' → va_S A s.heap H1 locs1 → W p l e R s m args below meth c H1 locs1 cells slots Q (F0 m (pc + 3) ls (rv.toList ++ rest))) : W p l e R s m args below meth c H locs cells slots Q (F0 m pc ls st0) := by
  subst hg
  have hF := va_free (wc := wc) hD hS hA isC hC
  intro T hT X
  obtain ⟨v, st₀, t, T', L, h0, X', hL, e1, e2, ⟨⟨hv, hP1, hD1⟩, hz, hk⟩, st⟩ := hr T hT X
  have hv : v = rv := by cases hv; rfl
  subst hv
  rw [h0] at hz hk
  have hdis' : ∀ i ∈ isR, i ∉ isC := by
    intro i hi hc
    have := List.all_eq_true.mp hdis i hi
    simp [hc] at this
  obtain ⟨hP2, hD2⟩ := va_join hP hD isC isR hC hR hn hdis' hk hF hP1 hD1
  have hB' : isB.filterMap (fun i => (wr ++ wc')[i]?) = w' := by
    have h1 : ∀ (l : List Nat) (f : Nat → Option (Nat × va_E)) (w : va_W), l.map f = w.map some → l.filterMap f = w := by
      intro l f
      induction l with
      | nil => intro w h; cases w with
        | nil => rfl
        | cons a b => cases h
      | cons x xs ih => intro w h; cases w with
        | nil => cases h
        | cons a b =>
          simp only [List.map_cons, List.cons.injEq] at h
          rw [List.filterMap_cons, h.1, ih b h.2]
    exact h1 _ _ _ hB
  have hP3 : va_P D vwCl w' T'.heap := by rw [e1]; exact hP2.sub isB hB'
  have hD3 : va_D A w' := hD2.sub isB hnB hB
  obtain ⟨t2, a1, b1⟩ := kk T'.heap (locs ++ L) hP3 hD3 ⟨Nat.le_trans hS.1 (by rw [e1]; exact hz), fun q h1 h2 => by rw [e1, hk q (Nat.lt_of_lt_of_le h1 hS.1) (fun z => h2 (hF q z))]; exact hS.2.1 q h1 h2, fun q hq => by
      rcases List.mem_append.mp hq with h | h
      · exact hS.2.2 q h
      · exact hF _ (hL q h)⟩ T' rfl X'
  exact ⟨t2, st t2 a1, b1⟩
/-- a call of an instance method (invokevirtual), private ones of the same class too -/
theorem cl_V {D : va_G} {cs : Nat → ClassId} {rv : Option Value} {A : Nat → Prop} {w wc wc' wr w' : va_W} {own : String} {index maxL nL n ci b N : Nat} {Tt : u_T} {fs : List Value} {y : MethodName} {bytes : ByteArray} {ret : Option FieldType} {rm : Room} (As : List Value)
    (hx : p.tables.exec = Jvm.exec) (hb : c.code = cc) (hml : c.maxLocals = nL) (hown : s.vm.findClass own = some m.cls) (hu : ∀ w ∈ uw, w.before args s = true)
    (hM : CG l y (wsm y bytes maxL ret) rm D cs (.ref b :: As) rv wc wc')
    (hcode : Cond.code y bytes maxL ret ∈ uw) (hini : Cond.initialized y.cls ∈ uw) (hl : Cond.methodLink own index y ∈ uw) (hin : Cond.instanceMethod y ∈ uw) (hse : Cond.selects y.cls y y ∈ uw)
    (hd : y.cls ≠ "java/lang/invoke/MethodHandle" ∧ y.cls ≠ "java/lang/invoke/VarHandle" ∧ (parseMethodDescriptor y.desc).map (fun d => d.parameters.length) = some n)
    (hrm2 : cells + 0 ≤ R.cells ∧ slots + 0 ≤ R.slots) (hR0 : rm.cells = 0 ∧ rm.slots = 0 ∧ rm.frames + 1 ≤ R.frames ∧ 8 + (maxL + 11) + rm.locals ≤ R.locals)
    (hK : gK D cs s) (hZ : gZ cs A s) (hP : va_P D vwCl w H) (hD : va_D A w) (hS : va_S A s.heap H locs) (hA : ∀ q, s.heap.size ≤ q → A q) (isC isR isB : List Nat)
    (hC : isC.map (fun i => w[i]?) = wc.map some) (hR : isR.map (fun i => w[i]?) = wr.map some) (hn : va_nd isR = true) (hdis : isR.all (fun i => !(isC.contains i)) = true)
    (hB : isB.map (fun i => (wr ++ wc')[i]?) = w'.map some) (hnB : va_nd isB = true) (hnC : va_nd isC = true)
    (hrv : wc[0]? = some (b, .inr (ci, fs))) (hcl : vwCl[ci]? = some (y.cls, Tt, N)) (hlen : As.length = n) (hsz : ls.size = nL) (hst : st0 = As.reverse ++ .ref b :: rest) (hrm : (rest.map fun v => v.category).sum ≤ 8)
    (hdg : decode cc pc = .ok (.invokevirtual index, 3))
    {st1 : List Value} (hst1 : rv.toList ++ rest = st1)
    (kk : ∀ (H1 : Heap) (locs1 : List Loc), va_P D vwCl w' H1 → va_D A w' → va_S A s.heap H1 locs1 → W p l e R s m args below meth c H1 locs1 cells slots Q (F0 m (pc + 3) ls st1)) : W p l e R s m args below meth c H locs cells slots Q (F0 m pc ls st0) := by
  subst hst1
  have hPc : va_P D vwCl wc H := by
    intro k q hq
    have h1 : (isC.map (fun i => w[i]?))[k]? = some (some q) := by rw [hC, List.getElem?_map, hq]; rfl
    rw [List.getElem?_map] at h1
    cases hi : isC[k]? with
    | none => rw [hi] at h1; cases h1
    | some i => rw [hi] at h1; exact hP i q (Option.some.inj h1)
  have hDc := hD.sub isC hnC hC
  refine cl_run (cs := cs) (rv := rv) (wc := wc) (wc' := wc') (wr := wr) (a := #[]) rfl ?_ hP hD hS hA isC isR isB hC hR hn hdis hB hnB kk
  have cw : CallW R s args own y.cls index y bytes maxL ret (wsm y bytes maxL ret) rm 0 0 n := ⟨callB_of n hu (good_uw (c0 := .tt) hcode) rfl hR0.1 hR0.2.1 (hu _ hini) (hu _ hl) hd hR0.2.2, hu _ hin, hu _ hse⟩
  exact va_runV (As := As) (rest := rest) ⟨hx, hb, hml, hown, hu⟩ (hM H.size) cw ⟨gPre.blind, va_recv hK.1 hPc hcl hrv, fun U hU hW => ⟨rfl, by rw [hU], by rw [hU]; exact hPc, hK.warm hW, hDc.weaken (fun _ _ _ _ => trivial), hZ.call hW hU hS (va_free (wc := wc) hD hS hA isC hC)⟩⟩ rfl hlen hsz hst (lv_room hrm) hdg hrm2
end DCL
theorem lg_cmp_self (x : Int64) : lg_cmp x x = 0 := by
  unfold lg_cmp
  simp
abbrev wX (cs : Nat → ClassId) (ad : Nat → Nat → Nat) (Ma : ST) (Fo : ST) (Sc : ST) (Se : ST) (Tr : ST) (Ch : ST) (Us : ST) (Ta : ST) (Dr : ST) (G0 : ST) (N0 : LT) (G1 : ST) (N1 : LT) (G2 : ST) (N2 : LT) (G3 : ST) (N3 : LT) (Fo2 : ST) (Sc2 : ST) (Se2 : ST) (Tr2 : ST) (Fo3 : ST) (Sc3 : ST) (Se3 : ST) (Tr3 : ST) : va_W := ((kX7 cs (ad 0) (.ref ((ad 1) 0)) (.ref ((ad 19) 0)) (.ref ((ad 24) 0)) (.ref ((ad 6) 0)) (.ref ((ad 8) 0)) (.ref ((ad 10) 0)) Ma) ++ ((kX2 cs (ad 1) (.ref ((ad 2) 0)) (.ref ((ad 3) 0)) (.ref ((ad 5) 0)) (.ref ((ad 4) 0)) ) ++ ((kX1 cs (ad 2)  Fo) ++ ((kX3 cs (ad 3)  Sc) ++ ((kX4 cs (ad 4) (.ref ((ad 2) 0)) (.ref ((ad 3) 0)) (.ref ((ad 5) 0)) Se) ++ ((kX4 cs (ad 5) (.ref ((ad 2) 0)) (.ref ((ad 3) 0)) .null Tr) ++ ((kX0 cs (ad 6) (.ref ((ad 1) 0)) (.ref ((ad 7) 0)) Ch) ++ ((kX4 cs (ad 7) (.ref ((ad 2) 0)) (.ref ((ad 3) 0)) (.ref ((ad 5) 0)) Us) ++ ((kX6 cs (ad 8) (.ref ((ad 9) 0)) Ta) ++ ((kX3 cs (ad 9)  Dr) ++ ((kSA cs (ad 10) ((ad 11) 0) ((ad 13) 0) ((ad 15) 0) ((ad 17) 0)) ++ ((kX5 cs (ad 11) (.ref ((ad 12) 0)) G0) ++ ((kJ40 cs (ad 12) N0) ++ ((kX5 cs (ad 13) (.ref ((ad 14) 0)) G1) ++ ((kJ40 cs (ad 14) N1) ++ ((kX5 cs (ad 15) (.ref ((ad 16) 0)) G2) ++ ((kJ40 cs (ad 16) N2) ++ ((kX5 cs (ad 17) (.ref ((ad 18) 0)) G3) ++ ((kJ40 cs (ad 18) N3) ++ ((kX2 cs (ad 19) (.ref ((ad 20) 0)) (.ref ((ad 21) 0)) (.ref ((ad 23) 0)) (.ref ((ad 22) 0)) ) ++ ((kX1 cs (ad 20)  Fo2) ++ ((kX3 cs (ad 21)  Sc2) ++ ((kX4 cs (ad 22) (.ref ((ad 20) 0)) (.ref ((ad 21) 0)) (.ref ((ad 23) 0)) Se2) ++ ((kX4 cs (ad 23) (.ref ((ad 20) 0)) (.ref ((ad 21) 0)) .null Tr2) ++ ((kX2 cs (ad 24) (.ref ((ad 25) 0)) (.ref ((ad 26) 0)) (.ref ((ad 28) 0)) (.ref ((ad 27) 0)) ) ++ ((kX1 cs (ad 25)  Fo3) ++ ((kX3 cs (ad 26)  Sc3) ++ ((kX4 cs (ad 27) (.ref ((ad 25) 0)) (.ref ((ad 26) 0)) (.ref ((ad 28) 0)) Se3) ++ ((kX4 cs (ad 28) (.ref ((ad 25) 0)) (.ref ((ad 26) 0)) .null Tr3))))))))))))))))))))))))))))))
abbrev wM (cs : Nat → ClassId) (bd : Nat → Nat → Nat) (M : ST) (N : LT) : va_W := ((kX8 cs (bd 0) (.ref ((bd 1) 0)) M) ++ ((kJ160 cs (bd 1) N)))
def LC (p : Program) (s : State) (m : MethodId) (c : Code) (b L : Nat) (xs : Nat → Int32) (D : va_G) (cs : Nat → ClassId) (A : Nat → Prop) : Prop := p.tables.exec = Jvm.exec ∧ c.code = code ∧ c.maxLocals = 4 ∧ s.vm.findClass "NextButOneLaw" = some m.cls ∧ (∀ w ∈ uw, w.before #[Value.ref b] s = true) ∧ gK D cs s ∧ gZ cs A s ∧ va_X b L xs s s.heap ∧ b < s.heap.size ∧ ¬ A b ∧ (∀ q, s.heap.size ≤ q → A q)
