theorem core_like {F C S : ST} {m : Nat → Int32} (h : core F C S m) {j : Nat} (hj : j < 100) (v : Int32) : core (sti F 7 j v) C S (upd m (74 + j) v) := by
  obtain ⟨⟨a1, a2, a3, a4⟩, b, c, d, e, f, g, h⟩ := h
  refine ⟨⟨?_, ?_, ?_, ?_⟩, fun i hi => ?_, fun i hi => ?_, fun i hi => ?_, fun i hi => ?_, fun i hi => ?_, ?_, fun i hi hi2 => ?_⟩
  · show upd m (74 + j) v 0 = _
    rw [upd_n (by omega)]; exact a1
  · show upd m (74 + j) v 1 = _
    rw [upd_n (by omega)]; exact a2
  · show upd m (74 + j) v 2 = _
    rw [upd_n (by omega)]; exact a3
  · show upd m (74 + j) v 3 = _
    rw [upd_n (by omega)]; exact a4
  · show upd m (74 + j) v (4 + i) = _
    rw [upd_n (by omega)]; exact b i hi
  · show upd m (74 + j) v (10 + i) = _
    rw [upd_n (by omega)]; exact c i hi
  · show upd m (74 + j) v (14 + 6 * i) = _ ∧ upd m (74 + j) v (14 + 6 * i + 1) = _ ∧ upd m (74 + j) v (14 + 6 * i + 2) = _ ∧ upd m (74 + j) v (14 + 6 * i + 3) = _ ∧ upd m (74 + j) v (14 + 6 * i + 4) = _ ∧ upd m (74 + j) v (14 + 6 * i + 5) = _
    rw [upd_n (by omega), upd_n (by omega), upd_n (by omega), upd_n (by omega), upd_n (by omega), upd_n (by omega)]; exact d i hi
  · show upd m (74 + j) v (74 + i) = upd (F 7) j v i
    by_cases q : i = j
    · rw [q, upd_s, upd_s]
    · rw [upd_n (by omega), upd_n q]; exact e i hi
  · show upd m (74 + j) v (174 + i) = _
    rw [upd_n (by omega)]; exact f i hi
  · show upd m (74 + j) v 190 = _
    rw [upd_n (by omega)]; exact g
  · show upd m (74 + j) v (191 + i) = _
    rw [upd_n (by omega)]; exact h i hi hi2
theorem core_val {F C S : ST} {m : Nat → Int32} (h : core F C S m) {j : Nat} (hj : j < 16) (v : Int32) : core (sti F 8 j v) C S (upd m (174 + j) v) := by
  obtain ⟨⟨a1, a2, a3, a4⟩, b, c, d, e, f, g, h⟩ := h
  refine ⟨⟨?_, ?_, ?_, ?_⟩, fun i hi => ?_, fun i hi => ?_, fun i hi => ?_, fun i hi => ?_, fun i hi => ?_, ?_, fun i hi hi2 => ?_⟩
  · show upd m (174 + j) v 0 = _
    rw [upd_n (by omega)]; exact a1
  · show upd m (174 + j) v 1 = _
    rw [upd_n (by omega)]; exact a2
  · show upd m (174 + j) v 2 = _
    rw [upd_n (by omega)]; exact a3
  · show upd m (174 + j) v 3 = _
    rw [upd_n (by omega)]; exact a4
  · show upd m (174 + j) v (4 + i) = _
    rw [upd_n (by omega)]; exact b i hi
  · show upd m (174 + j) v (10 + i) = _
    rw [upd_n (by omega)]; exact c i hi
  · show upd m (174 + j) v (14 + 6 * i) = _ ∧ upd m (174 + j) v (14 + 6 * i + 1) = _ ∧ upd m (174 + j) v (14 + 6 * i + 2) = _ ∧ upd m (174 + j) v (14 + 6 * i + 3) = _ ∧ upd m (174 + j) v (14 + 6 * i + 4) = _ ∧ upd m (174 + j) v (14 + 6 * i + 5) = _
    rw [upd_n (by omega), upd_n (by omega), upd_n (by omega), upd_n (by omega), upd_n (by omega), upd_n (by omega)]; exact d i hi
  · show upd m (174 + j) v (74 + i) = _
    rw [upd_n (by omega)]; exact e i hi
  · show upd m (174 + j) v (174 + i) = upd (F 8) j v i
    by_cases q : i = j
    · rw [q, upd_s, upd_s]
    · rw [upd_n (by omega), upd_n q]; exact f i hi
  · show upd m (174 + j) v 190 = _
    rw [upd_n (by omega)]; exact g
  · show upd m (174 + j) v (191 + i) = _
    rw [upd_n (by omega)]; exact h i hi hi2
theorem core_rule {F C S : ST} {m : Nat → Int32} (h : core F C S m) {j : Nat} (hj : j < 6) (v : Int32) : core F C (sti S 4 j v) (upd m (4 + j) v) := by
  obtain ⟨⟨a1, a2, a3, a4⟩, b, c, d, e, f, g, h⟩ := h
  refine ⟨⟨?_, ?_, ?_, ?_⟩, fun i hi => ?_, fun i hi => ?_, fun i hi => ?_, fun i hi => ?_, fun i hi => ?_, ?_, fun i hi hi2 => ?_⟩
  · show upd m (4 + j) v 0 = _
    rw [upd_n (by omega)]; exact a1
  · show upd m (4 + j) v 1 = _
    rw [upd_n (by omega)]; exact a2
  · show upd m (4 + j) v 2 = _
    rw [upd_n (by omega)]; exact a3
  · show upd m (4 + j) v 3 = _
    rw [upd_n (by omega)]; exact a4
  · show upd m (4 + j) v (4 + i) = upd (S 4) j v i
    by_cases q : i = j
    · rw [q, upd_s, upd_s]
    · rw [upd_n (by omega), upd_n q]; exact b i hi
  · show upd m (4 + j) v (10 + i) = _
    rw [upd_n (by omega)]; exact c i hi
  · show upd m (4 + j) v (14 + 6 * i) = _ ∧ upd m (4 + j) v (14 + 6 * i + 1) = _ ∧ upd m (4 + j) v (14 + 6 * i + 2) = _ ∧ upd m (4 + j) v (14 + 6 * i + 3) = _ ∧ upd m (4 + j) v (14 + 6 * i + 4) = _ ∧ upd m (4 + j) v (14 + 6 * i + 5) = _
    rw [upd_n (by omega), upd_n (by omega), upd_n (by omega), upd_n (by omega), upd_n (by omega), upd_n (by omega)]; exact d i hi
  · show upd m (4 + j) v (74 + i) = _
    rw [upd_n (by omega)]; exact e i hi
  · show upd m (4 + j) v (174 + i) = _
    rw [upd_n (by omega)]; exact f i hi
  · show upd m (4 + j) v 190 = _
    rw [upd_n (by omega)]; exact g
  · show upd m (4 + j) v (191 + i) = _
    rw [upd_n (by omega)]; exact h i hi hi2
theorem core_line {F C S : ST} {m : Nat → Int32} (h : core F C S m) {j : Nat} (hj : j < 4) (v : Int32) : core F C (sti S 5 j v) (upd m (10 + j) v) := by
  obtain ⟨⟨a1, a2, a3, a4⟩, b, c, d, e, f, g, h⟩ := h
  refine ⟨⟨?_, ?_, ?_, ?_⟩, fun i hi => ?_, fun i hi => ?_, fun i hi => ?_, fun i hi => ?_, fun i hi => ?_, ?_, fun i hi hi2 => ?_⟩
  · show upd m (10 + j) v 0 = _
    rw [upd_n (by omega)]; exact a1
  · show upd m (10 + j) v 1 = _
    rw [upd_n (by omega)]; exact a2
  · show upd m (10 + j) v 2 = _
    rw [upd_n (by omega)]; exact a3
  · show upd m (10 + j) v 3 = _
    rw [upd_n (by omega)]; exact a4
  · show upd m (10 + j) v (4 + i) = _
    rw [upd_n (by omega)]; exact b i hi
  · show upd m (10 + j) v (10 + i) = upd (S 5) j v i
    by_cases q : i = j
    · rw [q, upd_s, upd_s]
    · rw [upd_n (by omega), upd_n q]; exact c i hi
  · show upd m (10 + j) v (14 + 6 * i) = _ ∧ upd m (10 + j) v (14 + 6 * i + 1) = _ ∧ upd m (10 + j) v (14 + 6 * i + 2) = _ ∧ upd m (10 + j) v (14 + 6 * i + 3) = _ ∧ upd m (10 + j) v (14 + 6 * i + 4) = _ ∧ upd m (10 + j) v (14 + 6 * i + 5) = _
    rw [upd_n (by omega), upd_n (by omega), upd_n (by omega), upd_n (by omega), upd_n (by omega), upd_n (by omega)]; exact d i hi
  · show upd m (10 + j) v (74 + i) = _
    rw [upd_n (by omega)]; exact e i hi
  · show upd m (10 + j) v (174 + i) = _
    rw [upd_n (by omega)]; exact f i hi
  · show upd m (10 + j) v 190 = _
    rw [upd_n (by omega)]; exact g
  · show upd m (10 + j) v (191 + i) = _
    rw [upd_n (by omega)]; exact h i hi hi2
theorem core_sits {F C S : ST} {m : Nat → Int32} (h : core F C S m) (v : Int32) : core F C (sti S 0 6 v) (upd m 1 v) := by
  obtain ⟨⟨a1, a2, a3, a4⟩, b, c, d, e, f, g, h⟩ := h
  refine ⟨⟨?_, ?_, ?_, ?_⟩, fun i hi => ?_, fun i hi => ?_, fun i hi => ?_, fun i hi => ?_, fun i hi => ?_, ?_, fun i hi hi2 => ?_⟩
  · show upd m 1 v 0 = _
    rw [upd_n (by omega)]; exact a1
  · rfl
  · show upd m 1 v 2 = _
    rw [upd_n (by omega)]; exact a3
  · show upd m 1 v 3 = _
    rw [upd_n (by omega)]; exact a4
  · show upd m 1 v (4 + i) = _
    rw [upd_n (by omega)]; exact b i hi
  · show upd m 1 v (10 + i) = _
    rw [upd_n (by omega)]; exact c i hi
  · show upd m 1 v (14 + 6 * i) = _ ∧ upd m 1 v (14 + 6 * i + 1) = _ ∧ upd m 1 v (14 + 6 * i + 2) = _ ∧ upd m 1 v (14 + 6 * i + 3) = _ ∧ upd m 1 v (14 + 6 * i + 4) = _ ∧ upd m 1 v (14 + 6 * i + 5) = _
    rw [upd_n (by omega), upd_n (by omega), upd_n (by omega), upd_n (by omega), upd_n (by omega), upd_n (by omega)]; exact d i hi
  · show upd m 1 v (74 + i) = _
    rw [upd_n (by omega)]; exact e i hi
  · show upd m 1 v (174 + i) = _
    rw [upd_n (by omega)]; exact f i hi
  · show upd m 1 v 190 = _
    rw [upd_n (by omega)]; exact g
  · show upd m 1 v (191 + i) = _
    rw [upd_n (by omega)]; exact h i hi hi2
theorem core_reign {F C S : ST} {m : Nat → Int32} (h : core F C S m) (v : Int32) : core F C (sti S 0 7 v) (upd m 2 v) := by
  obtain ⟨⟨a1, a2, a3, a4⟩, b, c, d, e, f, g, h⟩ := h
  refine ⟨⟨?_, ?_, ?_, ?_⟩, fun i hi => ?_, fun i hi => ?_, fun i hi => ?_, fun i hi => ?_, fun i hi => ?_, ?_, fun i hi hi2 => ?_⟩
  · show upd m 2 v 0 = _
    rw [upd_n (by omega)]; exact a1
  · show upd m 2 v 1 = _
    rw [upd_n (by omega)]; exact a2
  · rfl
  · show upd m 2 v 3 = _
    rw [upd_n (by omega)]; exact a4
  · show upd m 2 v (4 + i) = _
    rw [upd_n (by omega)]; exact b i hi
  · show upd m 2 v (10 + i) = _
    rw [upd_n (by omega)]; exact c i hi
  · show upd m 2 v (14 + 6 * i) = _ ∧ upd m 2 v (14 + 6 * i + 1) = _ ∧ upd m 2 v (14 + 6 * i + 2) = _ ∧ upd m 2 v (14 + 6 * i + 3) = _ ∧ upd m 2 v (14 + 6 * i + 4) = _ ∧ upd m 2 v (14 + 6 * i + 5) = _
    rw [upd_n (by omega), upd_n (by omega), upd_n (by omega), upd_n (by omega), upd_n (by omega), upd_n (by omega)]; exact d i hi
  · show upd m 2 v (74 + i) = _
    rw [upd_n (by omega)]; exact e i hi
  · show upd m 2 v (174 + i) = _
    rw [upd_n (by omega)]; exact f i hi
  · show upd m 2 v 190 = _
    rw [upd_n (by omega)]; exact g
  · show upd m 2 v (191 + i) = _
    rw [upd_n (by omega)]; exact h i hi hi2
theorem core_z {F C S : ST} {m : Nat → Int32} (h : core F C S m) (v : Int32) : core (sti F 0 8 v) C S (upd m 3 v) := by
  obtain ⟨⟨a1, a2, a3, a4⟩, b, c, d, e, f, g, h⟩ := h
  refine ⟨⟨?_, ?_, ?_, ?_⟩, fun i hi => ?_, fun i hi => ?_, fun i hi => ?_, fun i hi => ?_, fun i hi => ?_, ?_, fun i hi hi2 => ?_⟩
  · show upd m 3 v 0 = _
    rw [upd_n (by omega)]; exact a1
  · show upd m 3 v 1 = _
    rw [upd_n (by omega)]; exact a2
  · show upd m 3 v 2 = _
    rw [upd_n (by omega)]; exact a3
  · rfl
  · show upd m 3 v (4 + i) = _
    rw [upd_n (by omega)]; exact b i hi
  · show upd m 3 v (10 + i) = _
    rw [upd_n (by omega)]; exact c i hi
  · show upd m 3 v (14 + 6 * i) = _ ∧ upd m 3 v (14 + 6 * i + 1) = _ ∧ upd m 3 v (14 + 6 * i + 2) = _ ∧ upd m 3 v (14 + 6 * i + 3) = _ ∧ upd m 3 v (14 + 6 * i + 4) = _ ∧ upd m 3 v (14 + 6 * i + 5) = _
    rw [upd_n (by omega), upd_n (by omega), upd_n (by omega), upd_n (by omega), upd_n (by omega), upd_n (by omega)]; exact d i hi
  · show upd m 3 v (74 + i) = _
    rw [upd_n (by omega)]; exact e i hi
  · show upd m 3 v (174 + i) = _
    rw [upd_n (by omega)]; exact f i hi
  · show upd m 3 v 190 = _
    rw [upd_n (by omega)]; exact g
  · show upd m 3 v (191 + i) = _
    rw [upd_n (by omega)]; exact h i hi hi2
theorem core_people {F C S : ST} {m : Nat → Int32} (h : core F C S m) (v : Int32) : core (sti F 0 0 v) C S (upd m 0 v) := by
  obtain ⟨⟨a1, a2, a3, a4⟩, b, c, d, e, f, g, h⟩ := h
  refine ⟨⟨?_, ?_, ?_, ?_⟩, fun i hi => ?_, fun i hi => ?_, fun i hi => ?_, fun i hi => ?_, fun i hi => ?_, ?_, fun i hi hi2 => ?_⟩
  · rfl
  · show upd m 0 v 1 = _
    rw [upd_n (by omega)]; exact a2
  · show upd m 0 v 2 = _
    rw [upd_n (by omega)]; exact a3
  · show upd m 0 v 3 = _
    rw [upd_n (by omega)]; exact a4
  · show upd m 0 v (4 + i) = _
    rw [upd_n (by omega)]; exact b i hi
  · show upd m 0 v (10 + i) = _
    rw [upd_n (by omega)]; exact c i hi
  · show upd m 0 v (14 + 6 * i) = _ ∧ upd m 0 v (14 + 6 * i + 1) = _ ∧ upd m 0 v (14 + 6 * i + 2) = _ ∧ upd m 0 v (14 + 6 * i + 3) = _ ∧ upd m 0 v (14 + 6 * i + 4) = _ ∧ upd m 0 v (14 + 6 * i + 5) = _
    rw [upd_n (by omega), upd_n (by omega), upd_n (by omega), upd_n (by omega), upd_n (by omega), upd_n (by omega)]; exact d i hi
  · show upd m 0 v (74 + i) = _
    rw [upd_n (by omega)]; exact e i hi
  · show upd m 0 v (174 + i) = _
    rw [upd_n (by omega)]; exact f i hi
  · show upd m 0 v 190 = _
    rw [upd_n (by omega)]; exact g
  · show upd m 0 v (191 + i) = _
    rw [upd_n (by omega)]; exact h i hi hi2
theorem core_kind {F C S : ST} {m : Nat → Int32} (h : core F C S m) {p : Nat} (hp : p < 10) (v : Int32) : core (sti F 2 p v) C S (upd m (14 + 6 * p) v) := by
  obtain ⟨⟨a1, a2, a3, a4⟩, b, c, d, e, f, g, h⟩ := h
  refine ⟨⟨?_, ?_, ?_, ?_⟩, fun i hi => ?_, fun i hi => ?_, fun i hi => ?_, fun i hi => ?_, fun i hi => ?_, ?_, fun i hi hi2 => ?_⟩
  · show upd m (14 + 6 * p) v 0 = _
    rw [upd_n (by omega)]; exact a1
  · show upd m (14 + 6 * p) v 1 = _
    rw [upd_n (by omega)]; exact a2
  · show upd m (14 + 6 * p) v 2 = _
    rw [upd_n (by omega)]; exact a3
  · show upd m (14 + 6 * p) v 3 = _
    rw [upd_n (by omega)]; exact a4
  · show upd m (14 + 6 * p) v (4 + i) = _
    rw [upd_n (by omega)]; exact b i hi
  · show upd m (14 + 6 * p) v (10 + i) = _
    rw [upd_n (by omega)]; exact c i hi
  · show upd m (14 + 6 * p) v (14 + 6 * i) = upd (F 2) p v i ∧ upd m (14 + 6 * p) v (14 + 6 * i + 1) = F 3 i ∧ upd m (14 + 6 * p) v (14 + 6 * i + 2) = F 4 i ∧ upd m (14 + 6 * p) v (14 + 6 * i + 3) = F 5 i ∧ upd m (14 + 6 * p) v (14 + 6 * i + 4) = S 6 i ∧ upd m (14 + 6 * p) v (14 + 6 * i + 5) = if bt (F 0 5) i then 1 else 0
    obtain ⟨d0, d1, d2, d3, d4, d5⟩ := d i hi
    have hs : upd m (14 + 6 * p) v (14 + 6 * i) = upd (F 2) p v i := by
      by_cases q : i = p
      · rw [q, upd_s, upd_s]
      · rw [upd_n (by omega), upd_n q]; exact d0
    exact ⟨hs, (by rw [upd_n (by omega)]; exact d1), (by rw [upd_n (by omega)]; exact d2), (by rw [upd_n (by omega)]; exact d3), (by rw [upd_n (by omega)]; exact d4), (by rw [upd_n (by omega)]; exact d5)⟩
  · show upd m (14 + 6 * p) v (74 + i) = _
    rw [upd_n (by omega)]; exact e i hi
  · show upd m (14 + 6 * p) v (174 + i) = _
    rw [upd_n (by omega)]; exact f i hi
  · show upd m (14 + 6 * p) v 190 = _
    rw [upd_n (by omega)]; exact g
  · show upd m (14 + 6 * p) v (191 + i) = _
    rw [upd_n (by omega)]; exact h i hi hi2
theorem core_age {F C S : ST} {m : Nat → Int32} (h : core F C S m) {p : Nat} (hp : p < 10) (v : Int32) : core (sti F 3 p v) C S (upd m (14 + 6 * p + 1) v) := by
  obtain ⟨⟨a1, a2, a3, a4⟩, b, c, d, e, f, g, h⟩ := h
  refine ⟨⟨?_, ?_, ?_, ?_⟩, fun i hi => ?_, fun i hi => ?_, fun i hi => ?_, fun i hi => ?_, fun i hi => ?_, ?_, fun i hi hi2 => ?_⟩
  · show upd m (14 + 6 * p + 1) v 0 = _
    rw [upd_n (by omega)]; exact a1
  · show upd m (14 + 6 * p + 1) v 1 = _
    rw [upd_n (by omega)]; exact a2
  · show upd m (14 + 6 * p + 1) v 2 = _
    rw [upd_n (by omega)]; exact a3
  · show upd m (14 + 6 * p + 1) v 3 = _
    rw [upd_n (by omega)]; exact a4
  · show upd m (14 + 6 * p + 1) v (4 + i) = _
    rw [upd_n (by omega)]; exact b i hi
  · show upd m (14 + 6 * p + 1) v (10 + i) = _
    rw [upd_n (by omega)]; exact c i hi
  · show upd m (14 + 6 * p + 1) v (14 + 6 * i) = F 2 i ∧ upd m (14 + 6 * p + 1) v (14 + 6 * i + 1) = upd (F 3) p v i ∧ upd m (14 + 6 * p + 1) v (14 + 6 * i + 2) = F 4 i ∧ upd m (14 + 6 * p + 1) v (14 + 6 * i + 3) = F 5 i ∧ upd m (14 + 6 * p + 1) v (14 + 6 * i + 4) = S 6 i ∧ upd m (14 + 6 * p + 1) v (14 + 6 * i + 5) = if bt (F 0 5) i then 1 else 0
    obtain ⟨d0, d1, d2, d3, d4, d5⟩ := d i hi
    have hs : upd m (14 + 6 * p + 1) v (14 + 6 * i + 1) = upd (F 3) p v i := by
      by_cases q : i = p
      · rw [q, upd_s, upd_s]
      · rw [upd_n (by omega), upd_n q]; exact d1
    exact ⟨(by rw [upd_n (by omega)]; exact d0), hs, (by rw [upd_n (by omega)]; exact d2), (by rw [upd_n (by omega)]; exact d3), (by rw [upd_n (by omega)]; exact d4), (by rw [upd_n (by omega)]; exact d5)⟩
  · show upd m (14 + 6 * p + 1) v (74 + i) = _
    rw [upd_n (by omega)]; exact e i hi
  · show upd m (14 + 6 * p + 1) v (174 + i) = _
    rw [upd_n (by omega)]; exact f i hi
  · show upd m (14 + 6 * p + 1) v 190 = _
    rw [upd_n (by omega)]; exact g
  · show upd m (14 + 6 * p + 1) v (191 + i) = _
    rw [upd_n (by omega)]; exact h i hi hi2
theorem core_sort {F C S : ST} {m : Nat → Int32} (h : core F C S m) {p : Nat} (hp : p < 10) (v : Int32) : core (sti F 4 p v) C S (upd m (14 + 6 * p + 2) v) := by
  obtain ⟨⟨a1, a2, a3, a4⟩, b, c, d, e, f, g, h⟩ := h
  refine ⟨⟨?_, ?_, ?_, ?_⟩, fun i hi => ?_, fun i hi => ?_, fun i hi => ?_, fun i hi => ?_, fun i hi => ?_, ?_, fun i hi hi2 => ?_⟩
  · show upd m (14 + 6 * p + 2) v 0 = _
    rw [upd_n (by omega)]; exact a1
  · show upd m (14 + 6 * p + 2) v 1 = _
    rw [upd_n (by omega)]; exact a2
  · show upd m (14 + 6 * p + 2) v 2 = _
    rw [upd_n (by omega)]; exact a3
  · show upd m (14 + 6 * p + 2) v 3 = _
    rw [upd_n (by omega)]; exact a4
  · show upd m (14 + 6 * p + 2) v (4 + i) = _
    rw [upd_n (by omega)]; exact b i hi
  · show upd m (14 + 6 * p + 2) v (10 + i) = _
    rw [upd_n (by omega)]; exact c i hi
  · show upd m (14 + 6 * p + 2) v (14 + 6 * i) = F 2 i ∧ upd m (14 + 6 * p + 2) v (14 + 6 * i + 1) = F 3 i ∧ upd m (14 + 6 * p + 2) v (14 + 6 * i + 2) = upd (F 4) p v i ∧ upd m (14 + 6 * p + 2) v (14 + 6 * i + 3) = F 5 i ∧ upd m (14 + 6 * p + 2) v (14 + 6 * i + 4) = S 6 i ∧ upd m (14 + 6 * p + 2) v (14 + 6 * i + 5) = if bt (F 0 5) i then 1 else 0
    obtain ⟨d0, d1, d2, d3, d4, d5⟩ := d i hi
    have hs : upd m (14 + 6 * p + 2) v (14 + 6 * i + 2) = upd (F 4) p v i := by
      by_cases q : i = p
      · rw [q, upd_s, upd_s]
      · rw [upd_n (by omega), upd_n q]; exact d2
    exact ⟨(by rw [upd_n (by omega)]; exact d0), (by rw [upd_n (by omega)]; exact d1), hs, (by rw [upd_n (by omega)]; exact d3), (by rw [upd_n (by omega)]; exact d4), (by rw [upd_n (by omega)]; exact d5)⟩
  · show upd m (14 + 6 * p + 2) v (74 + i) = _
    rw [upd_n (by omega)]; exact e i hi
  · show upd m (14 + 6 * p + 2) v (174 + i) = _
    rw [upd_n (by omega)]; exact f i hi
  · show upd m (14 + 6 * p + 2) v 190 = _
    rw [upd_n (by omega)]; exact g
  · show upd m (14 + 6 * p + 2) v (191 + i) = _
    rw [upd_n (by omega)]; exact h i hi hi2
theorem core_kin {F C S : ST} {m : Nat → Int32} (h : core F C S m) {p : Nat} (hp : p < 10) (v : Int32) : core (sti F 5 p v) C S (upd m (14 + 6 * p + 3) v) := by
  obtain ⟨⟨a1, a2, a3, a4⟩, b, c, d, e, f, g, h⟩ := h
  refine ⟨⟨?_, ?_, ?_, ?_⟩, fun i hi => ?_, fun i hi => ?_, fun i hi => ?_, fun i hi => ?_, fun i hi => ?_, ?_, fun i hi hi2 => ?_⟩
  · show upd m (14 + 6 * p + 3) v 0 = _
    rw [upd_n (by omega)]; exact a1
  · show upd m (14 + 6 * p + 3) v 1 = _
    rw [upd_n (by omega)]; exact a2
  · show upd m (14 + 6 * p + 3) v 2 = _
    rw [upd_n (by omega)]; exact a3
  · show upd m (14 + 6 * p + 3) v 3 = _
    rw [upd_n (by omega)]; exact a4
  · show upd m (14 + 6 * p + 3) v (4 + i) = _
    rw [upd_n (by omega)]; exact b i hi
  · show upd m (14 + 6 * p + 3) v (10 + i) = _
    rw [upd_n (by omega)]; exact c i hi
  · show upd m (14 + 6 * p + 3) v (14 + 6 * i) = F 2 i ∧ upd m (14 + 6 * p + 3) v (14 + 6 * i + 1) = F 3 i ∧ upd m (14 + 6 * p + 3) v (14 + 6 * i + 2) = F 4 i ∧ upd m (14 + 6 * p + 3) v (14 + 6 * i + 3) = upd (F 5) p v i ∧ upd m (14 + 6 * p + 3) v (14 + 6 * i + 4) = S 6 i ∧ upd m (14 + 6 * p + 3) v (14 + 6 * i + 5) = if bt (F 0 5) i then 1 else 0
    obtain ⟨d0, d1, d2, d3, d4, d5⟩ := d i hi
    have hs : upd m (14 + 6 * p + 3) v (14 + 6 * i + 3) = upd (F 5) p v i := by
      by_cases q : i = p
      · rw [q, upd_s, upd_s]
      · rw [upd_n (by omega), upd_n q]; exact d3
    exact ⟨(by rw [upd_n (by omega)]; exact d0), (by rw [upd_n (by omega)]; exact d1), (by rw [upd_n (by omega)]; exact d2), hs, (by rw [upd_n (by omega)]; exact d4), (by rw [upd_n (by omega)]; exact d5)⟩
  · show upd m (14 + 6 * p + 3) v (74 + i) = _
    rw [upd_n (by omega)]; exact e i hi
  · show upd m (14 + 6 * p + 3) v (174 + i) = _
    rw [upd_n (by omega)]; exact f i hi
  · show upd m (14 + 6 * p + 3) v 190 = _
    rw [upd_n (by omega)]; exact g
  · show upd m (14 + 6 * p + 3) v (191 + i) = _
    rw [upd_n (by omega)]; exact h i hi hi2
theorem core_ruled {F C S : ST} {m : Nat → Int32} (h : core F C S m) {p : Nat} (hp : p < 10) (v : Int32) : core F C (sti S 6 p v) (upd m (14 + 6 * p + 4) v) := by
  obtain ⟨⟨a1, a2, a3, a4⟩, b, c, d, e, f, g, h⟩ := h
  refine ⟨⟨?_, ?_, ?_, ?_⟩, fun i hi => ?_, fun i hi => ?_, fun i hi => ?_, fun i hi => ?_, fun i hi => ?_, ?_, fun i hi hi2 => ?_⟩
  · show upd m (14 + 6 * p + 4) v 0 = _
    rw [upd_n (by omega)]; exact a1
  · show upd m (14 + 6 * p + 4) v 1 = _
    rw [upd_n (by omega)]; exact a2
  · show upd m (14 + 6 * p + 4) v 2 = _
    rw [upd_n (by omega)]; exact a3
  · show upd m (14 + 6 * p + 4) v 3 = _
    rw [upd_n (by omega)]; exact a4
  · show upd m (14 + 6 * p + 4) v (4 + i) = _
    rw [upd_n (by omega)]; exact b i hi
  · show upd m (14 + 6 * p + 4) v (10 + i) = _
    rw [upd_n (by omega)]; exact c i hi
  · show upd m (14 + 6 * p + 4) v (14 + 6 * i) = F 2 i ∧ upd m (14 + 6 * p + 4) v (14 + 6 * i + 1) = F 3 i ∧ upd m (14 + 6 * p + 4) v (14 + 6 * i + 2) = F 4 i ∧ upd m (14 + 6 * p + 4) v (14 + 6 * i + 3) = F 5 i ∧ upd m (14 + 6 * p + 4) v (14 + 6 * i + 4) = upd (S 6) p v i ∧ upd m (14 + 6 * p + 4) v (14 + 6 * i + 5) = if bt (F 0 5) i then 1 else 0
    obtain ⟨d0, d1, d2, d3, d4, d5⟩ := d i hi
    have hs : upd m (14 + 6 * p + 4) v (14 + 6 * i + 4) = upd (S 6) p v i := by
      by_cases q : i = p
      · rw [q, upd_s, upd_s]
      · rw [upd_n (by omega), upd_n q]; exact d4
    exact ⟨(by rw [upd_n (by omega)]; exact d0), (by rw [upd_n (by omega)]; exact d1), (by rw [upd_n (by omega)]; exact d2), (by rw [upd_n (by omega)]; exact d3), hs, (by rw [upd_n (by omega)]; exact d5)⟩
  · show upd m (14 + 6 * p + 4) v (74 + i) = _
    rw [upd_n (by omega)]; exact e i hi
  · show upd m (14 + 6 * p + 4) v (174 + i) = _
    rw [upd_n (by omega)]; exact f i hi
  · show upd m (14 + 6 * p + 4) v 190 = _
    rw [upd_n (by omega)]; exact g
  · show upd m (14 + 6 * p + 4) v (191 + i) = _
    rw [upd_n (by omega)]; exact h i hi hi2
theorem core_untell {F C S : ST} {m : Nat → Int32} (h : core F C S m)  : core F (sti C 0 2 0) S (upd m 190 0) := by
  obtain ⟨⟨a1, a2, a3, a4⟩, b, c, d, e, f, g, h⟩ := h
  refine ⟨⟨?_, ?_, ?_, ?_⟩, fun i hi => ?_, fun i hi => ?_, fun i hi => ?_, fun i hi => ?_, fun i hi => ?_, ?_, fun i hi hi2 => ?_⟩
  · show upd m 190 0 0 = _
    rw [upd_n (by omega)]; exact a1
  · show upd m 190 0 1 = _
    rw [upd_n (by omega)]; exact a2
  · show upd m 190 0 2 = _
    rw [upd_n (by omega)]; exact a3
  · show upd m 190 0 3 = _
    rw [upd_n (by omega)]; exact a4
  · show upd m 190 0 (4 + i) = _
    rw [upd_n (by omega)]; exact b i hi
  · show upd m 190 0 (10 + i) = _
    rw [upd_n (by omega)]; exact c i hi
  · show upd m 190 0 (14 + 6 * i) = _ ∧ upd m 190 0 (14 + 6 * i + 1) = _ ∧ upd m 190 0 (14 + 6 * i + 2) = _ ∧ upd m 190 0 (14 + 6 * i + 3) = _ ∧ upd m 190 0 (14 + 6 * i + 4) = _ ∧ upd m 190 0 (14 + 6 * i + 5) = _
    rw [upd_n (by omega), upd_n (by omega), upd_n (by omega), upd_n (by omega), upd_n (by omega), upd_n (by omega)]; exact d i hi
  · show upd m 190 0 (74 + i) = _
    rw [upd_n (by omega)]; exact e i hi
  · show upd m 190 0 (174 + i) = _
    rw [upd_n (by omega)]; exact f i hi
  · rfl
  · exact absurd hi2 (nI_pos (by omega))
