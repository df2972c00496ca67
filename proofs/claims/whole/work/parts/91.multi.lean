/-! AN ARRAY OF ARRAYS MADE BY ONE INSTRUCTION: what the model's 'make' does with two counts, at a state that stands -/
def mO (h0 i : Nat) : Nat → Value := fun j => if j < i then .ref (h0 + 1 + j) else .null
theorem mO_none (h0 : Nat) : mO h0 0 = fun _ => Value.null := by
  funext j
  exact if_neg (Nat.not_lt_zero j)
theorem mO_more (h0 i : Nat) : updV (mO h0 i) i (.ref (h0 + 1 + i)) = mO h0 (i + 1) := by
  funext j
  unfold updV mO
  rcases Nat.lt_trichotomy j i with h | h | h
  · rw [if_neg (by omega), if_pos h, if_pos (by omega)]
  · subst h
    rw [if_pos rfl, if_pos (by omega)]
  · rw [if_neg (by omega), if_neg (by omega), if_neg (by omega)]
/-- The heap H with the outer array behind it, i of its places filled, and behind that i rows, all alike. -/
def mH (H : Heap) (cA : ClassId) (N : Nat) (row : Cell) (i : Nat) : Heap := H.push (arrV cA N (mO H.size i)) ++ Array.replicate i row
theorem mH_size (H : Heap) (cA : ClassId) (N : Nat) (row : Cell) (i : Nat) : (mH H cA N row i).size = H.size + 1 + i := by
  simp [mH]
theorem mH_old (H : Heap) (cA : ClassId) (N : Nat) (row : Cell) (i : Nat) {q : Nat} (hq : q < H.size) : (mH H cA N row i)[q]? = H[q]? := by
  unfold mH
  rw [Array.getElem?_append_left (by rw [Array.size_push]; omega), Array.getElem?_push, if_neg (by omega)]
theorem mH_out (H : Heap) (cA : ClassId) (N : Nat) (row : Cell) (i : Nat) : (mH H cA N row i)[H.size]? = some (arrV cA N (mO H.size i)) := by
  unfold mH
  rw [Array.getElem?_append_left (by rw [Array.size_push]; omega), Array.getElem?_push, if_pos rfl]
theorem mH_row (H : Heap) (cA : ClassId) (N : Nat) (row : Cell) (i : Nat) {j : Nat} (hj : j < i) : (mH H cA N row i)[H.size + 1 + j]? = some row := by
  unfold mH
  rw [Array.getElem?_append_right (by rw [Array.size_push]; omega), Array.size_push, show H.size + 1 + j - (H.size + 1) = j by omega, Array.getElem?_replicate, if_pos hj]
theorem mH_more (H : Heap) (cA : ClassId) (N : Nat) (row : Cell) (i : Nat) : ((mH H cA N row i).push row).setIfInBounds H.size (arrV cA N (mO H.size (i + 1))) = mH H cA N row (i + 1) := by
  apply Array.ext_getElem?
  intro q
  have hs := mH_size H cA N row i
  have hs1 := mH_size H cA N row (i + 1)
  rw [Array.getElem?_setIfInBounds, Array.size_push, hs]
  rcases Nat.lt_trichotomy H.size q with h | h | h
  · rw [if_neg (by omega)]
    obtain ⟨j, rfl⟩ : ∃ j, q = H.size + 1 + j := ⟨q - (H.size + 1), by omega⟩
    rw [Array.getElem?_push, hs]
    rcases Nat.lt_trichotomy j i with g | g | g
    · rw [if_neg (by omega), mH_row H cA N row i g, mH_row H cA N row (i + 1) (by omega)]
    · rw [if_pos (by omega), mH_row H cA N row (i + 1) (by omega)]
    · rw [if_neg (by omega), Array.getElem?_eq_none (by omega), Array.getElem?_eq_none (by omega)]
  · subst h
    rw [if_pos rfl, if_pos (by omega), mH_out]
  · rw [if_neg (by omega), Array.getElem?_push, if_neg (by omega), mH_old _ _ _ _ _ h, mH_old _ _ _ _ _ h]
section
variable {p : Program} {l : Launch} {e : Env} {R : Room} {s : State} {m : MethodId} {args : Array Value} {below : List Frame} {meth : Method} {c : Code} {T : State} {locs : List Loc} {cells slots : Nat} {E : CtlPost} {d : Bool} {acts : List Action} {f : JFrame} {Q : Addr → Pre}
/-- A store into a cell that was not there at the call leaves no mark. -/
theorem st_own (X : Stand p l e R s m args below meth c T locs cells slots) {a : Addr} {x : Cell} (ha : s.heap.size ≤ a) (hx : T.heap[a]? = some x) (i : Nat) (v : Value) : Stand p l e R s m args below meth c (T.setCell a (x.setSlot i v)) locs cells slots :=
  { X.stored hx i v with
    same := (X.stored hx i v).same.weaken (fun q hq hlt => by
      rcases List.mem_append.mp hq with h | h
      · exact h
      · rw [List.mem_singleton] at h
        subst h
        exact absurd hlt (Nat.not_lt.mpr ha)) (Nat.le_refl _) (Nat.le_refl _) }
/-- The model's own maker of one array, at a state that stands. -/
theorem wn_arr (X : Stand p l e R s m args below meth c T locs cells slots) {cl c2 : ClassId} {kc : Class} {t : FieldType} {n : Nat} {v : Value} (hk : T.vm.classes[cl]? = some kc) (hkind : kc.kind = .array c2 t) (hn : n ≤ 1000) (hw : componentBytes t ≤ 8) (hf : fits t v = true) (h1 : cells + 1 ≤ R.cells) (h2 : slots + n ≤ R.slots)
    (hq : ∀ d' a', Q T.heap.size d' a' ((T.pushCell (arrV cl n fun _ => v)).setTop f)) : wp (Jvm.newArray cl n v) Q E e d acts (T.setTop f) := by
  obtain ⟨r1, r2⟩ := X.roomAbove h1 h2
  have hb : n * componentBytes t ≤ 1000 * 8 := Nat.mul_le_mul hn hw
  have g1 : ¬ n > e.platform.arrayLengthLimit := by rw [Launch.admits_arrayLengthLimit X.admits]; omega
  have g2 : ¬ n * componentBytes t > e.platform.maxHeapBytes := by rw [Launch.admits_maxHeapBytes X.admits]; omega
  have g3 : ¬ n > e.platform.maxSlots := by omega
  simp only [Jvm.newArray, Jvm.arrayFits, wp_bind', W.ask, W.ite, if_neg g1, wp_pure', W.theClass, State.vm_setTop, hk, Option.some.injEq, exists_eq_left', hkind, if_neg g2, if_neg g3, W.alloc]
  refine ⟨r1, by rw [Array.size_replicate]; exact r2, fun i x hx => ?_, ?_⟩
  · rw [Array.getElem?_replicate] at hx
    split at hx
    · cases hx
      simp [State.fitsSlot, State.slotType?, hk, hkind, hf]
    · cases hx
  · rw [arrV_new]
    exact hq _ _
theorem mk_one (X : Stand p l e R s m args below meth c T locs cells slots) {cl c2 : ClassId} {kc : Class} {t : FieldType} {k : Int32} {M : Nat} (hk : T.vm.classes[cl]? = some kc) (hkind : kc.kind = .array c2 t) (h0 : ¬ k < 0) (hM : k.toNatClampNeg = M) (hn : M ≤ 1000) (hw : componentBytes t ≤ 8) (hf : fits t (defaultValue t) = true) (h1 : cells + 1 ≤ R.cells) (h2 : slots + M ≤ R.slots)
    (hq : ∀ d' a', Q T.heap.size d' a' ((T.pushCell (arrV cl M fun _ => defaultValue t)).setTop f)) : wp (Op.multianewarray.make cl [k]) Q E e d acts (T.setTop f) := by
  subst hM
  rw [Op.multianewarray.make]
  simp only [wp_bind', W.ite, if_neg h0, wp_pure', W.theClass, State.vm_setTop, hk, Option.some.injEq, exists_eq_left', hkind]
  exact wn_arr X hk hkind hn hw hf h1 h2 hq
/-- What holds before the loop's turn i: the tables of T, the heap of T with i rows, and the state stands. -/
def mw_I (p : Program) (l : Launch) (e : Env) (R : Room) (s : State) (m : MethodId) (args : Array Value) (below : List Frame) (meth : Method) (c : Code) (T : State) (locs : List Loc) (cells slots : Nat) (f : JFrame) (cA : ClassId) (N M : Nat) (row : Cell) (i : Nat) (U : State) : Prop :=
  ∃ V : State, U = V.setTop f ∧ V.vm = T.vm ∧ V.heap = mH T.heap cA N row i ∧ Stand p l e R s m args below meth c V locs (cells + 1 + i) (slots + N + i * M)
theorem mk_two (X : Stand p l e R s m args below meth c T locs cells slots) {cA cB c2 : ClassId} {kA kB : Class} {t : FieldType} {n k : Int32} {N M : Nat} (hkA : T.vm.classes[cA]? = some kA) (hkindA : kA.kind = .array cB (.array t)) (hkB : T.vm.classes[cB]? = some kB) (hkindB : kB.kind = .array c2 t) (hn0 : ¬ n < 0) (hk0 : ¬ k < 0) (hN : n.toNatClampNeg = N) (hM : k.toNatClampNeg = M) (hb1 : N ≤ 1000) (hb2 : M ≤ 1000) (hw : componentBytes t ≤ 8) (hf : fits t (defaultValue t) = true) (h1 : cells + (1 + N) ≤ R.cells) (h2 : slots + (N + N * M) ≤ R.slots)
    (hq : ∀ d' a' U, mw_I p l e R s m args below meth c T locs cells slots f cA N M (arrV cB M fun _ => defaultValue t) N U → Q T.heap.size d' a' U) : wp (Op.multianewarray.make cA [n, k]) Q E e d acts (T.setTop f) := by
  subst hN
  have hs : s.heap.size ≤ T.heap.size := X.same.2.1
  rw [Op.multianewarray.make]
  simp only [wp_bind', W.ite, if_neg hn0, wp_pure', W.theClass, State.vm_setTop, hkA, Option.some.injEq, exists_eq_left', hkindA]
  refine wn_arr X hkA hkindA hb1 (by show 4 ≤ 8; omega) rfl (by omega) (by omega) fun d1 a1 => ?_
  have hnone : List.find? (fun x => decide (x < 0)) [k] = none := by simp [hk0]
  simp only [hnone, ite_self, wp_bind', wp_pure', Std.Legacy.Range.forIn_eq_forIn_range']
  refine wp_forIn_inv (fun todo U => ∃ i, i + todo.length = n.toNatClampNeg ∧ todo = List.range' i todo.length ∧ mw_I p l e R s m args below meth c T locs cells slots f cA n.toNatClampNeg M (arrV cB M fun _ => defaultValue t) i U) _ _ ?_ ?_ ?_
  · refine ⟨0, by simp [Std.Legacy.Range.size], by simp [Std.Legacy.Range.size], _, rfl, rfl, ?_, ?_⟩
    · show T.heap.push _ = T.heap.push _ ++ Array.replicate 0 _
      rw [mO_none, Array.replicate_zero, Array.append_empty]
    · have Y := X.pushed (arrV cA n.toNatClampNeg fun _ => Value.null)
      rw [arrV_size] at Y
      rw [Nat.zero_mul]
      exact Y
  · rintro i todo U d2 a2 Q2 ⟨i', hi, hr, V, rfl, hvm, hh, Y⟩ hnext
    rw [List.length_cons, List.range'_succ] at hr
    obtain ⟨rfl, hr⟩ := List.cons.inj hr
    rw [List.length_cons] at hi
    have hlt : i < n.toNatClampNeg := by omega
    have hmul : i * M + M ≤ n.toNatClampNeg * M := by
      rw [← Nat.succ_mul]
      exact Nat.mul_le_mul_right M hlt
    have hsz : V.heap.size = T.heap.size + 1 + i := by rw [hh, mH_size]
    have hbe : T.heap.size < V.heap.size := by omega
    have hout : (V.pushCell (arrV cB M fun _ => defaultValue t)).heap[T.heap.size]? = some (arrV cA n.toNatClampNeg (mO T.heap.size i)) := by
      rw [State.heap_pushCell_of_lt _ _ hbe, hh, mH_out]
    simp only [wp_bind']
    refine mk_one Y (by rw [hvm]; exact hkB) hkindB hk0 hM hb2 hw hf (by omega) (by omega) fun d3 a3 => ?_
    simp only [wp_bind', W.writeLoc, wp_pure']
    refine ⟨_, hout, nofun, by rw [arrV_size]; exact hlt, ?_, ?_⟩
    · simp [State.fitsSlot, State.slotType?, arrV, hvm, hkA, hkindA, fits]
    · refine hnext _ _ _ ⟨i + 1, by omega, hr, (V.pushCell (arrV cB M fun _ => defaultValue t)).setCell T.heap.size ((arrV cA n.toNatClampNeg (mO T.heap.size i)).setSlot i (.ref V.heap.size)), rfl, hvm, ?_, ?_⟩
      · show (V.heap.push _).setIfInBounds T.heap.size _ = _
        rw [arrV_store, hsz, mO_more, hh, mH_more]
      · have Z := st_own (Y.pushed (arrV cB M fun _ => defaultValue t)) hs hout i (.ref V.heap.size)
        rw [arrV_size] at Z
        rw [Nat.succ_mul, ← Nat.add_assoc (slots + n.toNatClampNeg)]
        exact Z
  · rintro U d2 a2 ⟨i, hi, -, h⟩
    rw [List.length_nil, Nat.add_zero] at hi
    subst hi
    exact hq _ _ _ h
end
