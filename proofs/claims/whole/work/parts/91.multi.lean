/-! AN ARRAY OF ARRAYS made by one instruction: its row -/
def mO (h0 i : Nat) : Nat → Value := fun j => if j < i then .ref (h0 + 1 + j) else .null
theorem mO_s (h0 i : Nat) : updV (mO h0 i) i (.ref (h0 + 1 + i)) = mO h0 (i + 1) := by
  funext j
  unfold updV mO
  by_cases c : j = i
  · subst c; rw [if_pos rfl, if_pos (by omega)]
  · rw [if_neg c]
    by_cases d : j < i
    · rw [if_pos d, if_pos (by omega)]
    · rw [if_neg d, if_neg (by omega)]
/-- the machine with the outer array and i rows -/
def mS (T : State) (cA cB : ClassId) (N M : Nat) (dv : Value) : Nat → State
  | 0 => T.pushCell (arrV cA N (mO T.heap.size 0))
  | i + 1 => ((mS T cA cB N M dv i).pushCell (arrV cB M (fun _ => dv))).setCell T.heap.size (arrV cA N (mO T.heap.size (i + 1)))
theorem mS_top (T : State) (f : JFrame) (cA cB : ClassId) (N M : Nat) (dv : Value) : ∀ i, mS (T.setTop f) cA cB N M dv i = (mS T cA cB N M dv i).setTop f
  | 0 => rfl
  | i + 1 => by simp only [mS, mS_top T f cA cB N M dv i, State.heap_setTop, State.pushCell_setTop, State.setCell_setTop]
def mF (T : State) (cA cB : ClassId) (N M : Nat) (dv : Value) (i : Nat) (V : State) : Prop := V.heap.size = T.heap.size + 1 + i ∧ V.heap[T.heap.size]? = some (arrV cA N (mO T.heap.size i)) ∧ V.vm = T.vm ∧ V.slotsUsed = T.slotsUsed + N + i * M ∧ (∀ q : Nat, q < T.heap.size → V.heap[q]? = T.heap[q]?) ∧ ∀ j : Nat, j < i → V.heap[T.heap.size + 1 + j]? = some (arrV cB M (fun _ => dv))
theorem mS_at (T : State) (cA cB : ClassId) (N M : Nat) (dv : Value) : ∀ i, mF T cA cB N M dv i (mS T cA cB N M dv i)
  | 0 => ⟨by simp [mS], by simp [mS], rfl, by simp [mS, arrV_size], fun q hq => State.heap_pushCell_of_lt _ _ hq, fun j hj => absurd hj (Nat.not_lt_zero _)⟩
  | i + 1 => by
    obtain ⟨h1, h2, h3, h4, h5, h6⟩ := mS_at T cA cB N M dv i
    have lt0 : T.heap.size < (mS T cA cB N M dv i).heap.size := by rw [h1]; omega
    have own : ((mS T cA cB N M dv i).pushCell (arrV cB M (fun _ => dv))).heap[T.heap.size]? = some (arrV cA N (mO T.heap.size i)) := by
      rw [State.heap_pushCell_of_lt (h := lt0)]; exact h2
    refine ⟨?_, State.heap_setCell_self own, by simp [mS, h3], ?_, fun q hq => ?_, fun j hj => ?_⟩
    · simp [mS, State.setCell, h1]; omega
    · simp [mS, h4, arrV_size, Nat.succ_mul]; omega
    · show (((mS T cA cB N M dv i).pushCell _).setCell T.heap.size _).heap[q]? = _
      have lt1 : q < (mS T cA cB N M dv i).heap.size := by rw [h1]; omega
      rw [State.heap_setCell_other (Nat.ne_of_gt hq), State.heap_pushCell_of_lt (h := lt1)]
      exact h5 q hq
    · show (((mS T cA cB N M dv i).pushCell _).setCell T.heap.size _).heap[T.heap.size + 1 + j]? = _
      rw [State.heap_setCell_other (show T.heap.size ≠ T.heap.size + 1 + j by omega)]
      by_cases c : j = i
      · subst c
        rw [← h1]
        exact State.heap_pushCell_size _ _
      · have lt2 : T.heap.size + 1 + j < (mS T cA cB N M dv i).heap.size := by rw [h1]; omega
        rw [State.heap_pushCell_of_lt (h := lt2)]
        exact h6 j (by omega)
theorem mS_stand {p : Program} {l : Launch} {e : Env} {R : Room} {s : State} {m : MethodId} {args : Array Value} {below : List Frame} {meth : Method} {c : Code} {T : State} {locs : List Loc} {cells slots : Nat} (X : Stand p l e R s m args below meth c T locs cells slots) (cA cB : ClassId) (N M : Nat) (dv : Value) : ∀ i, Stand p l e R s m args below meth c (mS T cA cB N M dv i) locs (cells + 1 + i) (slots + N + i * M)
  | 0 => by
    have h := X.pushed (arrV cA N (mO T.heap.size 0))
    rw [arrV_size] at h
    simpa [mS] using h
  | i + 1 => by
    have ih := mS_stand X cA cB N M dv i
    obtain ⟨h1, h2, -⟩ := mS_at T cA cB N M dv i
    have lt0 : T.heap.size < (mS T cA cB N M dv i).heap.size := by rw [h1]; omega
    have own : ((mS T cA cB N M dv i).pushCell (arrV cB M (fun _ => dv))).heap[T.heap.size]? = some (arrV cA N (mO T.heap.size i)) := by
      rw [State.heap_pushCell_of_lt (h := lt0)]; exact h2
    have h := (ih.pushed (arrV cB M (fun _ => dv))).stored own i (.ref (T.heap.size + 1 + i))
    rw [arrV_size, arrV_store, mO_s] at h
    have h' := Stand.forget h (fun y hy => by
      rw [List.mem_singleton] at hy
      rw [hy]
      exact X.same.2.1)
    rw [show slots + N + (i + 1) * M = slots + N + i * M + M by rw [Nat.succ_mul]; omega]
    exact h'
theorem fitsR {t : FieldType} (ht : t.isReference = true) : fits t .null = true ∧ ∀ a, fits t (.ref a) = true := by
  cases t <;> first | (exact absurd ht (by decide)) | (exact ⟨rfl, fun _ => rfl⟩)
section
variable {E : CtlPost} {e : Env} {d : Bool} {acts : List Action} {s : State}
theorem wp_row {cB cc : ClassId} {kB : Class} {ty : FieldType} {k : Int32} (hk : s.vm.classes[cB]? = some kB) (hkind : kB.kind = .array cc ty) (h0 : ¬ k < 0) (hl : ¬ k.toNatClampNeg > e.platform.arrayLengthLimit) (hh : ¬ k.toNatClampNeg * componentBytes ty > e.platform.maxHeapBytes) (hf : fits ty (defaultValue ty) = true) (h1 : s.heap.size < e.platform.maxCells) (h2 : s.slotsUsed + k.toNatClampNeg ≤ e.platform.maxSlots) {Q : Addr → Pre} (hq : ∀ a, Q s.heap.size d a (s.pushCell (arrV cB k.toNatClampNeg (fun _ => defaultValue ty)))) : wp (Op.multianewarray.make cB [k]) Q E e d acts s := by
  rw [Op.multianewarray.make]
  simp only [wp_bind', W.ite, h0, if_false, wp_pure', W.theClass, hk, hkind, Option.some.injEq, exists_eq_left']
  refine W.newArray_of hk hkind hl hh h1 h2 hf (fun a => ?_)
  have := hq a
  rw [← arrV_new] at this
  exact this
theorem wp_rows {cA cB cc : ClassId} {kA kB : Class} {ty : FieldType} {n k : Int32} (hkA : s.vm.classes[cA]? = some kA) (hkindA : kA.kind = .array cB (.array ty)) (hkB : s.vm.classes[cB]? = some kB) (hkindB : kB.kind = .array cc ty) (hn : ¬ n < 0) (hk : ¬ k < 0)
    (hl1 : ¬ n.toNatClampNeg > e.platform.arrayLengthLimit) (hh1 : ¬ n.toNatClampNeg * componentBytes (.array ty) > e.platform.maxHeapBytes) (hl2 : ¬ k.toNatClampNeg > e.platform.arrayLengthLimit) (hh2 : ¬ k.toNatClampNeg * componentBytes ty > e.platform.maxHeapBytes) (hf : fits ty (defaultValue ty) = true)
    (hc : s.heap.size + (1 + n.toNatClampNeg) ≤ e.platform.maxCells) (hs : s.slotsUsed + (n.toNatClampNeg + n.toNatClampNeg * k.toNatClampNeg) ≤ e.platform.maxSlots)
    {Q : Addr → Pre} (hq : ∀ d' a', Q s.heap.size d' a' (mS s cA cB n.toNatClampNeg k.toNatClampNeg (defaultValue ty) n.toNatClampNeg)) : wp (Op.multianewarray.make cA [n, k]) Q E e d acts s := by
  have hnone : ([k].find? (· < 0)) = none := by simp [hk]
  rw [Op.multianewarray.make]
  simp only [wp_bind', W.ite, hn, if_false, wp_pure', W.theClass, hkA, hkindA, Option.some.injEq, exists_eq_left']
  refine W.newArray_of hkA hkindA hl1 hh1 (by omega) (by have := Nat.zero_le (n.toNatClampNeg * k.toNatClampNeg); omega) (fitsR rfl).1 (fun a1 => ?_)
  simp only [hnone]
  rw [ite_self, wp_bind', Std.Legacy.Range.forIn_eq_forIn_range']
  have hsz : ([:n.toNatClampNeg] : Std.Legacy.Range).size = n.toNatClampNeg := by simp [Std.Legacy.Range.size]
  rw [hsz]
  show wp (forIn (List.range' 0 n.toNatClampNeg 1) PUnit.unit _) _ E e d a1 _
  refine wp_forIn_inv (fun xs V => ∃ i, i ≤ n.toNatClampNeg ∧ xs = List.range' i (n.toNatClampNeg - i) ∧ V = mS s cA cB n.toNatClampNeg k.toNatClampNeg (defaultValue ty) i) _ _ ⟨0, Nat.zero_le _, by simp, ?_⟩ ?_ ?_
  · show _ = s.pushCell (arrV cA n.toNatClampNeg (mO s.heap.size 0))
    have : arrV cA n.toNatClampNeg (mO s.heap.size 0) = arrV cA n.toNatClampNeg (fun _ => .null) := rfl
    rw [this, ← arrV_new]
  · rintro x xs V d' a' Q' ⟨i, hi, hx, rfl⟩ hnext
    have hlt : i < n.toNatClampNeg := by
      apply Nat.lt_of_not_le
      intro q
      rw [show n.toNatClampNeg - i = 0 by omega] at hx
      simp at hx
    rw [show n.toNatClampNeg - i = (n.toNatClampNeg - (i + 1)) + 1 by omega, List.range'_succ] at hx
    obtain ⟨rfl, hxs⟩ := List.cons.inj hx
    obtain ⟨f1, f2, f3, f4, f5, f6⟩ := mS_at s cA cB n.toNatClampNeg k.toNatClampNeg (defaultValue ty) x
    have hmul : x * k.toNatClampNeg + k.toNatClampNeg ≤ n.toNatClampNeg * k.toNatClampNeg := by
      have := Nat.mul_le_mul_right k.toNatClampNeg (show x + 1 ≤ n.toNatClampNeg from hlt)
      rw [Nat.succ_mul] at this
      exact this
    simp only [wp_bind']
    refine wp_row (by rw [f3]; exact hkB) hkindB hk hl2 hh2 hf (by rw [f1]; omega) (by rw [f4]; omega) (fun a2 => ?_)
    have lt0 : s.heap.size < (mS s cA cB n.toNatClampNeg k.toNatClampNeg (defaultValue ty) x).heap.size := by rw [f1]; omega
    have own : ((mS s cA cB n.toNatClampNeg k.toNatClampNeg (defaultValue ty) x).pushCell (arrV cB k.toNatClampNeg (fun _ => defaultValue ty))).heap[s.heap.size]? = some (arrV cA n.toNatClampNeg (mO s.heap.size x)) := by
      rw [State.heap_pushCell_of_lt (h := lt0)]; exact f2
    simp only [wp_bind', W.writeLoc, wp_pure']
    refine ⟨_, own, by simp [arrV], by rw [arrV_size]; exact hlt, ?_, hnext _ _ _ ⟨x + 1, hlt, hxs, ?_⟩⟩
    · simp [arrV, State.fitsSlot, State.slotType?, f3, hkA, hkindA, (fitsR (t := .array ty) rfl).2]
    · rw [arrV_store, f1, mO_s]
      rfl
  · rintro V d' a' ⟨i, hi, hx, rfl⟩
    have hiN : i = n.toNatClampNeg := by
      apply Nat.le_antisymm hi
      apply Nat.le_of_not_lt
      intro q
      rw [show n.toNatClampNeg - i = (n.toNatClampNeg - (i + 1)) + 1 by omega, List.range'_succ] at hx
      cases hx
    subst hiN
    simp only [wp_pure']
    exact hq _ _
end
