/-! CONSTRUCTORS: worlds that grow -/
def MAs (ca : Nat → ClassId) (U : State) : Prop := (∃ kA kB c2, U.vm.classes[ca 3]? = some kA ∧ kA.kind = .array (ca 0) (.array .int) ∧ U.vm.classes[ca 0]? = some kB ∧ kB.kind = .array c2 .int) ∧ (∃ kA kB c2, U.vm.classes[ca 4]? = some kA ∧ kA.kind = .array (ca 1) (.array .long) ∧ U.vm.classes[ca 1]? = some kB ∧ kB.kind = .array c2 .long)
theorem MAs.moved {ca : Nat → ClassId} {u U : State} (hvm : u.vm.Alike U.vm) (h : MAs ca u) : MAs ca U := by
  obtain ⟨⟨kA, kB, c2, h1, h2, h3, h4⟩, ⟨kC, kD, c3, g1, g2, g3, g4⟩⟩ := h
  obtain ⟨a1, a2, a3⟩ := hvm.2.2 _ _ h1
  obtain ⟨b1, b2, b3⟩ := hvm.2.2 _ _ h3
  obtain ⟨d1, d2, d3⟩ := hvm.2.2 _ _ g1
  obtain ⟨e1, e2, e3⟩ := hvm.2.2 _ _ g3
  exact ⟨⟨a1, b1, c2, a2, by rw [a3]; exact h2, b2, by rw [b3]; exact h4⟩, ⟨d1, e1, c3, d2, by rw [d3]; exact g2, e2, by rw [e3]; exact g4⟩⟩
def KI (X : Ctx) (kc : ByteArray) (nL : Nat) (ow : String) (A : Nat → Prop) : Prop := X.p.tables.exec = Jvm.exec ∧ X.c.code = kc ∧ X.c.maxLocals = nL ∧ X.s.vm.findClass ow = some X.m.cls ∧ (∀ w ∈ wsAll, w.before X.args X.s = true) ∧ va_K X.D vwCl (tysA X.ca) X.s ∧ NW X.s ∧ MAs X.ca X.s ∧ (∀ q, X.s.heap.size ≤ q → A q)
def WI (X : Ctx) (A : Nat → Prop) (nc ns nL pc : Nat) (lv : List (Nat × Value)) (st : List Value) (ws : va_W) : Prop :=
  ∀ (H : Heap) (locs : List Loc) (ls : Array Slot), va_P X.D vwCl ws H → va_D A ws → va_S A X.s.heap H locs → lv_has ls nL lv → W X.p X.l X.e X.R X.s X.m X.args X.below X.meth X.c H locs nc ns X.Q (F0 X.m pc ls st)
theorem aw_I : Cond.arrayClass .int ∈ wsAll := mem_tb 85 (by decide +kernel) (by decide +kernel)
theorem aw_L : Cond.arrayClass .long ∈ wsAll := mem_tb 145 (by decide +kernel) (by decide +kernel)
theorem aw_Z : Cond.arrayClass .boolean ∈ wsAll := mem_tb 693 (by decide +kernel) (by decide +kernel)
theorem oi_w : Cond.instanceMethod Lib.objectInit ∈ wsAll := mem_tb 18 (by decide +kernel) (by decide +kernel)
theorem oc_w : Cond.code Lib.objectInit ⟨#[0xb1]⟩ 1 none ∈ wsAll := mem_tb 19 (by decide +kernel) (by decide +kernel)
abbrev zI (c : ClassId) (n : Nat) : va_E := .inl (c, n, .inl (fun _ => 0))
abbrev zL (c : ClassId) (n : Nat) : va_E := .inl (c, n, .inr (.inl (fun _ => 0)))
abbrev zA (c : ClassId) (n q : Nat) : va_E := .inl (c, n, .inr (.inr (.inr (.inr (fun j => some (q + 1 + j))))))
def rwI (c : ClassId) (N M q : Nat) : va_W := (List.range N).map (fun j => (q + 1 + j, zI c M))
def rwL (c : ClassId) (N M q : Nat) : va_W := (List.range N).map (fun j => (q + 1 + j, zL c M))
section
variable {X : Ctx} {A : Nat → Prop} {kc : ByteArray} {nL : Nat} {ow : String} {nc ns pc : Nat} {lv : List (Nat × Value)} {st : List Value} {ws : va_W}
theorem i_aload (K : KI X kc nL ow A) {q : Fin 4} {i x : Nat} (j : Nat) (hd : decode kc pc = .ok (.aload_n q, 1)) (hi : (q : Nat) = i) (hj : lv[j]? = some (i, .ref x)) (k : WI X A nc ns nL (pc + 1) lv (.ref x :: st) ws) : WI X A nc ns nL pc lv st ws :=
  fun H locs ls hP hD hS hl => lv_aload_n K.1 K.2.1 hd hi (lv_at hl j hj) (k H locs ls hP hD hS hl)
theorem i_iconst (K : KI X kc nL ow A) {n : Int} {v : Int32} (hd : decode kc pc = .ok (.iconst n, 1)) (hv : Int32.ofInt n = v) (k : WI X A nc ns nL (pc + 1) lv (.int v :: st) ws) : WI X A nc ns nL pc lv st ws :=
  fun H locs ls hP hD hS hl => lv_iconst K.1 K.2.1 hd hv (k H locs ls hP hD hS hl)
theorem i_bipush (K : KI X kc nL ow A) {n : Int} {v : Int32} (hd : decode kc pc = .ok (.bipush n, 2)) (hv : (Int8.ofInt n).toInt32 = v) (k : WI X A nc ns nL (pc + 2) lv (.int v :: st) ws) : WI X A nc ns nL pc lv st ws :=
  fun H locs ls hP hD hS hl => lv_bipush K.1 K.2.1 hd hv (k H locs ls hP hD hS hl)
theorem i_sipush (K : KI X kc nL ow A) {n : Int} {v : Int32} (hd : decode kc pc = .ok (.sipush n, 3)) (hv : (Int16.ofInt n).toInt32 = v) (k : WI X A nc ns nL (pc + 3) lv (.int v :: st) ws) : WI X A nc ns nL pc lv st ws :=
  fun H locs ls hP hD hS hl => lv_sipush K.1 K.2.1 hd hv (k H locs ls hP hD hS hl)
theorem i_dup (K : KI X kc nL ow A) {a : Nat} (hd : decode kc pc = .ok (.dup, 1)) (k : WI X A nc ns nL (pc + 1) lv (.ref a :: .ref a :: st) ws) : WI X A nc ns nL pc lv (.ref a :: st) ws :=
  fun H locs ls hP hD hS hl => lv_dup K.1 K.2.1 hd rfl (k H locs ls hP hD hS hl)
theorem i_obj (K : KI X kc nL ow A) {a idx : Nat} (hlk : Cond.methodLink ow idx Lib.objectInit ∈ wsAll) (hd : decode kc pc = .ok (.invokespecial idx, 3)) (hfr : 1 ≤ X.R.frames) (hlo : (st.map fun v => v.category).sum + 12 ≤ X.R.locals) (k : WI X A nc ns nL (pc + 3) lv st ws) : WI X A nc ns nL pc lv (.ref a :: st) ws :=
  fun H locs ls hP hD hS hl => W.objInit K.1 K.2.1 K.2.2.2.1 (K.2.2.2.2.1 _ hlk) (K.2.2.2.2.1 _ oi_w) (K.2.2.2.2.1 _ oc_w) rfl (by rw [K.2.2.1]; exact hl.1) rfl hd hfr (by simpa using hlo) (k H locs ls hP hD hS hl)
theorem i_newI (K : KI X kc nL ow A) {n : Int32} {N : Nat} (hn : ¬ n < 0) (hN : n.toNatClampNeg = N) (hN2 : N ≤ 2000) (hcells : nc + 1 ≤ X.R.cells) (hslots : ns + N ≤ X.R.slots) (hd : decode kc pc = .ok (.newarray .int, 2)) (k : ∀ q, WI X A (nc + 1) (ns + N) nL (pc + 2) lv (.ref q :: st) (ws ++ [(q, zI (X.ca 0) N)])) : WI X A nc ns nL pc lv (.int n :: st) ws :=
  fun H locs ls hP hD hS hl => va_newa (atype := .int) (ty := .int) (a0 := (N, .inl (fun _ => 0))) K.1 K.2.1 (K.2.2.2.2.1 _ aw_I) rfl K.2.2.2.2.2.1 hP hD hS K.2.2.2.2.2.2.2.2 (fun _ => rfl) hn hN (by show N * 4 ≤ 536870912; omega) hcells hslots hd (fun q cA H1 hK1 hP1 hD1 hS1 => by
    have e1 : X.s.vm.findClass ("[" ++ (FieldType.int).toString) = some cA := (hK1.2 5 (cA, .int) rfl).2
    have e2 : X.s.vm.findClass ("[" ++ (FieldType.int).toString) = some (X.ca 0) := (K.2.2.2.2.2.1.2 0 (X.ca 0, .int) rfl).2
    cases e1.symm.trans e2
    exact k q H1 locs ls hP1 hD1 hS1 hl)
theorem i_newL (K : KI X kc nL ow A) {n : Int32} {N : Nat} (hn : ¬ n < 0) (hN : n.toNatClampNeg = N) (hN2 : N ≤ 2000) (hcells : nc + 1 ≤ X.R.cells) (hslots : ns + N ≤ X.R.slots) (hd : decode kc pc = .ok (.newarray .long, 2)) (k : ∀ q, WI X A (nc + 1) (ns + N) nL (pc + 2) lv (.ref q :: st) (ws ++ [(q, zL (X.ca 1) N)])) : WI X A nc ns nL pc lv (.int n :: st) ws :=
  fun H locs ls hP hD hS hl => va_newa (atype := .long) (ty := .long) (a0 := (N, .inr (.inl (fun _ => 0)))) K.1 K.2.1 (K.2.2.2.2.1 _ aw_L) rfl K.2.2.2.2.2.1 hP hD hS K.2.2.2.2.2.2.2.2 (fun _ => rfl) hn hN (by show N * 8 ≤ 536870912; omega) hcells hslots hd (fun q cA H1 hK1 hP1 hD1 hS1 => by
    have e1 : X.s.vm.findClass ("[" ++ (FieldType.long).toString) = some cA := (hK1.2 5 (cA, .long) rfl).2
    have e2 : X.s.vm.findClass ("[" ++ (FieldType.long).toString) = some (X.ca 1) := (K.2.2.2.2.2.1.2 1 (X.ca 1, .long) rfl).2
    cases e1.symm.trans e2
    exact k q H1 locs ls hP1 hD1 hS1 hl)
theorem i_newZ (K : KI X kc nL ow A) {n : Int32} {N : Nat} (hn : ¬ n < 0) (hN : n.toNatClampNeg = N) (hN2 : N ≤ 2000) (hcells : nc + 1 ≤ X.R.cells) (hslots : ns + N ≤ X.R.slots) (hd : decode kc pc = .ok (.newarray .boolean, 2)) (k : ∀ q, WI X A (nc + 1) (ns + N) nL (pc + 2) lv (.ref q :: st) (ws ++ [(q, zI (X.ca 2) N)])) : WI X A nc ns nL pc lv (.int n :: st) ws :=
  fun H locs ls hP hD hS hl => va_newa (atype := .boolean) (ty := .boolean) (a0 := (N, .inl (fun _ => 0))) K.1 K.2.1 (K.2.2.2.2.1 _ aw_Z) rfl K.2.2.2.2.2.1 hP hD hS K.2.2.2.2.2.2.2.2 (fun _ => rfl) hn hN (by show N * 1 ≤ 536870912; omega) hcells hslots hd (fun q cA H1 hK1 hP1 hD1 hS1 => by
    have e1 : X.s.vm.findClass ("[" ++ (FieldType.boolean).toString) = some cA := (hK1.2 5 (cA, .boolean) rfl).2
    have e2 : X.s.vm.findClass ("[" ++ (FieldType.boolean).toString) = some (X.ca 2) := (K.2.2.2.2.2.1.2 2 (X.ca 2, .boolean) rfl).2
    cases e1.symm.trans e2
    exact k q H1 locs ls hP1 hD1 hS1 hl)
theorem mO_va (q N : Nat) (c : ClassId) : arrV c N (mO q N) = vp_cell c (N, .inr (.inr (.inr (.inr (fun j => some (q + 1 + j)))))) := by
  show ({ cls := c, slots := Array.ofFn (n := N) fun j => mO q N j.val, vm := .none } : Cell) = { cls := c, slots := Array.ofFn (n := N) fun j => va_rf (some (q + 1 + j.val)), vm := .none }
  congr 2
  funext j
  exact if_pos j.isLt
/-- many cells more, at the end of the heap -/
theorem va_D.more {A : Nat → Prop} {D : va_G} {cl : List vw_C} {w1 w2 : va_W} {H : Heap} (hD : va_D A w1) (hP : va_P D cl w1 H) (h2 : ∀ (i : Nat) (q : Nat × va_E), w2[i]? = some q → q.1 = H.size + i) (hA : ∀ q, H.size ≤ q → A q) : va_D A (w1 ++ w2) := by
  refine va_D.app hD ⟨fun i j p q hi hj he => ?_, fun k q hk => hA _ (by rw [h2 k q hk]; omega)⟩ (fun i j p q hi hj he => ?_)
  · have a := h2 i p hi
    have b := h2 j q hj
    omega
  · have a := (hP i p hi).lt
    have b := h2 j q hj
    omega
theorem i_multi (K : KI X kc nL ow A) {nm : String} {index : Nat} {ty : FieldType} {cA cB c2 : ClassId} {kA kB : Class} {zr : ClassId → Nat → va_E} (hz : ∀ M : Nat, ∃ a, zr cB M = .inl (cB, a) ∧ vp_cell cB a = arrV cB M (fun _ => defaultValue ty)) (hcl : Cond.classLink ow index nm ∈ wsAll) (hfA : X.s.vm.findClass nm = some cA) (hkA : X.s.vm.classes[cA]? = some kA) (hkindA : kA.kind = .array cB (.array ty)) (hkB : X.s.vm.classes[cB]? = some kB) (hkindB : kB.kind = .array c2 ty) (hd : decode kc pc = .ok (.multianewarray index 2, 4)) {n k : Int32} {N M : Nat} (hN : n.toNatClampNeg = N) (hM : k.toNatClampNeg = M) (hn : ¬ n < 0) (hk : ¬ k < 0) (hb1 : N ≤ 1000) (hb2 : M ≤ 1000) (hcb : componentBytes ty ≤ 8) (hf : fits ty (defaultValue ty) = true) (hcells : nc + (1 + N) ≤ X.R.cells) (hslots : ns + (N + N * M) ≤ X.R.slots)
    (kk : ∀ q, WI X A (nc + 1 + N) (ns + N + N * M) nL (pc + 4) lv (.ref q :: st) (ws ++ (q, zA cA N q) :: (List.range N).map (fun j => (q + 1 + j, zr cB M)))) : WI X A nc ns nL pc lv (.int k :: .int n :: st) ws :=
  fun H locs ls hP hD hS hl => W_multi K.1 K.2.1 K.2.2.2.1 (K.2.2.2.2.1 _ hcl) hfA hkA hkindA hkB hkindB hd hN hM hn hk hb1 hb2 hcb hf hcells hslots (fun H' z1 z2 z3 z4 => by
    refine kk H.size H' locs ls ?_ ?_ ?_ hl
    · refine va_P.app (hP.kept (fun k q hq => z3 q.1 ((hP k q hq).lt))) (fun i q hq => ?_)
      cases i with
      | zero =>
        cases hq
        show H'[H.size]? = some (vp_cell cA _)
        rw [z2, mO_va]
      | succ i =>
        rw [List.getElem?_cons_succ, List.getElem?_map] at hq
        cases hr : (List.range N)[i]? with
        | none => rw [hr] at hq; cases hq
        | some i' =>
          obtain ⟨h1, h2⟩ := List.getElem?_eq_some_iff.mp hr
          rw [List.length_range] at h1
          rw [List.getElem_range] at h2
          subst h2
          rw [hr] at hq
          cases hq
          obtain ⟨a, a1, a2⟩ := hz M
          rw [a1]
          show H'[H.size + 1 + i]? = some (vp_cell cB a)
          rw [a2]
          exact z4 i h1
    · refine va_D.more hD hP (fun i q hq => ?_) (fun q hq => K.2.2.2.2.2.2.2.2 q (Nat.le_trans hS.1 hq))
      cases i with
      | zero => cases hq; rfl
      | succ i =>
        rw [List.getElem?_cons_succ, List.getElem?_map] at hq
        cases hr : (List.range N)[i]? with
        | none => rw [hr] at hq; cases hq
        | some i' =>
          obtain ⟨h1, h2⟩ := List.getElem?_eq_some_iff.mp hr
          rw [List.getElem_range] at h2
          subst h2
          rw [hr] at hq
          cases hq
          show H.size + 1 + i = H.size + (i + 1)
          omega
    · exact ⟨Nat.le_trans hS.1 (by omega), fun q h1 h2 => (z3 q (Nat.lt_of_lt_of_le h1 hS.1)).trans (hS.2.1 q h1 h2), hS.2.2⟩)
theorem i_mulI (K : KI X kc nL ow A) {index : Nat} (hcl : Cond.classLink ow index "[[I" ∈ wsAll) (hd : decode kc pc = .ok (.multianewarray index 2, 4)) {n k : Int32} {N M : Nat} (hN : n.toNatClampNeg = N) (hM : k.toNatClampNeg = M) (hn : ¬ n < 0) (hk : ¬ k < 0) (hb1 : N ≤ 1000) (hb2 : M ≤ 1000) (hcells : nc + (1 + N) ≤ X.R.cells) (hslots : ns + (N + N * M) ≤ X.R.slots)
    (kk : ∀ q, WI X A (nc + 1 + N) (ns + N + N * M) nL (pc + 4) lv (.ref q :: st) (ws ++ (q, zA (X.ca 3) N q) :: rwI (X.ca 0) N M q)) : WI X A nc ns nL pc lv (.int k :: .int n :: st) ws := by
  obtain ⟨kA, kB, c2, h1, h2, h3, h4⟩ := K.2.2.2.2.2.2.2.1.1
  exact i_multi (zr := zI) (ty := .int) K (fun M => ⟨_, rfl, rfl⟩) hcl (K.2.2.2.2.2.1.2 3 (X.ca 3, .array .int) rfl).2 h1 h2 h3 h4 hd hN hM hn hk hb1 hb2 (by decide) rfl hcells hslots kk
theorem i_mulL (K : KI X kc nL ow A) {index : Nat} (hcl : Cond.classLink ow index "[[J" ∈ wsAll) (hd : decode kc pc = .ok (.multianewarray index 2, 4)) {n k : Int32} {N M : Nat} (hN : n.toNatClampNeg = N) (hM : k.toNatClampNeg = M) (hn : ¬ n < 0) (hk : ¬ k < 0) (hb1 : N ≤ 1000) (hb2 : M ≤ 1000) (hcells : nc + (1 + N) ≤ X.R.cells) (hslots : ns + (N + N * M) ≤ X.R.slots)
    (kk : ∀ q, WI X A (nc + 1 + N) (ns + N + N * M) nL (pc + 4) lv (.ref q :: st) (ws ++ (q, zA (X.ca 4) N q) :: rwL (X.ca 1) N M q)) : WI X A nc ns nL pc lv (.int k :: .int n :: st) ws := by
  obtain ⟨kA, kB, c2, h1, h2, h3, h4⟩ := K.2.2.2.2.2.2.2.1.2
  exact i_multi (zr := zL) (ty := .long) K (fun M => ⟨_, rfl, rfl⟩) hcl (K.2.2.2.2.2.1.2 4 (X.ca 4, .array .long) rfl).2 h1 h2 h3 h4 hd hN hM hn hk hb1 hb2 (by decide) rfl hcells hslots kk
end
