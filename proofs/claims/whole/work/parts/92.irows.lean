/-! THE ROW of 'multianewarray' with two counts: first what the instruction's run gives, then the walk's step to it -/
section
variable {p : Program} {l : Launch} {e : Env} {R : Room} {s : State} {m : MethodId} {args : Array Value} {below : List Frame} {meth : Method} {c : Code} {T : State} {locs : List Loc} {cells slots : Nat} {E : CtlPost} {d : Bool} {acts : List Action}
theorem ms_two (X : Stand p l e R s m args below meth c T locs cells slots) {own nm : String} {index : Nat} {t : FieldType} {cA cB c2 : ClassId} {kA kB : Class} (hown : s.vm.findClass own = some m.cls) (hcl : (Cond.classLink own index nm).before args s = true) (hfA : s.vm.findClass nm = some cA) (hkA : s.vm.classes[cA]? = some kA) (hkindA : kA.kind = .array cB (.array t)) (hkB : s.vm.classes[cB]? = some kB) (hkindB : kB.kind = .array c2 t)
    {g : JFrame} (hg : g.method = m) {n k : Int32} {N M : Nat} {rest : List Value} (hst : g.stack = .int k :: .int n :: rest) (hn0 : ¬ n < 0) (hk0 : ¬ k < 0) (hN : n.toNatClampNeg = N) (hM : k.toNatClampNeg = M) (hb1 : N ≤ 1000) (hb2 : M ≤ 1000) (hw : componentBytes t ≤ 8) (hf : fits t (defaultValue t) = true) (h1 : cells + (1 + N) ≤ R.cells) (h2 : slots + (N + N * M) ≤ R.slots)
    {Q : Unit → Pre} (hq : ∀ (d' : Bool) (a' : List Action) (V : State), V.heap = mH T.heap cA N (arrV cB M fun _ => defaultValue t) N → Stand p l e R s m args below meth c V locs (cells + 1 + N) (slots + N + N * M) → Q () d' a' (V.setTop { g with stack := .ref T.heap.size :: rest })) : wp (Op.multianewarray.sem index 2) Q E e d acts (T.setTop g) := by
  subst hg
  obtain ⟨cN, hcN, hlink⟩ := Cond.classLink_spec hown hcl e.platform (by rw [X.admits.platform])
  obtain rfl : cA = cN := Option.some.inj (hfA.symm.trans hcN)
  obtain ⟨hgive, hwarm, hready⟩ := State.classEntry (e := e) X.warmed hlink
  have Y := X.noted hwarm
  obtain ⟨kA', hkA', eA⟩ := hwarm.alike.2.2 _ _ hkA
  obtain ⟨kB', hkB', eB⟩ := hwarm.alike.2.2 _ _ hkB
  have top := X.here.top
  simp only [Op.multianewarray.sem, wp_bind']
  rw [W.resolveClassAt_transfer (s := T.setTop g) (State.method?_setTop g top) hgive hready]
  rw [W.resolveClassAt_ready (s := (T.setTop g).setVm (T.vm.noted g.method.cls index (.cls cA))) (State.method?_setTop g top) hready]
  simp only [wp_bind']
  refine (Op.popN_top (s := T.setVm (T.vm.noted g.method.cls index (.cls cA))) (args := [.int n, .int k]) (rest := rest) top hst).mpr ?_
  simp only [List.mapM_cons, List.mapM_nil, wp_bind', wp_pure']
  refine mk_two Y hkA' (by rw [eA]; exact hkindA) hkB' (by rw [eB]; exact hkindB) hn0 hk0 hN hM hb1 hb2 hw hf h1 h2 fun d1 a1 U hU => ?_
  obtain ⟨V, rfl, -, hh, Z⟩ := hU
  simp only [wp_bind', W.mark, W.pushRef]
  refine ⟨_, State.topJava?_setTop' _ Z.here.top, ?_⟩
  rw [State.setTop_setTop]
  exact hq _ _ V hh Z
end
theorem W_multi {p : Program} {l : Launch} {e : Env} {R : Room} {s : State} {m : MethodId} {args : Array Value} {below : List Frame} {meth : Method} {c : Code} {H : Heap} {locs : List Loc} {cells slots : Nat} {Q : State → Prop} {kc : ByteArray} (hexec : p.tables.exec = Jvm.exec) (hb : c.code = kc) {own nm : String} {index : Nat} {ty : FieldType} {cA cB c2 : ClassId} {kA kB : Class} (hown : s.vm.findClass own = some m.cls) (hcl : (Cond.classLink own index nm).before args s = true) (hfA : s.vm.findClass nm = some cA) (hkA : s.vm.classes[cA]? = some kA) (hkindA : kA.kind = .array cB (.array ty)) (hkB : s.vm.classes[cB]? = some kB) (hkindB : kB.kind = .array c2 ty)
    {pc : Nat} {ls : Array Slot} {rest : List Value} (hdg : decode kc pc = .ok (.multianewarray index 2, 4)) {n k : Int32} {N M : Nat} (hN : n.toNatClampNeg = N) (hM : k.toNatClampNeg = M) (hn : ¬ n < 0) (hk : ¬ k < 0) (hb1 : N ≤ 1000) (hb2 : M ≤ 1000) (hcb : componentBytes ty ≤ 8) (hf : fits ty (defaultValue ty) = true) (hcells : cells + (1 + N) ≤ R.cells) (hslots : slots + (N + N * M) ≤ R.slots)
    (kk : ∀ H' : Heap, H'.size = H.size + 1 + N → H'[H.size]? = some (arrV cA N (mO H.size N)) → (∀ q : Nat, q < H.size → H'[q]? = H[q]?) → (∀ j : Nat, j < N → H'[H.size + 1 + j]? = some (arrV cB M (fun _ => defaultValue ty))) → W p l e R s m args below meth c H' locs (cells + 1 + N) (slots + N + N * M) Q (F0 m (pc + 4) ls (.ref H.size :: rest))) : W p l e R s m args below meth c H locs cells slots Q (F0 m pc ls (.int k :: .int n :: rest)) := by
  intro T hT X
  subst hT
  have run : wpRun (p.tables.exec (.multianewarray index 2)) (fun _ U _ => ∃ V : State, U = V.setTop (F0 m pc ls (.ref T.heap.size :: rest)) ∧ V.heap = mH T.heap cA N (arrV cB M fun _ => defaultValue ty) N ∧ Stand p l e R s m args below meth c V locs (cells + 1 + N) (slots + N + N * M)) (fun _ _ _ => False) e (T.setTop (F0 m pc ls (.int k :: .int n :: rest))) := by
    rw [hexec]
    exact ms_two X hown hcl hfA hkA hkindA hkB hkindB (g := F0 m pc ls (.int k :: .int n :: rest)) rfl rfl hn hk hN hM hb1 hb2 hcb hf hcells hslots fun _ _ V hV Y => ⟨V, rfl, hV, Y⟩
  rw [Sem.wpRun_iff_run] at run
  cases hr : (p.tables.exec (.multianewarray index 2)).run e (T.setTop (F0 m pc ls (.int k :: .int n :: rest))) with
  | ctl x U as =>
    rw [hr] at run
    cases x <;> exact run.elim
  | ok u U as =>
    rw [hr] at run
    obtain ⟨V, rfl, hV, Y⟩ := run
    obtain ⟨t, go, done⟩ := kk V.heap (by rw [hV, mH_size]) (by rw [hV, mH_out]) (fun q hq => by rw [hV, mH_old _ _ _ _ _ hq]) (fun j hj => by rw [hV, mH_row _ _ _ _ _ hj]) V rfl Y
    refine ⟨t, Steps.instr (c := c) X.here ?_, done⟩
    show match decode c.code pc with | .ok (i, len) => _ | .error _ => _
    rw [hb, hdg]
    refine (Sem.wpRun_iff_run _ _ _ _ _).mpr ?_
    rw [hr]
    intro acts
    rw [afterInstr_ok]
    exact go
